/-! the invariants: a tick; between ticks -/
section TIC
variable {B Tn D2 D3 D4 : Int} {p1 p2 q1 q2 qg : Bool} {j U : Int} {A A' : Ab}
theorem tellL_co : ∀ (l : List kRow) (A : Ab), CO B Tn D2 D3 D4 p1 p2 q1 q2 qg 0 U A → (∀ v ∈ l, okV v ∧ (v 1).toInt ∈ kNn (A.2 2)) → CO B Tn D2 D3 D4 p1 p2 q1 q2 qg 0 U (aTellL A l) := by
  intro l
  induction l with
  | nil => intro A h _; exact h
  | cons v t ih =>
    intro A h hv
    obtain ⟨a1, a2⟩ := hv v (List.mem_cons_self ..)
    exact ih (aTells A (v 1) (v 2) (v 3)) (tells_co h a1.2 a2) fun u hu => by
      have := hv u (List.mem_cons_of_mem _ hu)
      rw [tells_n (by decide)]
      exact this
theorem co_T2 (h : CO B Tn D2 D3 D4 p1 p2 q1 q2 qg j U A) {l : List kRow} (hs : List.Sublist l (A.2 2)) {D : Int} (hD : ∀ v ∈ l, D < (v 0).toInt) : CO B Tn D D3 D4 p1 p2 q1 q2 qg j U (aT A 2 l) := by
  obtain ⟨h1, h2, h3, h4, h5, h6, h7, h8, h9⟩ := h
  have n : ∀ k, k ≠ 2 → (aT A 2 l).2 k = A.2 k := fun k hk => aT_ne _ _ hk
  refine ⟨(st_t2 fun w z hz => w.2.2.2.2.2 z (hs.subset hz)).1 h1, h2, h3, ?_, ?_, ?_, ?_, ?_, ?_⟩
  · rw [n 0 (by decide)]; exact h4
  · rw [n 1 (by decide)]; exact h5
  · rw [n 1 (by decide)]; exact h6
  · rw [n 1 (by decide), aT_same]
    exact rx_N h7 fun x hx => (hs.map _).subset hx
  · rw [aT_same]
    exact vi_sub h8 hs hD
  · rw [n 3 (by decide), n 4 (by decide)]; exact h9
theorem co_T34 (h : CO B Tn D2 D3 D4 p1 p2 q1 q2 qg j U A) (w : WI A') (e : A'.1 = A.1) (n : ∀ k, k < 3 → A'.2 k = A.2 k) {D D' : Int} (s3 : List.Sublist (A'.2 3) (A.2 3)) (s4 : List.Sublist (A'.2 4) (A.2 4)) (h3' : ∀ v ∈ A'.2 3, D < (v 0).toInt) (h4' : ∀ v ∈ A'.2 4, D' ≤ (v 0).toInt) : CO B Tn D2 D D' p1 p2 q1 q2 qg j U A' := by
  obtain ⟨h1, h2, h3, h4, h5, h6, h7, h8, h9⟩ := h
  refine ⟨w, ?_, ?_, ?_, ?_, ?_, ?_, ?_, ?_⟩
  · unfold CI; rw [e]; exact h2
  · rw [e]; exact h3
  · rw [e, n 0 (by decide)]; exact h4
  · rw [n 1 (by decide)]; exact h5
  · rw [e, n 1 (by decide)]; exact h6
  · rw [e, n 1 (by decide), n 2 (by decide)]; exact h7
  · rw [e, n 2 (by decide)]; exact h8
  · exact ei_sub h9 s3 s4 h3' h4'
theorem conf_co (h : CO B Tn D2 D3 D4 p1 p2 q1 q2 qg j U A) : CO B Tn D2 D3 D4 p1 p2 q1 q2 qg j U (aConfirm A) := by
  have s := st_confirm (A := A)
  refine co_ext h (s.1 h.1) s.2 (sub_eq (congrArg kNm (confirm_n (by decide)))) (congrArg kM (confirm_n (by decide))) (confirm_n (by decide)) (confirm_n (by decide)) ?_
  unfold aConfirm
  split
  · exact sub_eq alarm_n
  · show List.Sublist ((aRem A 4 0).2 4) _
    rw [rem_same]
    exact List.eraseIdx_sublist _ _
theorem confL_co : ∀ (l : List kRow) (A : Ab), CO B Tn D2 D3 D4 p1 p2 q1 q2 qg j U A → CO B Tn D2 D3 D4 p1 p2 q1 q2 qg j U (aConfL A l) := by
  intro l
  induction l with
  | nil => intro A h; exact h
  | cons v t ih => intro A h; exact ih (aConfirm A) (conf_co h)
theorem alarmL_co : ∀ (l : List kRow) (A : Ab), CO B Tn D2 D3 D4 p1 p2 q1 q2 qg j U A → CO B Tn D2 D3 D4 p1 p2 q1 q2 qg j U (aAlarmL A l) := by
  intro l
  induction l with
  | nil => intro A h; exact h
  | cons v t ih =>
    intro A h
    have s := st_alarm (A := A) (k := 2) (by decide)
    exact ih (aAlarm A 2) (co_ext h (s.1 h.1) s.2 (sub_eq (congrArg kNm alarm_n)) (congrArg kM alarm_n) alarm_n alarm_n (sub_eq alarm_n))
theorem pre_co (hB : B + 1 ≤ 1000000000) (h : RI B p1 p2 A) : ((aPre A).1 14).toInt = (A.1 14).toInt + 1 ∧ CO (B + 1) ((A.1 14).toInt + 1) ((A.1 14).toInt + 1) ((A.1 14).toInt + 1) ((A.1 14).toInt + 1) p1 p2 false false false 0 1020 (aPre A) := by
  obtain ⟨h1, h2, h3, h4, h5, h6, h7, h8, h9⟩ := h
  have e1 : (1 : Int32).toInt = 1 := by decide
  have et : (A.1 14 + 1).toInt = (A.1 14).toInt + 1 := by rw [ti_add (by rw [e1]; omega) (by rw [e1]; omega), e1]
  have hc : CO (B + 1) ((A.1 14).toInt + 1) (A.1 14).toInt (A.1 14).toInt (A.1 14).toInt p1 p2 false false false 0 1020 (aS A 14 (A.1 14 + 1)) := by
    have e : ∀ i, i ≠ 14 → (aS A 14 (A.1 14 + 1)).1 i = A.1 i := fun i hi => aS_ne _ _ hi
    have e14 : (aS A 14 (A.1 14 + 1)).1 14 = A.1 14 + 1 := aS_eq _ _ _
    refine ⟨wi_pre h1, ?_, ?_, ?_, h5, ?_, ?_, ?_, h9⟩
    · unfold CI
      rw [e 0 (by decide), e 1 (by decide), e 2 (by decide), e 3 (by decide), e 5 (by decide), e 7 (by decide), e 8 (by decide), e 9 (by decide), e 10 (by decide), e 11 (by decide)]
      exact h2
    · rw [e14, et, e 17 (by decide)]
      omega
    · rw [e 17 (by decide)]; exact h4
    · rw [e 17 (by decide)]; exact h6
    · rw [e 8 (by decide), e 9 (by decide), e 10 (by decide)]; exact h7
    · rw [e 17 (by decide)]; exact h8
  have et2 : ((aS A 14 (A.1 14 + 1)).1 14).toInt = (A.1 14).toInt + 1 := by rw [aS_eq, et]
  unfold aPre
  generalize aS A 14 (A.1 14 + 1) = A1 at hc et2 ⊢
  have sd := st_deliver hc.1
  have hd : CO (B + 1) ((A.1 14).toInt + 1) ((A.1 14).toInt + 1) (A.1 14).toInt (A.1 14).toInt p1 p2 false false false 0 1020 (aDeliver A1) := by
    unfold aDeliver
    refine co_T2 (tellL_co _ A1 hc fun v hv => ?_) ?_ fun v hv => ?_
    · have hv2 := (List.mem_filter.mp hv).1
      exact ⟨hc.1.2.2.2.2.2 v hv2, List.mem_map_of_mem hv2⟩
    · rw [tellL_n (by decide)]
      exact List.filter_sublist
    · obtain ⟨m1, m2⟩ := List.mem_filter.mp hv
      rw [decide_eq_true_eq] at m2
      have := (hc.2.2.2.2.2.2.2.1.1 v m1).1
      have ne : (v 0).toInt ≠ (A1.1 14).toInt := fun z => m2 (Int32.toInt_inj.mp z)
      omega
  have ed : ((aDeliver A1).1 14).toInt = (A.1 14).toInt + 1 := by rw [sd.2 14 (by unfold kFx; omega)]; exact et2
  generalize aDeliver A1 = A2 at hd ed ⊢
  have ha : CO (B + 1) ((A.1 14).toInt + 1) ((A.1 14).toInt + 1) ((A.1 14).toInt + 1) (A.1 14).toInt p1 p2 false false false 0 1020 (aArrive A2) := by
    have hcf := confL_co (j := 0) ((A2.2 3).filter (fun r => decide (r 0 = A2.1 14))) A2 hd
    have n3 : (aConfL A2 ((A2.2 3).filter (fun r => decide (r 0 = A2.1 14)))).2 3 = A2.2 3 := confL_n (by decide) _
    unfold aArrive
    generalize aConfL A2 ((A2.2 3).filter (fun r => decide (r 0 = A2.1 14))) = A3 at hcf n3 ⊢
    refine co_T34 hcf ((st_t34 (by decide)).1 hcf.1) rfl (fun k hk => aT_ne _ _ (by omega)) ?_ (sub_eq (aT_ne _ _ (by decide))) (fun v hv => ?_) (fun v hv => ?_)
    · rw [aT_same, n3]
      exact List.filter_sublist
    · rw [aT_same] at hv
      obtain ⟨m1, m2⟩ := List.mem_filter.mp hv
      rw [decide_eq_true_eq] at m2
      have := (hd.2.2.2.2.2.2.2.2.1 v m1).1
      have ne : (v 0).toInt ≠ (A2.1 14).toInt := fun z => m2 (Int32.toInt_inj.mp z)
      omega
    · rw [aT_ne _ _ (by decide)] at hv
      exact (hcf.2.2.2.2.2.2.2.2.2.2.1 v hv).1
  have ea : ((aArrive A2).1 14).toInt = (A.1 14).toInt + 1 := by rw [st_arrive.2 14 (by unfold kFx; omega)]; exact ed
  generalize aArrive A2 = A3 at ha ea ⊢
  refine ⟨by rw [st_overdue.2 14 (by unfold kFx; omega)]; exact ea, ?_⟩
  have hal := alarmL_co (j := 0) ((A3.2 4).filter (fun r => decide (¬ A3.1 14 ≤ r 0))) A3 ha
  have n4 : (aAlarmL A3 ((A3.2 4).filter (fun r => decide (¬ A3.1 14 ≤ r 0)))).2 4 = A3.2 4 := alarmL_n _
  unfold aOverdue
  generalize aAlarmL A3 ((A3.2 4).filter (fun r => decide (¬ A3.1 14 ≤ r 0))) = A4 at hal n4 ⊢
  refine co_T34 hal ((st_t34 (by decide)).1 hal.1) rfl (fun k hk => aT_ne _ _ (by omega)) (sub_eq (aT_ne _ _ (by decide))) ?_ (fun v hv => ?_) (fun v hv => ?_)
  · rw [aT_same, n4]
    exact List.filter_sublist
  · rw [aT_ne _ _ (by decide)] at hv
    exact (hal.2.2.2.2.2.2.2.2.1 v hv).1
  · rw [aT_same] at hv
    obtain ⟨m1, m2⟩ := List.mem_filter.mp hv
    rw [decide_eq_true_eq] at m2
    have := Int32.le_iff_toInt_le.mp m2
    omega
theorem nI_back {x : Int32} (h : 0 ≤ x.toInt) : x = nI x.toNatClampNeg ∧ (x.toNatClampNeg : Int) = x.toInt := by
  obtain ⟨k, hk, e⟩ := nI_of (x := x) (fun z => by
    have := Int32.lt_iff_toInt_lt.mp z
    have e0 : (0 : Int32).toInt = 0 := by decide
    omega)
  subst e
  rw [nI_clamp hk, nI_toInt hk]
  exact ⟨rfl, rfl⟩
theorem tick_co (hB : B + 1 ≤ 1000000000) (h : RI B p1 p2 A) : okTick A ∧ ∃ p1' p2', RI (B + 1) p1' p2' (aTick A) := by
  obtain ⟨e14, hc⟩ := pre_co hB h
  have c0 := hc.2.1.1
  obtain ⟨b1, b2⟩ := nI_back (x := (aPre A).1 0) (by omega)
  obtain ⟨o, j', q1', q2', qg', g1, g2, z⟩ := pulses_co hB ((aPre A).1 0).toNatClampNeg 0 false false false (aPre A) (Int.le_refl _) (by omega) e14 hc
  refine ⟨⟨o, b1, by omega⟩, q1', q2', ?_⟩
  unfold aTick
  exact co_end g1 g2 (by rw [(st_pulses _).2 14 (by unfold kFx; omega)]; exact e14) z
def RIe (B : Int) (A : Ab) : Prop := ∃ p1 p2, RI B p1 p2 A
theorem rie_tick (hB : B + 1 ≤ 1000000000) (h : RIe B A) : okTick A ∧ RIe (B + 1) (aTick A) := by
  obtain ⟨p1, p2, h⟩ := h
  obtain ⟨o, p1', p2', z⟩ := tick_co hB h
  exact ⟨o, p1', p2', z⟩
theorem rie_wi (h : RIe B A) : WI A := by
  obtain ⟨p1, p2, h⟩ := h
  exact h.1
theorem rie_ci (h : RIe B A) : CI A := by
  obtain ⟨p1, p2, h⟩ := h
  exact h.2.1
theorem rie_nn (h : RIe B A) : 0 ≤ (A.1 14).toInt ∧ (A.1 14).toInt ≤ B ∧ 0 ≤ (A.1 17).toInt ∧ (A.1 17).toInt ≤ B := by
  obtain ⟨p1, p2, h⟩ := h
  exact h.2.2.1
theorem rie_d1 (h : RIe B A) : kDst (A.2 1) := by
  obtain ⟨p1, p2, h⟩ := h
  have h5 : RG (kM (A.2 1)) := h.2.2.2.2.1
  unfold RG kM at h5
  rw [List.pairwise_map] at h5
  refine h5.imp fun {a b} z e => ?_
  have z1 : (a 0).toInt < (b 0).toInt := z.1
  rw [e] at z1
  omega
theorem rie_d0 (h : RIe B A) : kDst (A.2 0) := by
  obtain ⟨p1, p2, h⟩ := h
  have h5 := h.2.2.2.1.2.1
  unfold kNm at h5
  rw [List.pairwise_map] at h5
  refine h5.imp fun {a b} z e => ?_
  rw [e] at z
  omega
theorem rie_mono (h : RIe B A) {B' : Int} (hB : B ≤ B') : RIe B' A := by
  obtain ⟨p1, p2, h1, h2, h3, h4⟩ := h
  exact ⟨p1, p2, h1, h2, by omega, h4⟩
theorem rie_runs : ∀ (m : Nat) (B : Int) (A : Ab), B + m ≤ 1000000000 → RIe B A → RIe (B + m) (aRuns m A) := by
  intro m
  induction m with
  | zero =>
    intro B A _ h
    exact rie_mono h (by omega)
  | succ m ih =>
    intro B A hB h
    have := ih (B + 1) (aTick A) (by omega) (rie_tick (by omega) h).2
    exact rie_mono this (by omega)
/-- only scalars have changed, no place -/
theorem rie_scal (h : RIe B A) (e2 : A'.2 = A.2) (w : WI A') (c : CI A') (e8 : A'.1 8 = A.1 8) (e9 : A'.1 9 = A.1 9) (e10 : A'.1 10 = A.1 10) (e14 : A'.1 14 = A.1 14) (e17 : A'.1 17 = A.1 17) : RIe B A' := by
  obtain ⟨p1, p2, h1, h2, h3, h4, h5, h6, h7, h8, h9⟩ := h
  refine ⟨p1, p2, w, c, ?_, ?_, ?_, ?_, ?_, ?_, ?_⟩
  · rw [e14, e17]; exact h3
  · rw [e17, e2]; exact h4
  · rw [e2]; exact h5
  · rw [e17, e2]; exact h6
  · rw [e8, e9, e10, e2]; exact h7
  · rw [e14, e17, e2]; exact h8
  · rw [e14, e2]; exact h9
/-- no records: any places -/
theorem rie_plc (h : RIe B A) (e2 : A'.2 = A.2) (w : WI A') (c : CI A') (e14 : A'.1 14 = A.1 14) (e17 : A'.1 17 = A.1 17) (hn : A.2 1 = []) : RIe B A' := by
  obtain ⟨p1, p2, h1, h2, h3, h4, h5, h6, h7, h8, h9⟩ := h
  refine ⟨p1, p2, w, c, ?_, ?_, ?_, ?_, ?_, ?_, ?_⟩
  · rw [e14, e17]; exact h3
  · rw [e17, e2]; exact h4
  · rw [e2]; exact h5
  · rw [e17, e2]; exact h6
  · rw [e2]
    rw [hn] at h7 ⊢
    exact rx_nil h7
  · rw [e14, e17, e2]; exact h8
  · rw [e14, e2]; exact h9
/-- only items have changed, or gone -/
theorem rie_itm (h : RIe B A) (w : WI A') (e : ∀ i, kFx i → A'.1 i = A.1 i) (e0 : List.Sublist (kNm (A'.2 0)) (kNm (A.2 0))) (n : ∀ k, 0 < k → A'.2 k = A.2 k) : RIe B A' := by
  obtain ⟨p1, p2, h⟩ := h
  refine ⟨p1, p2, ?_⟩
  unfold RI
  rw [e 14 (by unfold kFx; omega)]
  exact co_ext h w e e0 (by rw [n 1 (by decide)]) (n 2 (by decide)) (n 3 (by decide)) (sub_eq (n 4 (by decide)))
theorem kbel_ge {c : Nat} {b : Int32} : ∀ (l : List kRow), kbel l c b = 0 → ∀ r ∈ l, b ≤ r c := by
  intro l
  induction l with
  | nil => intro _ r hr; cases hr
  | cons x t ih =>
    intro h r hr
    by_cases q : b ≤ x c
    · have h2 : kbel t c b = 0 := by
        have : kbel (x :: t) c b = kbel t c b := if_pos q
        rw [← this]; exact h
      rcases List.mem_cons.mp hr with z | z
      · rw [z]; exact q
      · exact ih h2 r z
    · have : kbel (x :: t) c b = 1 := if_neg q
      rw [this] at h
      exact absurd h (by decide)
theorem rg_len : ∀ (M : List tr) (hi : Int), 0 ≤ hi → RG M → (∀ a ∈ M, 30 ≤ a.2.1 ∧ a.2.1 ≤ hi) → 30 * (M.length : Int) ≤ hi := by
  intro M
  induction M with
  | nil => intro hi h _ _; simp only [List.length_nil]; omega
  | cons a t ih =>
    intro hi h hg hb
    obtain ⟨g1, g2⟩ := List.pairwise_cons.mp hg
    have ha := hb a (List.mem_cons_self ..)
    have := ih (a.2.1 - 30) (by omega) g2 fun b hb' => ⟨(hb b (List.mem_cons_of_mem _ hb')).1, by have := g1 b hb'; omega⟩
    simp only [List.length_cons]
    omega
theorem rie_enter (hB : B + 1 ≤ 1000000000) (h : RIe B A) (hr : aRoom A = true) {q : Int32} (hq : q = 0 ∨ q = 1 ∨ q = 2 ∨ q = 3) : (A.2 0).length < 20 ∧ (A.2 1).length < 35 ∧ RIe (B + 1) (aEnter A q) := by
  obtain ⟨p1, p2, h1, h2, h3, h4, h5, h6, h7, h8, h9⟩ := h
  obtain ⟨⟨r1, r2⟩, r3⟩ := room_iff.mp hr
  have e30 : (30 : Int32).toInt = 30 := by decide
  have e1 : (1 : Int32).toInt = 1 := by decide
  have e0 : (0 : Int32).toInt = 0 := by decide
  have hp : ∀ a ∈ kM (A.2 1), 30 ≤ a.2.1 := fun a ha => by
    obtain ⟨r, hr', rfl⟩ := List.mem_map.mp ha
    have := Int32.le_iff_toInt_le.mp (kbel_ge _ r3 r hr')
    show 30 ≤ (r 1).toInt
    omega
  have hl := rg_len (kM (A.2 1)) 1020 (by omega) h5 fun a ha => ⟨hp a ha, (h6 a ha).2.2.2⟩
  rw [kM_len] at hl
  refine ⟨r1, by omega, p1, p2, ?_⟩
  have ef : (A.1 17 + 1).toInt = (A.1 17).toInt + 1 := by rw [ti_add (by rw [e1]; omega) (by rw [e1]; omega), e1]
  have f : ∀ i, i ≠ 17 → (aEnter A q).1 i = A.1 i := fun i hi => upd_ne _ _ hi
  have f17 : (aEnter A q).1 17 = A.1 17 + 1 := upd_same A.1 17 (A.1 17 + 1)
  have n1 : (aEnter A q).2 1 = A.2 1 ++ [upd kz 0 (A.1 17)] := (push_same _ 1 _).trans (by rw [push_ne _ _ (show 1 ≠ 0 by decide)]; rfl)
  have n0 : (aEnter A q).2 0 = A.2 0 ++ [upd (upd kz 0 (A.1 17)) 2 q] := (push_ne _ _ (show 0 ≠ 1 by decide)).trans (push_same _ 0 _)
  have n : ∀ k, k ≠ 0 → k ≠ 1 → (aEnter A q).2 k = A.2 k := fun k k0 k1 => (push_ne _ _ k1).trans (push_ne _ _ k0)
  have em : kM ((aEnter A q).2 1) = kM (A.2 1) ++ [((A.1 17).toInt, 0, 0)] := by
    rw [n1]
    unfold kM
    rw [List.map_append]
    rfl
  have en : kNm ((aEnter A q).2 0) = kNm (A.2 0) ++ [(A.1 17).toInt] := by
    rw [n0]
    unfold kNm
    rw [List.map_append]
    rfl
  unfold RI
  rw [f 14 (by decide)]
  refine ⟨⟨?_, ?_, ?_, ?_, ?_, ?_⟩, ?_, ?_, ?_, ?_, ?_, ?_, ?_, ?_⟩
  · rw [f 13 (by decide)]; exact h1.1
  · rw [f 15 (by decide)]; exact h1.2.1
  · rw [f 15 (by decide), f 16 (by decide)]; exact h1.2.2.1
  · rw [n0]
    intro z hz
    rcases List.mem_append.mp hz with y | y
    · exact h1.2.2.2.1 z y
    · rw [List.mem_singleton.mp y]
      exact ⟨hq, Or.inl rfl⟩
  · rw [n1]
    intro z hz
    rcases List.mem_append.mp hz with y | y
    · exact h1.2.2.2.2.1 z y
    · rw [List.mem_singleton.mp y]
      exact ⟨Or.inl rfl, Or.inl rfl, Or.inl rfl, Or.inl rfl⟩
  · rw [n 2 (by decide) (by decide)]; exact h1.2.2.2.2.2
  · unfold CI
    rw [f 0 (by decide), f 1 (by decide), f 2 (by decide), f 3 (by decide), f 5 (by decide), f 7 (by decide), f 8 (by decide), f 9 (by decide), f 10 (by decide), f 11 (by decide)]
    exact h2
  · rw [f 14 (by decide), f17, ef]
    omega
  · rw [f17, ef, en]
    refine ⟨?_, ?_, fun x hx => ?_⟩
    · have : (kNm (A.2 0)).length = (A.2 0).length := List.length_map ..
      rw [List.length_append, List.length_cons, List.length_nil]
      omega
    · refine List.pairwise_append.mpr ⟨h4.2.1, List.pairwise_singleton _ _, fun a ha b hb => ?_⟩
      rw [List.mem_singleton.mp hb]
      exact (h4.2.2 a ha).2
    · rcases List.mem_append.mp hx with y | y
      · have := h4.2.2 x y
        omega
      · rw [List.mem_singleton.mp y]
        omega
  · rw [em]
    refine List.pairwise_append.mpr ⟨h5, List.pairwise_singleton _ _, fun a ha b hb => ?_⟩
    rw [List.mem_singleton.mp hb]
    have := hp a ha
    exact ⟨(h6 a ha).2.1, by show (0 : Int) + 30 ≤ _; omega⟩
  · rw [em, f17, ef]
    intro a ha
    rcases List.mem_append.mp ha with y | y
    · have := h6 a y
      omega
    · rw [List.mem_singleton.mp y]
      show 0 ≤ (A.1 17).toInt ∧ (A.1 17).toInt < (A.1 17).toInt + 1 ∧ (0 : Int) ≤ 0 ∧ (0 : Int) ≤ 1020
      omega
  · rw [em, f 8 (by decide), f 9 (by decide), f 10 (by decide), n 2 (by decide) (by decide)]
    refine rx_new h7 (by have := h2.2.2.2.2.2; omega) fun z => ?_
    obtain ⟨r, hr', e⟩ := List.mem_map.mp z
    have := (h8.1 r hr').2.2.2.2
    omega
  · rw [f17, ef, n 2 (by decide) (by decide)]
    exact vi_F h8 (by omega)
  · rw [n 3 (by decide) (by decide), n 4 (by decide) (by decide)]; exact h9
end TIC
