/-! what holds of the verdicts on their way, of the items on their way, of the expectations -/
def vg (r : kRow) : Int := (r 4).toInt
def VI (Tn D F : Int) (p1 p2 q1 q2 : Bool) (V : List kRow) : Prop :=
  (∀ v ∈ V, D < (v 0).toInt ∧ (v 0).toInt ≤ vg v + 100 ∧ vg v ≤ Tn ∧ 0 ≤ (v 1).toInt ∧ (v 1).toInt < F) ∧ V.Pairwise (fun a b => vg a ≤ vg b) ∧ (∀ a b c : kRow, List.Sublist [a, b, c] V → vg a + 2 ≤ vg c) ∧ V.countP (fun v => decide (Tn - 1 ≤ vg v)) ≤ p1.toNat + p2.toNat + q1.toNat + q2.toNat ∧ V.countP (fun v => decide (Tn ≤ vg v)) ≤ q1.toNat + q2.toNat
def EI (Tn D3 D4 : Int) (qg : Bool) (l3 l4 : List kRow) : Prop :=
  (∀ v ∈ l3, D3 < (v 0).toInt ∧ (v 0).toInt ≤ (v 1).toInt + 50 ∧ (v 1).toInt ≤ Tn ∧ (qg = false → (v 1).toInt < Tn)) ∧ l3.Pairwise (fun a b => (a 1).toInt < (b 1).toInt) ∧ (∀ v ∈ l4, D4 ≤ (v 0).toInt ∧ (v 0).toInt ≤ (v 1).toInt + 100 ∧ (v 1).toInt ≤ Tn ∧ (qg = false → (v 1).toInt < Tn)) ∧ l4.Pairwise (fun a b => (a 1).toInt < (b 1).toInt)
theorem tri_len (hi : Int) : ∀ (n : Nat) (V : List kRow) (lo : Int), V.length ≤ n → lo ≤ hi + 2 → (∀ v ∈ V, lo ≤ vg v ∧ vg v ≤ hi) → (∀ a b c : kRow, List.Sublist [a, b, c] V → vg a + 2 ≤ vg c) → (V.length : Int) ≤ hi - lo + 2 := by
  intro n
  induction n with
  | zero =>
    intro V lo hl hh _ _
    have : V.length = 0 := by omega
    omega
  | succ n ih =>
    intro V lo hl hh hv ht
    match V, hl, hv, ht with
    | [], _, _, _ => simp only [List.length_nil]; omega
    | [a], _, hv, _ =>
      have := hv a (List.mem_singleton.mpr rfl)
      simp only [List.length_cons, List.length_nil]
      omega
    | a :: b :: t, hl, hv, ht =>
      have h1 := hv a (List.mem_cons_self ..)
      have h2 := ih t (vg a + 2) (by simp only [List.length_cons] at hl; omega) (by omega) (fun c hc => ⟨ht a b c (List.cons_sublist_cons.mpr (List.cons_sublist_cons.mpr (List.singleton_sublist.mpr hc))), (hv c (List.mem_cons_of_mem _ (List.mem_cons_of_mem _ hc))).2⟩) (fun x y z hs => ht x y z ((hs.trans (List.sublist_cons_self _ _)).trans (List.sublist_cons_self _ _)))
      simp only [List.length_cons]
      omega
theorem inc_len (hi : Int) : ∀ (V : List kRow) (lo : Int), lo ≤ hi + 1 → (∀ v ∈ V, lo ≤ (v 1).toInt ∧ (v 1).toInt ≤ hi) → V.Pairwise (fun a b => (a 1).toInt < (b 1).toInt) → (V.length : Int) ≤ hi - lo + 1 := by
  intro V
  induction V with
  | nil => intro lo h _ _; simp only [List.length_nil]; omega
  | cons a t ih =>
    intro lo h hv hp
    obtain ⟨h1, h2⟩ := List.pairwise_cons.mp hp
    have ha := hv a (List.mem_cons_self ..)
    have := ih ((a 1).toInt + 1) (by omega) (fun b hb => by
      have := h1 b hb
      have := hv b (List.mem_cons_of_mem _ hb)
      omega) h2
    simp only [List.length_cons]
    omega
section VIS
variable {Tn D F : Int} {p1 p2 q1 q2 qg : Bool} {V V' : List kRow}
theorem vi_len (h : VI Tn D F p1 p2 q1 q2 V) (hD : D = Tn) : V.length < 120 := by
  obtain ⟨h1, h2, h3, h4, h5⟩ := h
  have := tri_len Tn V.length V (Tn - 99) (Nat.le_refl _) (by omega) (fun v hv => by have := h1 v hv; omega) h3
  omega
theorem vi_sub (h : VI Tn D F p1 p2 q1 q2 V) (hs : List.Sublist V' V) {D' : Int} (hD : ∀ v ∈ V', D' < (v 0).toInt) : VI Tn D' F p1 p2 q1 q2 V' := by
  obtain ⟨h1, h2, h3, h4, h5⟩ := h
  exact ⟨fun v hv => ⟨hD v hv, (h1 v (hs.subset hv)).2⟩, h2.sublist hs, fun a b c z => h3 a b c (z.trans hs), Nat.le_trans (hs.countP_le) h4, Nat.le_trans (hs.countP_le) h5⟩
theorem vi_push (h : VI Tn D F p1 p2 q1 q2 V) {q1' q2' : Bool} (hs : p1.toNat + p2.toNat + q1.toNat + q2.toNat ≤ 1) (hq : q1'.toNat + q2'.toNat = q1.toNat + q2.toNat + 1) {x : kRow} (h0 : D < (x 0).toInt) (h0' : (x 0).toInt ≤ vg x + 100) (hg : vg x = Tn) (hn : 0 ≤ (x 1).toInt ∧ (x 1).toInt < F) : VI Tn D F p1 p2 q1' q2' (V ++ [x]) := by
  obtain ⟨h1, h2, h3, h4, h5⟩ := h
  refine ⟨fun v hv => ?_, ?_, fun a b c z => ?_, ?_, ?_⟩
  · rcases List.mem_append.mp hv with q | q
    · exact h1 v q
    · rw [List.mem_singleton.mp q]
      exact ⟨h0, h0', by omega, hn⟩
  · refine List.pairwise_append.mpr ⟨h2, List.pairwise_singleton _ _, fun a ha b hb => ?_⟩
    rw [List.mem_singleton.mp hb, hg]
    exact (h1 a ha).2.2.1
  · obtain ⟨l1, l2, e, s1, s2⟩ := List.sublist_append_iff.mp z
    match l2, e, s2 with
    | [], e, _ =>
      rw [List.append_nil] at e
      rw [← e] at s1
      exact h3 a b c s1
    | [y], e, s2 =>
      have ey : y = x := List.mem_singleton.mp (s2.subset (List.mem_singleton.mpr rfl))
      have e2 : [a, b] ++ [c] = l1 ++ [y] := e
      obtain ⟨e3, e4⟩ := List.append_inj' e2 rfl
      have e5 : c = x := by
        injection e4 with e6 _
        rw [e6, ey]
      rw [e5, hg]
      rw [← e3] at s1
      have hp : vg a ≤ vg b := by
        have := h2.sublist s1
        exact (List.pairwise_cons.mp this).1 b (List.mem_singleton.mpr rfl)
      have hc := s1.countP_le (p := fun v => decide (Tn - 1 ≤ vg v))
      by_cases q : vg a + 2 ≤ Tn
      · exact q
      · have c1 : decide (Tn - 1 ≤ vg a) = true := by rw [decide_eq_true_eq]; omega
        have c2 : decide (Tn - 1 ≤ vg b) = true := by rw [decide_eq_true_eq]; omega
        rw [List.countP_cons_of_pos (p := fun v => decide (Tn - 1 ≤ vg v)) c1, List.countP_cons_of_pos (p := fun v => decide (Tn - 1 ≤ vg v)) c2, List.countP_nil] at hc
        omega
    | y :: y' :: t, _, s2 =>
      have := s2.length_le
      simp only [List.length_cons, List.length_nil] at this
      omega
  · rw [List.countP_append, List.countP_cons_of_pos (by rw [decide_eq_true_eq]; omega), List.countP_nil]
    omega
  · rw [List.countP_append, List.countP_cons_of_pos (by rw [decide_eq_true_eq]; omega), List.countP_nil]
    omega
theorem vi_end (h : VI Tn D F p1 p2 q1 q2 V) : VI (Tn + 1) D F q1 q2 false false V := by
  obtain ⟨h1, h2, h3, h4, h5⟩ := h
  refine ⟨fun v hv => ?_, h2, h3, ?_, ?_⟩
  · have := h1 v hv
    omega
  · rw [show Tn + 1 - 1 = Tn by omega]
    exact h5
  · rw [List.countP_eq_zero.mpr fun v hv => ?_]
    · exact Nat.zero_le _
    · have := h1 v hv
      rw [decide_eq_true_eq]
      omega
theorem vi_F (h : VI Tn D F p1 p2 q1 q2 V) {F' : Int} (hF : F ≤ F') : VI Tn D F' p1 p2 q1 q2 V := by
  obtain ⟨h1, h2⟩ := h
  exact ⟨fun v hv => by have := h1 v hv; omega, h2⟩
variable {D3 D4 : Int} {l3 l4 l3' l4' : List kRow}
theorem ei_len (h : EI Tn D3 D4 qg l3 l4) (h3 : D3 = Tn) (h4 : D4 = Tn) (hq : qg = false) : l3.length < 50 ∧ l4.length < 101 := by
  obtain ⟨a1, a2, a3, a4⟩ := h
  have b1 := inc_len (Tn - 1) l3 (Tn - 49) (by omega) (fun v hv => by
    have := a1 v hv
    have := this.2.2.2 hq
    omega) a2
  have b2 := inc_len (Tn - 1) l4 (Tn - 100) (by omega) (fun v hv => by
    have := a3 v hv
    have := this.2.2.2 hq
    omega) a4
  omega
theorem ei_sub (h : EI Tn D3 D4 qg l3 l4) (s3 : List.Sublist l3' l3) (s4 : List.Sublist l4' l4) {D3' D4' : Int} (h3 : ∀ v ∈ l3', D3' < (v 0).toInt) (h4 : ∀ v ∈ l4', D4' ≤ (v 0).toInt) : EI Tn D3' D4' qg l3' l4' := by
  obtain ⟨a1, a2, a3, a4⟩ := h
  exact ⟨fun v hv => ⟨h3 v hv, (a1 v (s3.subset hv)).2⟩, a2.sublist s3, fun v hv => ⟨h4 v hv, (a3 v (s4.subset hv)).2⟩, a4.sublist s4⟩
theorem ei_push3 (h : EI Tn D3 D4 true l3 l4) (hl : ∀ v ∈ l3, (v 1).toInt < Tn) {x : kRow} (h0 : D3 < (x 0).toInt) (h1 : (x 0).toInt ≤ (x 1).toInt + 50) (h2 : (x 1).toInt = Tn) : EI Tn D3 D4 true (l3 ++ [x]) l4 := by
  obtain ⟨a1, a2, a3, a4⟩ := h
  refine ⟨fun v hv => ?_, List.pairwise_append.mpr ⟨a2, List.pairwise_singleton _ _, fun a ha b hb => ?_⟩, a3, a4⟩
  · rcases List.mem_append.mp hv with q | q
    · exact a1 v q
    · rw [List.mem_singleton.mp q]
      exact ⟨h0, h1, by omega, fun z => by cases z⟩
  · rw [List.mem_singleton.mp hb, h2]
    exact hl a ha
theorem ei_push4 (h : EI Tn D3 D4 true l3 l4) (hl : ∀ v ∈ l4, (v 1).toInt < Tn) {x : kRow} (h0 : D4 ≤ (x 0).toInt) (h1 : (x 0).toInt ≤ (x 1).toInt + 100) (h2 : (x 1).toInt = Tn) : EI Tn D3 D4 true l3 (l4 ++ [x]) := by
  obtain ⟨a1, a2, a3, a4⟩ := h
  refine ⟨a1, a2, fun v hv => ?_, List.pairwise_append.mpr ⟨a4, List.pairwise_singleton _ _, fun a ha b hb => ?_⟩⟩
  · rcases List.mem_append.mp hv with q | q
    · exact a3 v q
    · rw [List.mem_singleton.mp q]
      exact ⟨h0, h1, by omega, fun z => by cases z⟩
  · rw [List.mem_singleton.mp hb, h2]
    exact hl a ha
theorem ei_true (h : EI Tn D3 D4 qg l3 l4) : EI Tn D3 D4 true l3 l4 := by
  obtain ⟨a1, a2, a3, a4⟩ := h
  exact ⟨fun v hv => ⟨(a1 v hv).1, (a1 v hv).2.1, (a1 v hv).2.2.1, fun z => by cases z⟩, a2, fun v hv => ⟨(a3 v hv).1, (a3 v hv).2.1, (a3 v hv).2.2.1, fun z => by cases z⟩, a4⟩
theorem ei_lt (h : EI Tn D3 D4 qg l3 l4) (hq : qg = false) : (∀ v ∈ l3, (v 1).toInt < Tn) ∧ ∀ v ∈ l4, (v 1).toInt < Tn := by
  obtain ⟨a1, a2, a3, a4⟩ := h
  exact ⟨fun v hv => (a1 v hv).2.2.2 hq, fun v hv => (a3 v hv).2.2.2 hq⟩
theorem ei_end (h : EI Tn D3 D4 qg l3 l4) : EI (Tn + 1) D3 D4 false l3 l4 := by
  obtain ⟨a1, a2, a3, a4⟩ := h
  exact ⟨fun v hv => by have := a1 v hv; omega, a2, fun v hv => by have := a3 v hv; omega, a4⟩
end VIS
/-! the invariants of the abstract station -/
def CI (A : Ab) : Prop := (1 ≤ (A.1 0).toInt ∧ (A.1 0).toInt ≤ 10) ∧ (1 ≤ (A.1 1).toInt ∧ (A.1 1).toInt ≤ 100) ∧ (1 ≤ (A.1 2).toInt ∧ (A.1 2).toInt ≤ 50) ∧ (1 ≤ (A.1 3).toInt ∧ (A.1 3).toInt ≤ 100) ∧ (0 ≤ (A.1 5).toInt ∧ (A.1 5).toInt ≤ 20) ∧ 1 ≤ (A.1 7).toInt ∧ (A.1 7).toInt < (A.1 8).toInt ∧ (A.1 8).toInt < (A.1 9).toInt ∧ (A.1 9).toInt < (A.1 10).toInt ∧ (A.1 10).toInt < (A.1 11).toInt ∧ (A.1 11).toInt ≤ 1000
def IN (F : Int) (l : List Int) : Prop := l.length ≤ 20 ∧ l.Pairwise (· < ·) ∧ ∀ n ∈ l, 0 ≤ n ∧ n < F
def CO (B Tn D2 D3 D4 : Int) (p1 p2 q1 q2 qg : Bool) (j U : Int) (A : Ab) : Prop :=
  WI A ∧ CI A ∧ (0 ≤ (A.1 14).toInt ∧ (A.1 14).toInt ≤ B ∧ 0 ≤ (A.1 17).toInt ∧ (A.1 17).toInt ≤ B) ∧ IN (A.1 17).toInt (kNm (A.2 0)) ∧ RG (kM (A.2 1)) ∧ (∀ a ∈ kM (A.2 1), 0 ≤ a.1 ∧ a.1 < (A.1 17).toInt ∧ 0 ≤ a.2.1 ∧ a.2.1 ≤ U) ∧ RX (A.1 8).toInt (A.1 9).toInt (A.1 10).toInt j p1 p2 q1 q2 qg (kM (A.2 1)) (kNn (A.2 2)) ∧ VI Tn D2 (A.1 17).toInt p1 p2 q1 q2 (A.2 2) ∧ EI Tn D3 D4 qg (A.2 3) (A.2 4)
theorem in_sub {F : Int} {l l' : List Int} (h : IN F l) (hs : List.Sublist l' l) : IN F l' := ⟨Nat.le_trans hs.length_le h.1, h.2.1.sublist hs, fun n hn => h.2.2 n (hs.subset hn)⟩
theorem kM_put {l : List kRow} {r c : Nat} {v : Int32} (hc : 3 ≤ c) : kM (l.set r (upd (l.getD r kz) c v)) = kM l := by
  unfold kM
  refine List.ext_getElem (by rw [List.length_map, List.length_map, List.length_set]) fun i h1 h2 => ?_
  rw [List.length_map] at h2
  rw [List.getElem_map, List.getElem_map, List.getElem_set]
  by_cases q : r = i
  · subst q
    rw [if_pos rfl, List.getD_eq_getElem?_getD, List.getElem?_eq_getElem h2]
    unfold rv
    rw [upd_ne _ _ (by omega), upd_ne _ _ (by omega), upd_ne _ _ (by omega)]
    rfl
  · rw [if_neg q]
theorem kNm_put {l : List kRow} {r c : Nat} {v : Int32} (hc : 1 ≤ c) : kNm (l.set r (upd (l.getD r kz) c v)) = kNm l := by
  unfold kNm
  refine List.ext_getElem (by rw [List.length_map, List.length_map, List.length_set]) fun i h1 h2 => ?_
  rw [List.length_map] at h2
  rw [List.getElem_map, List.getElem_map, List.getElem_set]
  by_cases q : r = i
  · subst q
    rw [if_pos rfl, List.getD_eq_getElem?_getD, List.getElem?_eq_getElem h2, upd_ne _ _ (by omega)]
    rfl
  · rw [if_neg q]
section COS
variable {B Tn D2 D3 D4 : Int} {p1 p2 q1 q2 qg : Bool} {j U : Int} {A A' : Ab}
theorem ci_ext (h : CI A) (e : ∀ i, kFx i → A'.1 i = A.1 i) : CI A' := by
  unfold CI
  rw [e 0 (by unfold kFx; omega), e 1 (by unfold kFx; omega), e 2 (by unfold kFx; omega), e 3 (by unfold kFx; omega), e 5 (by unfold kFx; omega), e 7 (by unfold kFx; omega), e 8 (by unfold kFx; omega), e 9 (by unfold kFx; omega), e 10 (by unfold kFx; omega), e 11 (by unfold kFx; omega)]
  exact h
theorem co_ext (h : CO B Tn D2 D3 D4 p1 p2 q1 q2 qg j U A) (w : WI A') (e : ∀ i, kFx i → A'.1 i = A.1 i) (e0 : List.Sublist (kNm (A'.2 0)) (kNm (A.2 0))) (e1 : kM (A'.2 1) = kM (A.2 1)) (e2 : A'.2 2 = A.2 2) (e3 : A'.2 3 = A.2 3) (e4 : List.Sublist (A'.2 4) (A.2 4)) : CO B Tn D2 D3 D4 p1 p2 q1 q2 qg j U A' := by
  obtain ⟨h1, h2, h3, h4, h5, h6, h7, h8, h9⟩ := h
  refine ⟨w, ci_ext h2 e, ?_, ?_, ?_, ?_, ?_, ?_, ?_⟩
  · rw [e 14 (by unfold kFx; omega), e 17 (by unfold kFx; omega)]; exact h3
  · rw [e 17 (by unfold kFx; omega)]; exact in_sub h4 e0
  · rw [e1]; exact h5
  · rw [e1, e 17 (by unfold kFx; omega)]; exact h6
  · rw [e1, e2, e 8 (by unfold kFx; omega), e 9 (by unfold kFx; omega), e 10 (by unfold kFx; omega)]; exact h7
  · rw [e2, e 17 (by unfold kFx; omega)]; exact h8
  · rw [e3]
    exact ei_sub h9 (List.Sublist.refl _) e4 (fun v hv => (h9.1 v hv).1) (fun v hv => (h9.2.2.1 v (e4.subset hv)).1)
end COS
