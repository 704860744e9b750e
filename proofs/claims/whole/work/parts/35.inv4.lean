/-! the invariants: a pulse, a tick -/
section PUL
variable {B Tn D2 D3 D4 : Int} {p1 p2 q1 q2 qg : Bool} {j U : Int} {A : Ab}
theorem co_U (h : CO B Tn D2 D3 D4 p1 p2 q1 q2 qg j U A) {U' : Int} (hu : ∀ a ∈ kM (A.2 1), a.2.1 ≤ U') : CO B Tn D2 D3 D4 p1 p2 q1 q2 qg j U' A := by
  obtain ⟨h1, h2, h3, h4, h5, h6, h7⟩ := h
  exact ⟨h1, h2, h3, h4, h5, fun a ha => ⟨(h6 a ha).1, (h6 a ha).2.1, (h6 a ha).2.2.1, hu a ha⟩, h7⟩
theorem recs_li (hB : B ≤ 1000000000) (hj : 1 ≤ j) (hj10 : j ≤ 10) : ∀ (m i : Nat) (q1 q2 qg : Bool) (A : Ab), (A.1 14).toInt = Tn → LIx B Tn p1 p2 q1 q2 qg j i A → i + m = (A.2 1).length → okRecs m i A ∧ ∃ q1' q2' qg', CO B Tn Tn Tn Tn p1 p2 q1' q2' qg' j 1020 (aRecs m i A) := by
  intro m
  induction m with
  | zero =>
    intro i q1 q2 qg A hT h hi
    refine ⟨trivial, q1, q2, qg, co_U h.1 ?_⟩
    have e : (kM (A.2 1)).take i = kM (A.2 1) := List.take_of_length_le (by rw [kM_len]; omega)
    rw [← e]
    exact h.2.2
  | succ m ih =>
    intro i q1 q2 qg A hT h hi
    obtain ⟨o1, q1', q2', qg', h2⟩ := act_li hB hj hj10 hT h (by omega)
    have el := act_len (A := A) (r := i) (by omega)
    have st := st_act (A := A) (r := i)
    have hT2 : ((aAct A i).2.1 14).toInt = Tn := by rw [st.2 14 (by unfold kFx; omega)]; exact hT
    simp only [okRecs, aRecs]
    by_cases q : (aAct A i).1 = true
    · rw [if_pos q] at h2 el
      rw [if_pos q, if_pos q]
      obtain ⟨o2, z⟩ := ih (i + 1) q1' q2' qg' _ hT2 h2 (by omega)
      exact ⟨⟨o1, o2⟩, z⟩
    · rw [if_neg q] at h2 el
      rw [if_neg q, if_neg q]
      obtain ⟨o2, z⟩ := ih i q1' q2' qg' _ hT2 h2 (by omega)
      exact ⟨⟨o1, o2⟩, z⟩
theorem ex1_n {k : Nat} (h : k ≠ 1) : (aExit1 A).2 k = A.2 k := by
  unfold aExit1
  cases aRecFor A with
  | none => exact alarm_n
  | some r => exact aT_ne _ _ h
theorem ex1_1 : kM ((aExit1 A).2 1) = kM (A.2 1) := by
  unfold aExit1
  cases aRecFor A with
  | none => exact congrArg kM alarm_n
  | some r =>
    show kM ((aPutR A 1 r 5 1).2 1) = _
    unfold aPutR
    rw [aT_same]
    exact kM_put (by decide)
theorem exit_co {i : Nat} (h : CO B Tn D2 D3 D4 p1 p2 q1 q2 qg j U A) : CO B Tn D2 D3 D4 p1 p2 q1 q2 qg j U (aExit A i) := by
  have s := st_exit (A := A) (k := i)
  have n : ∀ k, k ≠ 0 → k ≠ 1 → (aExit A i).2 k = A.2 k := fun k h0 h1 => (ex1_n h1).trans (rem_ne A i h0)
  refine co_ext h (s.1 h.1) s.2 ?_ ?_ (n 2 (by decide) (by decide)) (n 3 (by decide) (by decide)) (sub_eq (n 4 (by decide) (by decide)))
  · rw [exit_0]
    exact kNm_erase _ _
  · exact ex1_1.trans (congrArg kM (rem_ne A (k := 0) (j := 1) i (by decide)))
theorem items_co : ∀ (m i : Nat) (A : Ab), CO B Tn D2 D3 D4 p1 p2 q1 q2 qg j U A → CO B Tn D2 D3 D4 p1 p2 q1 q2 qg j U (aItems m i A) := by
  intro m
  induction m with
  | zero => intro i A h; exact h
  | succ m ih =>
    intro i A h
    simp only [aItems]
    by_cases q : kItm A i 1 = A.1 11
    · rw [if_pos q]
      exact ih i _ (exit_co h)
    · rw [if_neg q]
      exact ih (i + 1) A h
theorem kNm_inc (l : List kRow) : kNm (l.map kinc) = kNm l := by
  unfold kNm
  rw [List.map_map]
  rfl
theorem kM_inc (l : List kRow) (h : ∀ a ∈ kM l, 0 ≤ a.2.1 ∧ a.2.1 ≤ 1020) : kM (l.map kinc) = (kM l).map tinc := by
  unfold kM at h ⊢
  rw [List.map_map, List.map_map]
  refine List.map_congr_left fun r hr => ?_
  have h2 := h (rv r) (List.mem_map_of_mem hr)
  have e : (rv r).2.1 = (r 1).toInt := rfl
  rw [e] at h2
  have e1 : (1 : Int32).toInt = 1 := by decide
  show ((r 0).toInt, (r 1 + 1).toInt, r 2) = ((r 0).toInt, (r 1).toInt + 1, r 2)
  rw [ti_add (by rw [e1]; omega) (by rw [e1]; omega), e1]
theorem pulse_co (hB : B ≤ 1000000000) (hj : 0 ≤ j) (hj9 : j ≤ 9) (hT : (A.1 14).toInt = Tn) (h : CO B Tn Tn Tn Tn p1 p2 q1 q2 qg j 1020 A) : okPulse A ∧ ∃ q1' q2' qg', CO B Tn Tn Tn Tn p1 p2 q1' q2' qg' (j + 1) 1020 (aPulse A) := by
  obtain ⟨h1, h2, h3, h4, h5, h6, h7, h8, h9⟩ := h
  obtain ⟨x1, x2⟩ := rx_inc hj hj9 h7
  have s := st_inc (A := A)
  have em : kM ((aInc A).2 1) = (kM (A.2 1)).map tinc := by
    unfold aInc
    rw [aT_same]
    exact kM_inc _ fun a ha => (h6 a ha).2.2
  have e0 : kNm ((aInc A).2 0) = kNm (A.2 0) := by
    unfold aInc
    rw [aT_ne _ _ (by decide), aT_same]
    exact kNm_inc _
  have n : ∀ k, k ≠ 0 → k ≠ 1 → (aInc A).2 k = A.2 k := fun k k0 k1 => (aT_ne _ _ k1).trans (aT_ne _ _ k0)
  have mm : ∀ a ∈ kM ((aInc A).2 1), ∃ b ∈ kM (A.2 1), a = tinc b := fun a ha => by
    rw [em] at ha
    obtain ⟨b, hb, e⟩ := List.mem_map.mp ha
    exact ⟨b, hb, e.symm⟩
  have hc : CO B Tn Tn Tn Tn p1 p2 q1 q2 qg (j + 1) 1021 (aInc A) := by
    refine ⟨s.1 h1, ci_ext h2 s.2, ?_, ?_, ?_, ?_, ?_, ?_, ?_⟩
    · exact h3
    · rw [e0]; exact h4
    · rw [em]
      unfold RG
      rw [List.pairwise_map]
      refine h5.imp fun {a b} z => ?_
      rw [ti2, ti2]
      exact ⟨z.1, by omega⟩
    · intro a ha
      obtain ⟨b, hb, rfl⟩ := mm a ha
      have := h6 b hb
      rw [ti2]
      exact ⟨this.1, this.2.1, by omega, by omega⟩
    · rw [em, n 2 (by decide) (by decide)]; exact x1
    · rw [n 2 (by decide) (by decide)]; exact h8
    · rw [n 3 (by decide) (by decide), n 4 (by decide) (by decide)]; exact h9
  have hl : LIx B Tn p1 p2 q1 q2 qg (j + 1) 0 (aInc A) := by
    refine ⟨hc, ?_, fun a ha => ?_⟩
    · rw [List.drop_zero, em]
      exact x2
    · rw [List.take_zero] at ha
      cases ha
  have el : ((aInc A).2 1).length = (A.2 1).length := by
    unfold aInc
    rw [aT_same, List.length_map]
  obtain ⟨o, q1', q2', qg', z⟩ := recs_li hB (by omega) (by omega) (A.2 1).length 0 q1 q2 qg (aInc A) hT hl (by omega)
  exact ⟨o, q1', q2', qg', items_co _ _ _ z⟩
theorem pulses_co (hB : B ≤ 1000000000) : ∀ (m : Nat) (j : Int) (q1 q2 qg : Bool) (A : Ab), 0 ≤ j → j + m ≤ 10 → (A.1 14).toInt = Tn → CO B Tn Tn Tn Tn p1 p2 q1 q2 qg j 1020 A → okPulses m A ∧ ∃ j' q1' q2' qg', 0 ≤ j' ∧ j' ≤ 10 ∧ CO B Tn Tn Tn Tn p1 p2 q1' q2' qg' j' 1020 (aPulses m A) := by
  intro m
  induction m with
  | zero =>
    intro j q1 q2 qg A hj hm hT h
    exact ⟨trivial, j, q1, q2, qg, hj, by omega, h⟩
  | succ m ih =>
    intro j q1 q2 qg A hj hm hT h
    simp only [okPulses, aPulses]
    by_cases q : A.1 15 = 0
    · rw [if_pos q, if_pos q]
      exact ⟨trivial, j, q1, q2, qg, hj, by omega, h⟩
    · rw [if_neg q, if_neg q]
      obtain ⟨o, q1', q2', qg', z⟩ := pulse_co hB hj (by omega) hT h
      have hT2 : ((aPulse A).1 14).toInt = Tn := by rw [st_pulse.2 14 (by unfold kFx; omega)]; exact hT
      obtain ⟨o2, z2⟩ := ih (j + 1) q1' q2' qg' _ (by omega) (by omega) hT2 z
      exact ⟨⟨o, o2⟩, z2⟩
/-- between ticks -/
def RI (B : Int) (p1 p2 : Bool) (A : Ab) : Prop := CO B ((A.1 14).toInt + 1) (A.1 14).toInt (A.1 14).toInt (A.1 14).toInt p1 p2 false false false 0 1020 A
theorem co_end (hj : 0 ≤ j) (hj10 : j ≤ 10) (hT : (A.1 14).toInt = Tn) (h : CO B Tn Tn Tn Tn p1 p2 q1 q2 qg j 1020 A) : RI B q1 q2 A := by
  obtain ⟨h1, h2, h3, h4, h5, h6, h7, h8, h9⟩ := h
  unfold RI
  rw [hT]
  exact ⟨h1, h2, h3, h4, h5, h6, rx_end hj hj10 h7, vi_end h8, ei_end h9⟩
theorem kfind_mem {x : Int32} {k : Nat} {l : List kRow} (h : kfind l 0 x = some k) : rv (l.getD k kz) ∈ kM l ∧ (rv (l.getD k kz)).1 = x.toInt := by
  obtain ⟨h1, h2⟩ := kfind_0 h
  refine ⟨List.mem_map_of_mem (getD_mem h1), ?_⟩
  show (l.getD k kz 0).toInt = _
  rw [h2]
theorem kM_get {l : List kRow} {k : Nat} (h : k < (kM l).length) : (kM l)[k] = rv (l.getD k kz) := by
  have h' : k < l.length := by rw [kM_len] at h; exact h
  refine (List.getElem_map (l := l) rv).trans ?_
  rw [List.getD_eq_getElem?_getD, List.getElem?_eq_getElem h']
  rfl
theorem kM_put2 {l : List kRow} {k : Nat} {v : Int32} (hk : k < l.length) : kM (l.set k (upd (l.getD k kz) 2 v)) = (kM l).set k ((rv (l.getD k kz)).1, (rv (l.getD k kz)).2.1, v) := by
  unfold kM
  rw [List.map_set]
  rfl
theorem tells_co {n c v : Int32} (h : CO B Tn D2 D3 D4 p1 p2 q1 q2 qg 0 U A) (hv : v = 1 ∨ v = 2 ∨ v = 3) (hn : n.toInt ∈ kNn (A.2 2)) : CO B Tn D2 D3 D4 p1 p2 q1 q2 qg 0 U (aTells A n c v) := by
  have s := st_tells (A := A) (n := n) (c := c) hv
  have w := s.1 h.1
  have ident : ∀ A', WI A' → (∀ i, kFx i → A'.1 i = A.1 i) → A'.2 = A.2 → CO B Tn D2 D3 D4 p1 p2 q1 q2 qg 0 U A' := fun A' w e e2 => co_ext h w e (sub_eq (by rw [e2])) (by rw [e2]) (by rw [e2]) (by rw [e2]) (sub_eq (by rw [e2]))
  unfold aTells at s ⊢
  cases e : kfind (A.2 1) 0 n with
  | none =>
    rw [e] at s
    exact ident _ (s.1 h.1) s.2 rfl
  | some k =>
    rw [e] at s
    have hk := (kfind_0 e).1
    obtain ⟨m1, m2⟩ := kfind_mem e
    obtain ⟨h1, h2, h3, h4, h5, h6, h7, h8, h9⟩ := h
    have hp := h7.2.2.2.2.1 _ hn _ m1 m2
    have key : ∀ u, WI (aPutR A 1 k 2 u) → CO B Tn D2 D3 D4 p1 p2 q1 q2 qg 0 U (aPutR A 1 k 2 u) := fun u wu => by
      have e1 : kM ((aPutR A 1 k 2 u).2 1) = (kM (A.2 1)).set k ((rv ((A.2 1).getD k kz)).1, (rv ((A.2 1).getD k kz)).2.1, u) := by
        unfold aPutR
        rw [aT_same]
        exact kM_put2 hk
      have n : ∀ j, j ≠ 1 → (aPutR A 1 k 2 u).2 j = A.2 j := fun j hj => aT_ne _ _ hj
      have hkM : k < (kM (A.2 1)).length := by rw [kM_len]; exact hk
      have eg : (kM (A.2 1))[k] = rv ((A.2 1).getD k kz) := kM_get hkM
      have mm : ∀ b ∈ (kM (A.2 1)).set k ((rv ((A.2 1).getD k kz)).1, (rv ((A.2 1).getD k kz)).2.1, u), ∃ a ∈ kM (A.2 1), b.1 = a.1 ∧ b.2.1 = a.2.1 ∧ (b.2.2 = a.2.2 ∨ (A.1 8).toInt + 0 ≤ a.2.1) := fun b hb => by
        rcases List.mem_or_eq_of_mem_set hb with z | z
        · exact ⟨b, z, rfl, rfl, Or.inl rfl⟩
        · exact ⟨_, m1, by rw [z], by rw [z], Or.inr (by omega)⟩
      refine ⟨wu, ci_ext h2 (fun _ _ => rfl), h3, ?_, ?_, ?_, ?_, ?_, ?_⟩
      · rw [n 0 (by decide)]; exact h4
      · rw [e1]
        have em : ∀ M : List tr, RG M ↔ (M.map fun a : tr => (a.1, a.2.1)).Pairwise (fun a b : Int × Int => a.1 < b.1 ∧ b.2 + 30 ≤ a.2) := fun M => by
          rw [List.pairwise_map]
          exact Iff.rfl
        rw [em] at h5 ⊢
        have e5 : ((kM (A.2 1)).set k ((rv ((A.2 1).getD k kz)).1, (rv ((A.2 1).getD k kz)).2.1, u)).map (fun a : tr => (a.1, a.2.1)) = (kM (A.2 1)).map (fun a : tr => (a.1, a.2.1)) := by
          refine List.ext_getElem (by rw [List.length_map, List.length_map, List.length_set]) fun i g1 g2 => ?_
          rw [List.getElem_map, List.getElem_map, List.getElem_set]
          by_cases q : k = i
          · subst q
            rw [if_pos rfl, eg]
          · rw [if_neg q]
        rw [e5]
        exact h5
      · rw [e1]
        intro b hb
        obtain ⟨a, ha, z1, z2, z3⟩ := mm b hb
        rw [z1, z2]
        exact h6 a ha
      · rw [e1, n 2 (by decide)]
        refine rx_v h7 mm fun a ha => ?_
        by_cases q : a = rv ((A.2 1).getD k kz)
        · refine ⟨_, List.mem_set hkM _, ?_, ?_⟩
          · rw [q]
          · rw [q]
        · obtain ⟨i, hi, ei⟩ := List.getElem_of_mem ha
          have hik : k ≠ i := fun z => q (by subst z; rw [← ei, eg])
          refine ⟨a, ?_, rfl, rfl⟩
          have : ((kM (A.2 1)).set k ((rv ((A.2 1).getD k kz)).1, (rv ((A.2 1).getD k kz)).2.1, u))[i]'(by rw [List.length_set]; exact hi) = a := by
            rw [List.getElem_set, if_neg hik]
            exact ei
          rw [← this]
          exact List.getElem_mem _
      · rw [n 2 (by decide)]; exact h8
      · rw [n 3 (by decide), n 4 (by decide)]; exact h9
    have same : CO B Tn D2 D3 D4 p1 p2 q1 q2 qg 0 U A := ⟨h1, h2, h3, h4, h5, h6, h7, h8, h9⟩
    show CO B Tn D2 D3 D4 p1 p2 q1 q2 qg 0 U (if kRec A k 4 = 1 then _ else _)
    have s' : Step A (if kRec A k 4 = 1 then aCount A 4 else if c = 0 then (if kRec A k 2 = 0 then aPutR A 1 k 2 v else A) else if kRec A k 2 = 1 then A else if kRec A k 2 = 2 then A else aPutR A 1 k 2 (if v = 1 then 1 else 2)) := s
    clear s
    by_cases g4 : kRec A k 4 = 1
    · rw [if_pos g4] at s' ⊢
      exact ident _ (s'.1 h1) s'.2 rfl
    · rw [if_neg g4] at s' ⊢
      by_cases gc : c = 0
      · rw [if_pos gc] at s' ⊢
        by_cases g2 : kRec A k 2 = 0
        · rw [if_pos g2] at s' ⊢; exact key _ (s'.1 h1)
        · rw [if_neg g2]; exact same
      · rw [if_neg gc] at s' ⊢
        by_cases g1 : kRec A k 2 = 1
        · rw [if_pos g1]; exact same
        · rw [if_neg g1] at s' ⊢
          by_cases g2 : kRec A k 2 = 2
          · rw [if_pos g2]; exact same
          · rw [if_neg g2] at s' ⊢; exact key _ (s'.1 h1)
end PUL
