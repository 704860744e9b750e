/-! calls: set, value, jam, start, stop, reset, feed, slip, take -/
theorem w_no {x l u : Int32} (h : x < l ∨ ¬ x ≤ u) : fx4_within x l u = 0 := by
  unfold fx4_within
  by_cases q : x < l
  · rw [if_pos q]
  · rw [if_neg q, if_pos (Int32.not_le.mp (h.resolve_left q))]
theorem w_ok {x l u : Int32} (h1 : ¬ x < l) (h2 : x ≤ u) : fx4_within x l u = 1 := by
  unfold fx4_within
  rw [if_neg h1, if_neg (Int32.not_lt.mpr h2)]
theorem w_bo {x l u : Int32} : kbo (fx4_within x l u) := by
  unfold fx4_within
  split
  · exact Or.inl rfl
  · split
    · exact Or.inl rfl
    · exact Or.inr rfl
theorem i7 {i : Nat} (h : i < 7) : i = 0 ∨ i = 1 ∨ i = 2 ∨ i = 3 ∨ i = 4 ∨ i = 5 ∨ i = 6 := by omega
theorem is_in {i : Nat} (h : i < 7) (v : Int32) : sx4_isSetting (nI i) v ∧ fx4_isSetting (nI i) v = fx4_within v (kLeast i) (kMost i) := by
  rcases i7 h with rfl | rfl | rfl | rfl | rfl | rfl | rfl
  · exact ⟨w_bo, rfl⟩
  · exact ⟨w_bo, rfl⟩
  · exact ⟨w_bo, rfl⟩
  · exact ⟨w_bo, rfl⟩
  · exact ⟨w_bo, rfl⟩
  · exact ⟨w_bo, rfl⟩
  · refine ⟨trivial, ?_⟩
    show (if fx4_within v 0 1000 = 0 then (0 : Int32) else 1) = fx4_within v 0 1000
    rcases w_bo (x := v) (l := 0) (u := 1000) with q | q <;> rw [q] <;> rfl
theorem is_out {x : Int32} (h : x < 0 ∨ 7 ≤ x) (v : Int32) : sx4_isSetting x v ∧ fx4_isSetting x v = 0 := by
  have ne : ∀ i : Nat, i < 7 → ¬ x = nI i := fun i hi e => by
    subst e
    rcases h with h | h
    · exact nI_pos (by omega) h
    · exact nI_ge (a := i) (b := 7) hi (by decide) h
  unfold sx4_isSetting fx4_isSetting
  have m0 : ¬ x = (0 : Int32) := ne 0 (by decide)
  have m1 : ¬ x = (1 : Int32) := ne 1 (by decide)
  have m2 : ¬ x = (2 : Int32) := ne 2 (by decide)
  have m3 : ¬ x = (3 : Int32) := ne 3 (by decide)
  have m4 : ¬ x = (4 : Int32) := ne 4 (by decide)
  have m5 : ¬ x = (5 : Int32) := ne 5 (by decide)
  have m6 : ¬ x = (6 : Int32) := ne 6 (by decide)
  rw [if_neg m0, if_neg m1, if_neg m2, if_neg m3, if_neg m4, if_neg m5, if_neg m0, if_neg m1, if_neg m2, if_neg m3, if_neg m4, if_neg m5, if_neg m6]
  exact ⟨trivial, rfl⟩
theorem ls_in {i : Nat} (h : i < 7) : fx3_least (nI i) = kLeast i ∧ fx3_most (nI i) = kMost i := by
  have qn : ¬ nI i < 0 := nI_pos (by omega)
  have q7 : ¬ (7 : Int32) ≤ nI i := nI_ge (b := 7) h (by decide)
  unfold fx3_least fx3_most
  rw [if_neg qn, if_neg q7, if_neg qn, if_neg q7, nI_clamp (by omega)]
  exact ⟨rfl, rfl⟩
theorem ls_6 {i : Nat} (h : i < 7) : nI i ≤ (6 : Int32) := by
  rw [i_le, nI_toInt (by omega)]
  have e6 : (6 : Int32).toInt = 6 := by decide
  omega
section CALLS
variable {B B' : Int} {L : Nat → St} {M : Md}
theorem q_set (h : KL B L M) (hB : B ≤ B') (x1 x2 : Int32) : sx3_set L x1 x2 ∧ sx4_set M x1 x2 ∧ CR 1 1 B' (fx3_set L x1 x2).1 (fx3_set L x1 x2).2.1 (fx3_set L x1 x2).2.2 (fx4_set M x1 x2) := by
  obtain ⟨A, H, o, n, hx⟩ := h
  have bad : sx4_isSetting x1 x2 → fx4_isSetting x1 x2 = 0 → sx4_set M x1 x2 ∧ fx4_set M x1 x2 = (0, m0 M 1) := fun s e => by
    unfold sx4_set fx4_set
    rw [e, bnd_o (0 : Int32), bnd_o (0 : Int32), if_pos p00, if_pos p00, rfb1, rfb1, if_neg n10, if_neg n10]
    exact ⟨⟨s, trivial⟩, rfl⟩
  have bad3 : sx4_isSetting x1 x2 → fx4_isSetting x1 x2 = 0 → sx3_set L x1 x2 → fx3_set L x1 x2 = (1, 0, L) → sx3_set L x1 x2 ∧ sx4_set M x1 x2 ∧ CR 1 1 B' (fx3_set L x1 x2).1 (fx3_set L x1 x2).2.1 (fx3_set L x1 x2).2.2 (fx4_set M x1 x2) := fun s e t f => by
    obtain ⟨b1, b2⟩ := bad s e
    rw [f, b2]
    exact ⟨t, b1, cr_ref hx hB (Or.inl rfl) rfl kec1⟩
  rcases pk_ix x1 (n := 7) (by decide) with q | q | ⟨i, hi, rfl⟩
  · obtain ⟨i1, i2⟩ := is_out (Or.inl q) x2
    refine bad3 i1 i2 ?_ ?_
    · unfold sx3_set; rw [if_pos q]; trivial
    · unfold fx3_set; rw [if_pos q]
  · have q' : (7 : Int32) ≤ x1 := q
    obtain ⟨i1, i2⟩ := is_out (Or.inr q') x2
    have qn : ¬ x1 < 0 := fun z => by
      rw [i_lt] at z
      rw [i_le] at q'
      have e7 : (7 : Int32).toInt = 7 := by decide
      have e0 : (0 : Int32).toInt = 0 := by decide
      omega
    have q6 : ¬ x1 ≤ (6 : Int32) := fun z => by
      rw [i_le] at z
      rw [i_le] at q'
      have e7 : (7 : Int32).toInt = 7 := by decide
      have e6 : (6 : Int32).toInt = 6 := by decide
      omega
    refine bad3 i1 i2 ?_ ?_
    · unfold sx3_set; rw [if_neg qn, if_neg q6]; trivial
    · unfold fx3_set; rw [if_neg qn, if_neg q6]
  · obtain ⟨i1, i2⟩ := is_in hi x2
    have qn : ¬ nI i < 0 := nI_pos (by omega)
    have q6 : nI i ≤ (6 : Int32) := ls_6 hi
    obtain ⟨l1, l2⟩ := ls_in hi
    by_cases q1 : x2 < kLeast i
    · refine bad3 i1 (by rw [i2]; exact w_no (Or.inl q1)) ?_ ?_
      · unfold sx3_set; rw [if_neg qn, if_pos q6, l1, if_pos q1]; trivial
      · unfold fx3_set; rw [if_neg qn, if_pos q6, l1, if_pos q1]
    by_cases q2 : x2 ≤ kMost i
    · have e1 : fx4_isSetting (nI i) x2 = 1 := by rw [i2]; exact w_ok q1 q2
      unfold sx3_set fx3_set sx4_set fx4_set
      rw [e1, if_neg qn, if_pos q6, if_neg qn, if_pos q6, l1, l2, nI_clamp (show i < 2 ^ 31 by omega), if_neg q1, if_pos q2, if_neg q1, if_pos q2, bnd_o (1 : Int32), bnd_o (1 : Int32), if_neg n10, if_neg n10, rfb0, rfb0, if_pos p00, if_pos p00]
      obtain ⟨s1, s2, ⟨o', s3⟩, s4, s5, s6⟩ := rl_save (rl_ref hx 0)
      refine ⟨s1, ⟨i1, s2, vp_in_nI (by omega) (by decide), vp_in_nI (by omega) (by decide)⟩, ?_⟩
      generalize fxh_save L = L9 at s3 s4 ⊢
      generalize fx4_saves (m0 M 0) = M4 at s3 s5 s6 ⊢
      have s3' := s3
      obtain ⟨t1, t2, t3, t4⟩ := s3
      have r1 := rc_set t1 (x := nI i) rfl hi x2
      have u1 := rm_set t2 (i := i) (Or.inl (by omega)) x2
      have w := rie_wi t3.1
      have c := rie_ci t3.1
      have e : ∀ k, k ≠ i → (aS A i x2).1 k = A.1 k := fun k hk => aS_ne _ _ hk
      have w' : WI (aS A i x2) := wi_scal w rfl (by rw [e 13 (by omega)]; exact w.1) (by rw [e 15 (by omega)]; exact w.2.1) (by rw [e 15 (by omega), e 16 (by omega)]; exact w.2.2.1)
      have ei : (aS A i x2).1 i = x2 := aS_eq _ _ _
      rw [i_nlt] at q1
      rw [i_le] at q2
      have c' : CI (aS A i x2) := by
        unfold CI at c ⊢
        rw [e 7 (by omega), e 8 (by omega), e 9 (by omega), e 10 (by omega), e 11 (by omega)]
        obtain ⟨c0, c1, c2, c3, c5, cr⟩ := c
        rcases i7 hi with rfl | rfl | rfl | rfl | rfl | rfl | rfl
        · rw [ei, e 1 (by decide), e 2 (by decide), e 3 (by decide), e 5 (by decide)]
          exact ⟨⟨q1, q2⟩, c1, c2, c3, c5, cr⟩
        · rw [ei, e 0 (by decide), e 2 (by decide), e 3 (by decide), e 5 (by decide)]
          exact ⟨c0, ⟨q1, q2⟩, c2, c3, c5, cr⟩
        · rw [ei, e 0 (by decide), e 1 (by decide), e 3 (by decide), e 5 (by decide)]
          exact ⟨c0, c1, ⟨q1, q2⟩, c3, c5, cr⟩
        · rw [ei, e 0 (by decide), e 1 (by decide), e 2 (by decide), e 5 (by decide)]
          exact ⟨c0, c1, c2, ⟨q1, q2⟩, c5, cr⟩
        · rw [e 0 (by decide), e 1 (by decide), e 2 (by decide), e 3 (by decide), e 5 (by decide)]
          exact ⟨c0, c1, c2, c3, c5, cr⟩
        · rw [ei, e 0 (by decide), e 1 (by decide), e 2 (by decide), e 3 (by decide)]
          exact ⟨c0, c1, c2, c3, ⟨q1, q2⟩, cr⟩
        · rw [e 0 (by decide), e 1 (by decide), e 2 (by decide), e 3 (by decide), e 5 (by decide)]
          exact ⟨c0, c1, c2, c3, c5, cr⟩
      have g' : GA B (aS A i x2) := ga_scal t3 rfl w' c' (e 8 (by omega)) (e 9 (by omega)) (e 10 (by omega)) (e 14 (by omega)) (e 17 (by omega)) (e 1201 (by omega)) (e 1202 (by omega))
      have fin := rl_upd s3' (Int.le_refl B) r1 u1 g'
      repeat rw [bnd_o]
      rw [rc_setg t1 (x := nI i) rfl hi]
      exact cr_ok rfl (rm_g t2 (Or.inl (by omega))).symm s6 (rl_mono fin hB)
    · refine bad3 i1 (by rw [i2]; exact w_no (Or.inr q2)) ?_ ?_
      · unfold sx3_set; rw [if_neg qn, if_pos q6, l1, l2, if_neg q1, if_neg q2]; trivial
      · unfold fx3_set; rw [if_neg qn, if_pos q6, l1, l2, if_neg q1, if_neg q2]
theorem rc_valueOf {S : St} {A : Ab} (h : RC S A) {i : Nat} (hi : i < 13) : fx1_valueOf S (nI i) = A.1 i := by
  unfold fx1_valueOf
  by_cases q : i = 12
  · subst q
    rw [if_pos (show nI 12 = (12 : Int32) from rfl)]
    exact rc_rej h
  · have ne : ¬ nI i = (12 : Int32) := fun z => q ((nI_eq (a := i) (b := 12) (by omega) (by decide)).mp z)
    rw [if_neg ne]
    by_cases q2 : 7 ≤ i
    · rw [if_pos (nI_le q2 (by omega)), nI_sub q2, rc_placeg h (x := nI (i - 7)) rfl (by omega), show 7 + (i - 7) = i by omega]
    · rw [if_neg (nI_ge (by omega) (by decide)), rc_setg h (x := nI i) rfl (by omega)]
/-- within two literals: out, or a number -/
theorem w_split (x : Int32) {u : Nat} (hu : u < 1000000) : (x < 0 ∨ ¬ x ≤ nI u) ∨ ∃ i, i ≤ u ∧ x = nI i ∧ ¬ x < 0 ∧ x ≤ nI u := by
  by_cases q : x < 0
  · exact Or.inl (Or.inl q)
  by_cases q2 : x ≤ nI u
  · obtain ⟨j, hj, e⟩ := nI_of2 (M := nI u) (n := u) (nI_toInt (by omega)) q q2
    exact Or.inr ⟨j, hj, e, q, q2⟩
  · exact Or.inl (Or.inr q2)
theorem q_value (h : KL B L M) (hB : B ≤ B') (x1 : Int32) : sx4_value M x1 ∧ CR 1 1 B' (fx3_value L x1).1 (fx3_value L x1).2 L (fx4_value M x1) := by
  obtain ⟨A, H, o, n, hx⟩ := h
  have hx' := hx
  obtain ⟨h1, h2, h3⟩ := hx'
  rcases w_split x1 (u := 12) (by decide) with q | ⟨i, hi, rfl, q1, q2⟩
  · have e : fx3_value L x1 = (1, 0) := by
      unfold fx3_value
      by_cases q1 : x1 < 0
      · rw [if_pos q1]
      · rw [if_neg q1, if_neg (show ¬ x1 ≤ 12 from q.resolve_left q1)]
    unfold sx4_value fx4_value
    rw [e, w_no (x := x1) (l := 0) (u := 12) q, if_pos p00, if_pos p00, rfb1, rfb1, if_neg n10, if_neg n10]
    exact ⟨trivial, cr_ref hx hB (Or.inl rfl) rfl kec1⟩
  · unfold sx4_value fx4_value fx3_value
    rw [w_ok (x := nI i) (l := 0) (u := 12) q1 q2, if_neg q1, if_pos (show nI i ≤ (12 : Int32) from q2), if_neg n10, if_neg n10, rfb0, rfb0, if_pos p00, if_pos p00, bnd_o, rc_valueOf h1 (by omega), nI_clamp (show i < 2 ^ 31 by omega)]
    exact ⟨vp_in_nI (by omega) (by decide), cr_ok rfl (rm_g h2 (Or.inl (by omega))).symm rfl (rl_mono (rl_ref hx 0) hB)⟩
theorem q_jam (h : KL B L M) (hB : B ≤ B') {x1 : Int32} (hb : kbo x1) : sx3_jam L x1 ∧ sx4_jam M x1 ∧ (fx3_jam L x1).1 = (fx4_jam M x1).1 ∧ KL B' (fx3_jam L x1).2 (fx4_jam M x1).2 := by
  obtain ⟨A, H, o, n, hx⟩ := h
  obtain ⟨s1, s2, ⟨o', s3⟩, s4, s5, s6⟩ := rl_save (rl_ref hx 0)
  unfold sx3_jam sx4_jam fx3_jam fx4_jam
  have em : (sset M.1 4 1 0, M.2) = m0 M 0 := rfl
  rw [em, bnd_o (fxh_save L), bnd_o (fxh_save L), bnd_o (fx4_saves (m0 M 0))]
  generalize fxh_save L = L9 at s1 s3 s4 ⊢
  generalize fx4_saves (m0 M 0) = M4 at s3 s5 s6 ⊢
  have s3' := s3
  obtain ⟨t1, t2, t3, t4⟩ := s3
  have w := rie_wi t3.1
  have c := rie_ci t3.1
  have e : ∀ k, k ≠ 13 → (aS A 13 x1).1 k = A.1 k := fun k hk => aS_ne _ _ hk
  have w' : WI (aS A 13 x1) := wi_scal w rfl (by rw [aS_eq]; exact hb) (by rw [e 15 (by decide)]; exact w.2.1) (by rw [e 15 (by decide), e 16 (by decide)]; exact w.2.2.1)
  have c' : CI (aS A 13 x1) := by
    unfold CI at c ⊢
    rw [e 0 (by decide), e 1 (by decide), e 2 (by decide), e 3 (by decide), e 5 (by decide), e 7 (by decide), e 8 (by decide), e 9 (by decide), e 10 (by decide), e 11 (by decide)]
    exact c
  have g' : GA B (aS A 13 x1) := ga_scal t3 rfl w' c' (e 8 (by decide)) (e 9 (by decide)) (e 10 (by decide)) (e 14 (by decide)) (e 17 (by decide)) (e 1201 (by decide)) (e 1202 (by decide))
  have r1 := rc_s3 t1 (a := 3) (by decide) x1
  have u1 := rm_set t2 (i := 13) (Or.inl (by decide)) x1
  have fin := rl_mono (rl_upd s3' (Int.le_refl B) r1 u1 g') hB
  rw [rm_g t2 (i := 13) (Or.inl (by decide)), rc_jam t1, bnd_o (va_up L9 0 (sset (L9 0) 3 3 x1)), bnd_o (va_up L9 0 (sset (L9 0) 3 3 x1))]
  refine ⟨⟨s1, hb, w.1⟩, s2, ?_⟩
  rcases w.1 with q | q <;> rcases hb with z | z <;> subst z <;> rw [q]
  · exact ⟨rfl, _, _, _, _, fin⟩
  · exact ⟨rfl, _, _, _, _, fin⟩
  · exact ⟨rfl, _, _, _, _, fin⟩
  · exact ⟨rfl, _, _, _, _, fin⟩
end CALLS
