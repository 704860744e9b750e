/-! station and model between calls -/
def TX (L : Nat → St) (M : Md) (n : Nat) : Prop := L 7 1 2 = nI n ∧ M.1 4 2 = nI n ∧ n ≤ 80 ∧ ∀ i, i < n → L 7 0 i = M.1 3 i ∧ ∃ v, v < 128 ∧ M.1 3 i = nI v
def RLx (B : Int) (L : Nat → St) (M : Md) (A : Ab) (H : List Ab) (o n : Nat) : Prop := RC (L 0) A ∧ RM (M.1 0) A ∧ GA B A ∧ (∀ A' ∈ H, GA B A') ∧ HC L H o ∧ HM M H ∧ TX L M n
def KL (B : Int) (L : Nat → St) (M : Md) : Prop := ∃ A H o n, RLx B L M A H o n
def m0 (M : Md) (v : Int32) : Md := (sset M.1 4 1 v, M.2)
/-- the number of the exception in a list of two -/
def kc (a b ec : Int32) : Int32 := if ec = a then 1 else if ec = b then 2 else 0
/-- a call's answers agree, and the two go on together -/
def CR (a b : Int32) (B : Int) (ec r : Int32) (L' : Nat → St) (y : Int32 × Md) : Prop := (ec = 0 ∨ ec = a ∨ ec = b) ∧ kc a b ec = y.2.1 4 1 ∧ (ec = 0 → r = y.1) ∧ KL B L' y.2
section RLS
variable {B : Int} {L : Nat → St} {M : Md} {A : Ab} {H : List Ab} {o n : Nat}
theorem rfb {β : Type} (F : Int32 × Md → β) {v : Int32} (hv : v = 1 ∨ v = 2) : bnd (fx4_refused M v) F = F (1, m0 M v) := by
  have h : ¬ v ≤ 0 := by rcases hv with rfl | rfl <;> decide
  unfold fx4_refused
  rw [if_neg h]
  rfl
theorem rfb1 {β : Type} (F : Int32 × Md → β) : bnd (fx4_refused M 1) F = F (1, m0 M 1) := rfb F (Or.inl rfl)
theorem rfb2 {β : Type} (F : Int32 × Md → β) : bnd (fx4_refused M 2) F = F (1, m0 M 2) := rfb F (Or.inr rfl)
theorem rfb0 {β : Type} (F : Int32 × Md → β) : bnd (fx4_refused M 0) F = F (0, m0 M 0) := by
  unfold fx4_refused
  rw [if_pos (by decide)]
  rfl
theorem n10 : ¬ (1 : Int32) = 0 := by decide
theorem p00 : (0 : Int32) = 0 := rfl
theorem rl_ref (h : RLx B L M A H o n) (v : Int32) : RLx B L (m0 M v) A H o n := h
theorem m0_41 (M : Md) (v : Int32) : (m0 M v).1 4 1 = v := rfl
theorem rl_save (h : RLx B L M A H o n) : sxh_save L ∧ sx4_saves M ∧ (∃ o', RLx B (fxh_save L) (fx4_saves M) A (kPush H A) o' n) ∧ fxh_save L 0 = L 0 ∧ (fx4_saves M).1 0 = M.1 0 ∧ (fx4_saves M).1 4 1 = M.1 4 1 := by
  obtain ⟨h1, h2, h3, h4, h5, h6, t1, t2, t3, t4⟩ := h
  obtain ⟨a1, ⟨o', a2⟩, a3, a4, a5⟩ := hc_save h5 h1 h3
  obtain ⟨b1, b2, b3, b4, b5, b6, b7⟩ := m_saves h6 h2
  refine ⟨a1, b1, ⟨o', by rw [a3]; exact h1, by rw [b3]; exact h2, h3, fun A' hA => ?_, a2, b2, by rw [a4]; exact t1, by rw [b7]; exact t2, t3, fun i hi => ?_⟩, a3, b3, b6⟩
  · unfold kPush at hA
    rcases List.mem_append.mp hA with q | q
    · split at q
      · exact h4 A' (List.mem_of_mem_drop q)
      · exact h4 A' q
    · rw [List.mem_singleton.mp q]
      exact h3
  · rw [a5, b5]
    exact t4 i hi
theorem rl_mono (h : RLx B L M A H o n) {B' : Int} (hB : B ≤ B') : RLx B' L M A H o n := by
  obtain ⟨h1, h2, h3, h4, h5⟩ := h
  exact ⟨h1, h2, ga_mono h3 hB, fun A' hA => ga_mono (h4 A' hA) hB, h5⟩
theorem rl_upd (h : RLx B L M A H o n) {S' : St} {g' : Nat → Int32} {A' : Ab} {B' : Int} (hB : B ≤ B') (hc : RC S' A') (hm : RM g' A') (hg : GA B' A') : RLx B' (va_up L 0 S') (va_up M.1 0 g', M.2) A' H o n := by
  obtain ⟨h1, h2, h3, h4, h5, ⟨h6, h6', h6''⟩, t1, t2, t3, t4⟩ := h
  exact ⟨hc, hm, hg, fun A' hA => ga_mono (h4 A' hA) hB, hc_ext h5 rfl rfl (fun j hj => va_up_ne _ _ (by omega)), ⟨h6, h6', h6''⟩, t1, t2, t3, t4⟩
theorem cr_ref (h : RLx B L M A H o n) {a b ec v : Int32} {B' : Int} (hB : B ≤ B') (hec : ec = a ∨ ec = b) (hk : kc a b ec = v) (h0 : ec ≠ 0) : CR a b B' ec 0 L (0, m0 M v) :=
  ⟨Or.inr hec, hk, fun z => absurd z h0, A, H, o, n, rl_mono (rl_ref h v) hB⟩
theorem cr_ok {a b r : Int32} {B' : Int} {L' : Nat → St} {y : Int32 × Md} {A' : Ab} {H' : List Ab} {o' n' : Nat} (hk : kc a b 0 = 0) (hr : r = y.1) (h41 : y.2.1 4 1 = 0) (h : RLx B' L' y.2 A' H' o' n') : CR a b B' 0 r L' y :=
  ⟨Or.inl rfl, by rw [hk, h41], fun _ => hr, A', H', o', n', h⟩
theorem st2_0 (L : Nat → St) (S : St) : va_up L 0 S 0 = S := va_up_self _ _ _
theorem aS_2 (A : Ab) (i : Nat) (v : Int32) : (aS A i v).2 = A.2 := rfl
theorem wi_scal {A A' : Ab} (w : WI A) (e2 : A'.2 = A.2) (e13 : A'.1 13 = 0 ∨ A'.1 13 = 1) (e15 : A'.1 15 = 0 ∨ A'.1 15 = 1) (e16 : A'.1 16 ≠ 0 → A'.1 15 = 0) : WI A' := by
  refine ⟨e13, e15, e16, ?_⟩
  rw [e2]
  exact w.2.2.2
theorem i_lt {x y : Int32} : x < y ↔ x.toInt < y.toInt := Int32.lt_iff_toInt_lt
theorem i_le {x y : Int32} : x ≤ y ↔ x.toInt ≤ y.toInt := Int32.le_iff_toInt_le
theorem i_nle {x y : Int32} : ¬ x ≤ y ↔ y.toInt < x.toInt := by rw [i_le]; omega
theorem i_nlt {x y : Int32} : ¬ x < y ↔ y.toInt ≤ x.toInt := by rw [i_lt]; omega
/-- setPlaces -/
theorem sp3_bad {x1 x2 x3 x4 x5 : Int32} (h : x2 ≤ x1 ∨ x3 ≤ x2 ∨ x4 ≤ x3 ∨ x5 ≤ x4 ∨ x1 < 1 ∨ ¬ x5 ≤ 1000) : sx3_setPlaces L x1 x2 x3 x4 x5 ∧ fx3_setPlaces L x1 x2 x3 x4 x5 = (1, 0, L) := by
  unfold sx3_setPlaces fx3_setPlaces
  by_cases a1 : x2 ≤ x1
  · rw [if_pos a1, if_pos a1]; exact ⟨trivial, rfl⟩
  rw [if_neg a1, if_neg a1]
  by_cases a2 : x3 ≤ x2
  · rw [if_pos a2, if_pos a2]; exact ⟨trivial, rfl⟩
  rw [if_neg a2, if_neg a2]
  by_cases a3 : x4 ≤ x3
  · rw [if_pos a3, if_pos a3]; exact ⟨trivial, rfl⟩
  rw [if_neg a3, if_neg a3]
  by_cases a4 : x5 ≤ x4
  · rw [if_pos a4, if_pos a4]; exact ⟨trivial, rfl⟩
  rw [if_neg a4, if_neg a4]
  by_cases a5 : x1 < 1
  · rw [if_pos a5, if_pos a5]; exact ⟨trivial, rfl⟩
  rw [if_neg a5, if_neg a5]
  have a6 : ¬ x5 ≤ 1000 := by
    rcases h with h | h | h | h | h | h
    · exact absurd h a1
    · exact absurd h a2
    · exact absurd h a3
    · exact absurd h a4
    · exact absurd h a5
    · exact h
  rw [if_neg a6, if_neg a6]
  exact ⟨trivial, rfl⟩
theorem sp4_bad {x1 x2 x3 x4 x5 : Int32} (h : x2 ≤ x1 ∨ x3 ≤ x2 ∨ x4 ≤ x3 ∨ x5 ≤ x4 ∨ x1 < 1 ∨ ¬ x5 ≤ 1000) : sx4_setPlaces M x1 x2 x3 x4 x5 ∧ fx4_setPlaces M x1 x2 x3 x4 x5 = (0, m0 M 1) := by
  unfold sx4_setPlaces fx4_setPlaces
  by_cases a5 : x1 < 1
  · rw [if_pos a5, if_pos a5, rfb1, rfb1, if_neg n10, if_neg n10]; exact ⟨trivial, rfl⟩
  rw [if_neg a5, if_neg a5]
  by_cases a1 : x2 ≤ x1
  · rw [if_pos a1, if_pos a1, rfb1, rfb1, if_neg n10, if_neg n10]; exact ⟨trivial, rfl⟩
  rw [if_neg a1, if_neg a1]
  by_cases a2 : x3 ≤ x2
  · rw [if_pos a2, if_pos a2, rfb1, rfb1, if_neg n10, if_neg n10]; exact ⟨trivial, rfl⟩
  rw [if_neg a2, if_neg a2]
  by_cases a3 : x4 ≤ x3
  · rw [if_pos a3, if_pos a3, rfb1, rfb1, if_neg n10, if_neg n10]; exact ⟨trivial, rfl⟩
  rw [if_neg a3, if_neg a3]
  by_cases a4 : x5 ≤ x4
  · rw [if_pos a4, if_pos a4, rfb1, rfb1, if_neg n10, if_neg n10]; exact ⟨trivial, rfl⟩
  rw [if_neg a4, if_neg a4]
  have a6 : 1000 < x5 := by
    rcases h with h | h | h | h | h | h
    · exact absurd h a1
    · exact absurd h a2
    · exact absurd h a3
    · exact absurd h a4
    · exact absurd h a5
    · exact Int32.not_le.mp h
  rw [if_pos a6, if_pos a6, rfb1, rfb1, if_neg n10, if_neg n10]
  exact ⟨trivial, rfl⟩
theorem nI_0lt {k : Nat} (h : k < 2 ^ 31) : (0 : Int32) < nI k ↔ 0 < k := by
  rw [← nI_0, nI_ltI (by decide) h]
theorem nI_le0 {k : Nat} (h : k < 2 ^ 31) : nI k ≤ (0 : Int32) ↔ k = 0 := by
  rw [← nI_0, nI_leI h (by decide)]
  omega
theorem q_setPlaces (h : KL B L M) {B' : Int} (hB : B ≤ B') (x1 x2 x3 x4 x5 : Int32) : sx3_setPlaces L x1 x2 x3 x4 x5 ∧ sx4_setPlaces M x1 x2 x3 x4 x5 ∧ CR 1 2 B' (fx3_setPlaces L x1 x2 x3 x4 x5).1 (fx3_setPlaces L x1 x2 x3 x4 x5).2.1 (fx3_setPlaces L x1 x2 x3 x4 x5).2.2 (fx4_setPlaces M x1 x2 x3 x4 x5) := by
  obtain ⟨A, H, o, n, hx⟩ := h
  have hx' := hx
  obtain ⟨h1, h2, h3, h4, h5, h6, h7⟩ := hx'
  by_cases hb : x2 ≤ x1 ∨ x3 ≤ x2 ∨ x4 ≤ x3 ∨ x5 ≤ x4 ∨ x1 < 1 ∨ ¬ x5 ≤ 1000
  · obtain ⟨a1, a2⟩ := sp3_bad (L := L) hb
    obtain ⟨b1, b2⟩ := sp4_bad (M := M) hb
    rw [a2, b2]
    exact ⟨a1, b1, cr_ref hx hB (Or.inl rfl) rfl kec1⟩
  obtain ⟨a1, hb⟩ := not_or.mp hb
  obtain ⟨a2, hb⟩ := not_or.mp hb
  obtain ⟨a3, hb⟩ := not_or.mp hb
  obtain ⟨a4, hb⟩ := not_or.mp hb
  obtain ⟨a5, hb⟩ := not_or.mp hb
  have a6 : x5 ≤ 1000 := Decidable.not_not.mp hb
  have a6' : ¬ 1000 < x5 := Int32.not_lt.mpr a6
  have l0 := len0 h2
  have l1 := len1 h2
  unfold sx3_setPlaces fx3_setPlaces sx4_setPlaces fx4_setPlaces
  rw [if_neg a1, if_neg a2, if_neg a3, if_neg a4, if_neg a5, if_pos a6, if_neg a1, if_neg a2, if_neg a3, if_neg a4, if_neg a5, if_pos a6, if_neg a5, if_neg a1, if_neg a2, if_neg a3, if_neg a4, if_neg a6', if_neg a5, if_neg a1, if_neg a2, if_neg a3, if_neg a4, if_neg a6', g2_count (rc_t0 h1), g2_count (rc_t1 h1), cnt0 h2, cnt1 h2]
  by_cases q0 : (0 : Int32) < nI (A.2 0).length
  · rw [if_pos q0, if_pos q0, if_pos q0, if_pos q0, rfb2, rfb2, if_neg n10, if_neg n10]
    exact ⟨trivial, trivial, cr_ref hx hB (Or.inr rfl) rfl kec2⟩
  rw [if_neg q0, if_neg q0, if_neg q0, if_neg q0]
  by_cases q1 : nI (A.2 1).length ≤ (0 : Int32)
  · rw [if_pos q1, if_pos q1, if_pos q1, if_pos q1, rfb0, rfb0, if_pos p00, if_pos p00]
    have hn : A.2 1 = [] := List.length_eq_zero_iff.mp ((nI_le0 (by omega)).mp q1)
    obtain ⟨s1, s2, ⟨o', s3⟩, s4, s5, s6⟩ := rl_save (rl_ref hx 0)
    refine ⟨s1, s2, ?_⟩
    generalize fxh_save L = L9 at s3 s4 ⊢
    generalize fx4_saves (m0 M 0) = M4 at s3 s5 s6 ⊢
    obtain ⟨t1, t2, t3, t4⟩ := s3
    have r1 := rc_place t1 (x := 0) (i := 0) rfl (by decide) x1
    have r2 := rc_place r1 (x := 1) (i := 1) rfl (by decide) x2
    have r3 := rc_place r2 (x := 2) (i := 2) rfl (by decide) x3
    have r4 := rc_place r3 (x := 3) (i := 3) rfl (by decide) x4
    have r5 := rc_place r4 (x := 4) (i := 4) rfl (by decide) x5
    have u1 := rm_set t2 (i := 7) (Or.inl (by decide)) x1
    have u2 := rm_set u1 (i := 8) (Or.inl (by decide)) x2
    have u3 := rm_set u2 (i := 9) (Or.inl (by decide)) x3
    have u4 := rm_set u3 (i := 10) (Or.inl (by decide)) x4
    have u5 := rm_set u4 (i := 11) (Or.inl (by decide)) x5
    have e : ∀ i, i < 7 ∨ 11 < i → (aS (aS (aS (aS (aS A (7 + 0) x1) (7 + 1) x2) (7 + 2) x3) (7 + 3) x4) (7 + 4) x5).1 i = A.1 i := fun i hi => by
      rw [aS_ne _ _ (by omega), aS_ne _ _ (by omega), aS_ne _ _ (by omega), aS_ne _ _ (by omega), aS_ne _ _ (by omega)]
    have e7 : (aS (aS (aS (aS (aS A (7 + 0) x1) (7 + 1) x2) (7 + 2) x3) (7 + 3) x4) (7 + 4) x5).1 7 = x1 := by
      rw [aS_ne _ _ (by decide), aS_ne _ _ (by decide), aS_ne _ _ (by decide), aS_ne _ _ (by decide)]; exact aS_eq _ _ _
    have e8 : (aS (aS (aS (aS (aS A (7 + 0) x1) (7 + 1) x2) (7 + 2) x3) (7 + 3) x4) (7 + 4) x5).1 8 = x2 := by
      rw [aS_ne _ _ (by decide), aS_ne _ _ (by decide), aS_ne _ _ (by decide)]; exact aS_eq _ _ _
    have e9 : (aS (aS (aS (aS (aS A (7 + 0) x1) (7 + 1) x2) (7 + 2) x3) (7 + 3) x4) (7 + 4) x5).1 9 = x3 := by
      rw [aS_ne _ _ (by decide), aS_ne _ _ (by decide)]; exact aS_eq _ _ _
    have e10 : (aS (aS (aS (aS (aS A (7 + 0) x1) (7 + 1) x2) (7 + 2) x3) (7 + 3) x4) (7 + 4) x5).1 10 = x4 := by
      rw [aS_ne _ _ (by decide)]; exact aS_eq _ _ _
    have e11 : (aS (aS (aS (aS (aS A (7 + 0) x1) (7 + 1) x2) (7 + 2) x3) (7 + 3) x4) (7 + 4) x5).1 11 = x5 := aS_eq _ _ _
    have w := rie_wi t3.1
    have c := rie_ci t3.1
    have c1 : (1 : Int32).toInt = 1 := by decide
    have c1000 : (1000 : Int32).toInt = 1000 := by decide
    rw [i_nle] at a1 a2 a3 a4
    rw [i_nlt, c1] at a5
    rw [i_le, c1000] at a6
    have w' : WI (aS (aS (aS (aS (aS A (7 + 0) x1) (7 + 1) x2) (7 + 2) x3) (7 + 3) x4) (7 + 4) x5) := wi_scal w rfl (by rw [e 13 (by decide)]; exact w.1) (by rw [e 15 (by decide)]; exact w.2.1) (by rw [e 15 (by decide), e 16 (by decide)]; exact w.2.2.1)
    have c' : CI (aS (aS (aS (aS (aS A (7 + 0) x1) (7 + 1) x2) (7 + 2) x3) (7 + 3) x4) (7 + 4) x5) := by
      unfold CI at c ⊢
      rw [e 0 (by decide), e 1 (by decide), e 2 (by decide), e 3 (by decide), e 5 (by decide), e7, e8, e9, e10, e11]
      exact ⟨c.1, c.2.1, c.2.2.1, c.2.2.2.1, c.2.2.2.2.1, by omega⟩
    have g' : GA B (aS (aS (aS (aS (aS A (7 + 0) x1) (7 + 1) x2) (7 + 2) x3) (7 + 3) x4) (7 + 4) x5) := ⟨rie_plc t3.1 rfl w' c' (e 14 (by decide)) (e 17 (by decide)) hn, (e 1201 (by decide)).trans t3.2.1, (e 1202 (by decide)).trans t3.2.2⟩
    have fin := rl_upd (⟨t1, t2, t3, t4⟩ : RLx B L9 M4 A (kPush H A) o' n) (Int.le_refl B) r5 u5 g'
    repeat rw [bnd_o]
    rw [rc_placeg t1 (x := 4) (i := 4) rfl (by decide)]
    simp only [up_up, va_up_self]
    refine cr_ok rfl ?_ s6 (rl_mono fin hB)
    exact (rm_g t2 (Or.inl (by decide))).symm
  · rw [if_neg q1, if_neg q1, if_neg q1, if_neg q1, rfb2, rfb2, if_neg n10, if_neg n10]
    exact ⟨trivial, trivial, cr_ref hx hB (Or.inr rfl) rfl kec2⟩
end RLS
