/-! the class does what the abstract station does: room and feed -/
section CLS7
variable {S : St} {A : Ab}
theorem kbel_01 : ∀ (l : List kRow) (c : Nat) (b : Int32), kbel l c b = 0 ∨ kbel l c b = 1 := by
  intro l
  induction l with
  | nil => intro c b; exact Or.inl rfl
  | cons r t ih =>
    intro c b
    simp only [kbel]
    split
    · exact ih c b
    · exact Or.inr rfl
theorem c_room (h : RC S A) : sx1_hasRoom S ∧ fx1_hasRoom S = if aRoom A = true then 1 else 0 := by
  have h0 := rc_t0 h
  have hl := h0.2.1
  obtain ⟨a1, a2⟩ := g2_below kTab0 h0 (x := 1) (c := 1) rfl (by decide) 30
  obtain ⟨b1, b2⟩ := g2_below kTab1 (rc_t1 h) (x := 1) (c := 1) rfl (by decide) 30
  have er : aRoom A = true ↔ ((A.2 0).length < 20 ∧ kbel (A.2 0) 1 30 = 0) ∧ kbel (A.2 1) 1 30 = 0 := by
    unfold aRoom
    rw [Bool.and_eq_true, Bool.and_eq_true, decide_eq_true_iff, beq_iff_eq, beq_iff_eq]
  unfold sx1_hasRoom fx1_hasRoom
  simp only [bnd]
  rw [g2_count h0, a2, b2]
  by_cases q : (A.2 0).length < 20
  · rw [if_neg (show ¬ (20 : Int32) ≤ nI (A.2 0).length from nI_ge q (by decide)), if_neg (show ¬ (20 : Int32) ≤ nI (A.2 0).length from nI_ge q (by decide))]
    by_cases q1 : kbel (A.2 0) 1 30 = 0
    · rw [if_pos q1, if_pos q1]
      refine ⟨⟨a1, b1⟩, ?_⟩
      by_cases q2 : kbel (A.2 1) 1 30 = 0
      · rw [if_pos q2, if_pos (er.mpr ⟨⟨q, q1⟩, q2⟩)]
      · rw [if_neg q2, if_neg fun z => q2 (er.mp z).2]
    · rw [if_neg q1, if_neg q1, if_neg fun z => q1 (er.mp z).1.2]
      exact ⟨⟨a1, trivial⟩, rfl⟩
  · rw [if_pos (show (20 : Int32) ≤ nI (A.2 0).length from nI_le (a := 20) (by omega) (by omega)), if_pos (show (20 : Int32) ≤ nI (A.2 0).length from nI_le (a := 20) (by omega) (by omega)), if_neg fun z => q (er.mp z).1.1]
    exact ⟨trivial, rfl⟩
theorem c_enter (h : RC S A) (hi : (A.2 0).length < 20) (hr : (A.2 1).length < 35) (x : Int32) : sx1_enter S x ∧ (fx1_enter S x).1 = A.1 17 ∧ RC (fx1_enter S x).2 (aEnter A x) := by
  have h1 := rc_count h (x := 0) (i := 0) rfl (by decide)
  obtain ⟨a1, a2, a3⟩ := g2_add kTab0 (rc_t0 h1) (show ((aCount A 0).2 0).length < 20 from hi) (A.1 17)
  have e17 : fx1_counted S 0 = A.1 17 := rc_counted h (x := 0) (i := 0) rfl (by decide)
  unfold sx1_enter fx1_enter
  simp only [bnd]
  rw [e17]
  generalize fx1_count S 0 = S1 at h1 a1 a2 a3 ⊢
  generalize fx2_addRow 4 20 80 (stT S1 0) (A.1 17) = u at a1 a2 a3 ⊢
  have b1 := rc_p0 h1 a3
  have b2 := g2_put kTab0 (rc_t0 b1) (r := (A.2 0).length) (by rw [aT_same, len_push]; exact Nat.lt_succ_self _) (x := 2) (c := 2) rfl (by decide) x
  rw [aT_same] at b2
  have b2' : kTT 4 20 (fx2_put 4 20 80 (stT (stP S1 0 u.2) 0) u.1 2 x) (A.2 0 ++ [upd (upd kz 0 (A.1 17)) 2 x]) := by
    have b3 : kTT 4 20 (fx2_put 4 20 80 (stT (stP S1 0 u.2) 0) (nI (A.2 0).length) 2 x) ((A.2 0 ++ [upd kz 0 (A.1 17)]).set (A.2 0).length (upd ((A.2 0 ++ [upd kz 0 (A.1 17)]).getD (A.2 0).length kz) 2 x)) := b2
    rw [get_push, set_push] at b3
    rw [show u.1 = nI (A.2 0).length from a2]
    exact b3
  have b4 := rc_p0 b1 b2'
  rw [aT_aT] at b4
  generalize stP (stP S1 0 u.2) 0 (fx2_put 4 20 80 (stT (stP S1 0 u.2) 0) u.1 2 x) = S3 at b4 ⊢
  obtain ⟨d1, d2, d3⟩ := g2_add kTab1 (rc_t1 b4) (show ((aT (aCount A 0) 0 (A.2 0 ++ [upd (upd kz 0 (A.1 17)) 2 x])).2 1).length < 35 by rw [aT_ne _ _ (by decide)]; exact hr) (A.1 17)
  refine ⟨⟨a1, d1⟩, rfl, ?_⟩
  have b5 := rc_p1 b4 d3
  rw [aT_ne _ _ (by decide)] at b5
  exact b5
end CLS7
