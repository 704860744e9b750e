/-! the class does what the abstract station does: a tick, a feed -/
section CLS6
variable {S : St} {A : Ab}
theorem c_pulses (sp : Nat) (hs : sp ≤ 10) : ∀ (m i k : Nat) (S : St) (A : Ab), RC S A → WI A → i + m = sp → m < k → okPulses m A → sx1_passTick_L30 k (nI sp) (nI i) S ∧ RC (fx1_passTick_L30 k (nI sp) (nI i) S) (aPulses m A) := by
  intro m
  induction m with
  | zero =>
    intro i k S A h w hi hk ok
    cases k with
    | zero => omega
    | succ k =>
      simp only [fx1_passTick_L30, sx1_passTick_L30, aPulses]
      rw [if_pos (nI_le (by omega) (by omega)), if_pos (nI_le (by omega) (by omega))]
      exact ⟨trivial, h⟩
  | succ m ih =>
    intro i k S A h w hi hk ok
    cases k with
    | zero => omega
    | succ k =>
      simp only [fx1_passTick_L30, sx1_passTick_L30, aPulses, bnd]
      simp only [okPulses] at ok
      rw [if_neg (nI_ge (by omega) (by omega)), if_neg (nI_ge (by omega) (by omega)), rc_run h, nI_1]
      by_cases q : A.1 15 = 0
      · rw [if_pos q, if_pos q, if_pos q]
        exact ⟨trivial, h⟩
      · rw [if_neg q] at ok
        rw [if_neg q, if_neg q, if_neg q]
        obtain ⟨a1, a2⟩ := c_pulse h w ok.1
        obtain ⟨b1, b2⟩ := ih (i + 1) k _ _ a2 (st_pulse.1 w) (by omega) (by omega) ok.2
        exact ⟨⟨a1, b1⟩, b2⟩
theorem wi_pre (w : WI A) : WI (aS A 14 (A.1 14 + 1)) := by
  unfold WI
  rw [aS_ne A (i := 14) (j := 13) _ (by decide), aS_ne A (i := 14) (j := 15) _ (by decide), aS_ne A (i := 14) (j := 16) _ (by decide)]
  exact w
theorem c_tick (h : RC S A) (w : WI A) (ok : okTick A) : sx1_passTick S ∧ RC (fx1_passTick S) (aTick A) := by
  have h1 : RC (sset S 3 0 (S 3 0 + 1)) (aS A 14 (A.1 14 + 1)) := by
    rw [rc_tick h]
    exact rc_s3 h (a := 0) (by decide) _
  have w1 := wi_pre w
  obtain ⟨a1, a2⟩ := c_delV h1 w1
  have w2 := (st_deliver w1).1 w1
  obtain ⟨b1, b2⟩ := c_fill a2 w2
  have w3 := st_arrive.1 w2
  obtain ⟨d1, d2⟩ := c_close b2 w3
  have w4 := st_overdue.1 w3
  obtain ⟨o1, o2, o3⟩ := ok
  obtain ⟨e1, e2⟩ := c_pulses _ o3 ((aPre A).1 0).toNatClampNeg 0 kfu _ _ d2 w4 (by omega) (by unfold kfu; omega) o1
  rw [← o2] at e1 e2
  unfold sx1_passTick fx1_passTick
  simp only [bnd]
  rw [rc_setg d2 (x := 0) (i := 0) rfl (by decide)]
  exact ⟨⟨a1, b1, d1, e1⟩, e2⟩
end CLS6
