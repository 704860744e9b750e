/-! the beginning -/
def iA : Ab := (fun i => ([5, 8, 4, 10, 5, 10, 50, 100, 200, 260, 400, 500] : List Int32).getD i (if i = 1202 then (-1) else 0), fun _ => [])
theorem i36 {i : Nat} (h : kSc i) : i ∈ (List.range 36 ++ [1201, 1202]) := by
  rw [List.mem_append, List.mem_range]
  rcases h with h | h | h
  · exact Or.inl h
  · exact Or.inr (by rw [h]; decide)
  · exact Or.inr (by rw [h]; decide)
theorem i_rc : RC iS0 iA := by
  refine ⟨fun i hi => ?_, fun k hk => ⟨?_, Nat.zero_le _, fun r c h => absurd h (Nat.not_lt_zero _)⟩⟩
  · have h : ∀ i ∈ (List.range 36 ++ [1201, 1202]), scl iS0 i = iA.1 i := by decide +kernel
    exact h i (i36 hi)
  · rcases k5 hk with rfl | rfl | rfl | rfl | rfl <;> rfl
theorem i_rm : RM (iM0.1 0) iA := by
  refine ⟨fun i hi => ?_, fun k hk => ⟨?_, Nat.zero_le _, fun r c h => absurd h (Nat.not_lt_zero _)⟩⟩
  · have h : ∀ i ∈ (List.range 36 ++ [1201, 1202]), iM0.1 0 i = iA.1 i := by decide +kernel
    exact h i (i36 hi)
  · have h : ∀ k ∈ List.range 5, iM0.1 0 (mN k) = nI 0 := by decide +kernel
    exact h k (List.mem_range.mpr hk)
theorem i_ga : GA 0 iA := by
  refine ⟨⟨false, false, ?_⟩, by decide +kernel, by decide +kernel⟩
  have e14 : (iA.1 14).toInt = 0 := by decide +kernel
  have e17 : (iA.1 17).toInt = 0 := by decide +kernel
  refine ⟨?_, ?_, ?_, ?_, ?_, ?_, ?_, ?_, ?_⟩
  · exact ⟨Or.inl (by decide +kernel), Or.inl (by decide +kernel), fun h => absurd (show iA.1 16 = 0 by decide +kernel) h, fun z hz => absurd hz List.not_mem_nil, fun z hz => absurd hz List.not_mem_nil, fun z hz => absurd hz List.not_mem_nil⟩
  · unfold CI
    decide +kernel
  · rw [e14, e17]; decide
  · exact ⟨Nat.zero_le _, List.Pairwise.nil, fun n h => absurd h List.not_mem_nil⟩
  · exact List.Pairwise.nil
  · exact fun a h => absurd h List.not_mem_nil
  · have nf : ∀ {P : Prop}, false = true → P := fun h => by cases h
    exact ⟨nf, nf, nf, fun a h => absurd h List.not_mem_nil, fun n h => absurd h List.not_mem_nil, nf, nf, nf, nf, nf, nf, nf, nf, nf⟩
  · exact ⟨fun v h => absurd h List.not_mem_nil, List.Pairwise.nil, fun a b c h => (by cases h), Nat.le_refl _, Nat.le_refl _⟩
  · exact ⟨fun v h => absurd h List.not_mem_nil, List.Pairwise.nil, fun v h => absurd h List.not_mem_nil, List.Pairwise.nil⟩
theorem i_kl : KL 0 iL0 iM0 := by
  refine ⟨iA, [], 0, 0, i_rc, i_rm, i_ga, fun A h => absurd h List.not_mem_nil, ⟨by decide, Nat.zero_le _, rfl, rfl, fun j A h => by simp at h, ?_⟩, ⟨rfl, Nat.zero_le _, fun j A h => by simp at h⟩, ⟨rfl, rfl, by decide, fun i h => absurd h (Nat.not_lt_zero _)⟩⟩
  intro j hj
  rcases k5 hj with rfl | rfl | rfl | rfl | rfl <;> exact ⟨rfl, rfl⟩
