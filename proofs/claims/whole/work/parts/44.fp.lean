/-! the share is a number -/
theorem fp_n64 {sg e t : Nat} (hs : sg ≤ 1) (h : e ≤ 2046 ∨ (e = 2047 ∧ t = 0)) (ht : t < 4503599627370496) : vf_n64 (UInt64.ofNat ((sg * 2048 + e) * 4503599627370496 + t)) := by
  have hn : (sg * 2048 + e) * 4503599627370496 + t < 18446744073709551616 := by omega
  unfold vf_n64
  rw [UInt64.le_iff_toNat_le, UInt64.toNat_and, UInt64.toNat_ofNat_of_lt' hn]
  show ((sg * 2048 + e) * 4503599627370496 + t) &&& (2 ^ 63 - 1) ≤ 9218868437227405312
  rw [Nat.and_two_pow_sub_one_eq_mod]
  show ((sg * 2048 + e) * 4503599627370496 + t) % 9223372036854775808 ≤ 9218868437227405312
  omega
theorem fp_bl (s : Bool) : s.toNat ≤ 1 := by cases s <;> decide
def fpOk (d : FP.Core.Datum) : Prop := (∃ s, d = .inf s) ∨ ∃ s c q, d = .fin s c q ∧ c < 9007199254740992 ∧ -1074 ≤ q ∧ q ≤ 971
theorem fp_enc {d : FP.Core.Datum} (h : fpOk d) : vf_n64 (UInt64.ofNat (FP.Core.encode FP.Core.b64 d)) := by
  rcases h with ⟨s, rfl⟩ | ⟨s, c, q, rfl, hc, hq1, hq2⟩
  · exact fp_n64 (sg := s.toNat) (e := 2047) (t := 0) (fp_bl s) (Or.inr ⟨rfl, rfl⟩) (by decide)
  · show vf_n64 (UInt64.ofNat (if c < 4503599627370496 then FP.Core.assemble FP.Core.b64 s 0 c else FP.Core.assemble FP.Core.b64 s ((q - -1074).toNat + 1) (c - 4503599627370496)))
    by_cases z : c < 4503599627370496
    · rw [if_pos z]
      exact fp_n64 (sg := s.toNat) (e := 0) (t := c) (fp_bl s) (Or.inl (by decide)) z
    · rw [if_neg z]
      exact fp_n64 (sg := s.toNat) (e := (q - -1074).toNat + 1) (t := c - 4503599627370496) (fp_bl s) (Or.inl (by omega)) (by omega)
theorem fp_settle {s : Bool} {c : Nat} {q : Int} (hq : -1074 ≤ q) : fpOk (FP.Core.settle FP.Core.b64 s c q) := by
  have hb : ∀ c q, c < 9007199254740992 → -1074 ≤ q → fpOk (FP.Core.bound FP.Core.b64 s c q) := fun c q h1 h2 => by
    show fpOk (if q ≤ 971 then FP.Core.Datum.fin s c q else .inf s)
    by_cases z : q ≤ 971
    · rw [if_pos z]; exact Or.inr ⟨s, c, q, rfl, h1, h2, z⟩
    · rw [if_neg z]; exact Or.inl ⟨s, rfl⟩
  show fpOk (if c < 9007199254740992 then FP.Core.bound FP.Core.b64 s c q else FP.Core.bound FP.Core.b64 s 4503599627370496 (q + 1))
  by_cases z : c < 9007199254740992
  · rw [if_pos z]; exact hb c q z hq
  · rw [if_neg z]; exact hb _ _ (by decide) (by omega)
theorem fp_rr {s : Bool} {a b : Nat} {e : Int} : fpOk (FP.Core.roundRatio FP.Core.b64 s a b e) := by
  unfold FP.Core.roundRatio
  split
  · exact Or.inr ⟨s, 0, -1074, rfl, by decide, by decide, by decide⟩
  · unfold FP.Core.roundAt
    refine fp_settle ?_
    show (-1074 : Int) ≤ max (-1074) _
    exact Int.le_max_left _ _
/-- an int as a double: a finite number, zero for zero alone -/
theorem fp_dec {sg : Bool} {e t : Nat} (he : e ≤ 2046) (ht : t < 4503599627370496) : ∃ s c q, FP.Core.decode FP.Core.b64 (UInt64.ofNat ((sg.toNat * 2048 + e) * 4503599627370496 + t)).toNat = .fin s c q ∧ (e ≠ 0 ∨ t ≠ 0 → c ≠ 0) := by
  have hs := fp_bl sg
  have hn : (sg.toNat * 2048 + e) * 4503599627370496 + t < 18446744073709551616 := by omega
  rw [UInt64.toNat_ofNat_of_lt' hn]
  generalize hN : (sg.toNat * 2048 + e) * 4503599627370496 + t = n at hn
  have eT : FP.Core.fieldT FP.Core.b64 n = t := by
    show n % 4503599627370496 = t
    omega
  have eE : FP.Core.fieldE FP.Core.b64 n = e := by
    show n / 4503599627370496 % 2048 = e
    omega
  unfold FP.Core.decode
  rw [eT, eE, if_neg (show ¬ e = FP.Core.b64.exps - 1 by show ¬ e = 2047; omega)]
  by_cases z : e = 0
  · rw [if_pos z]
    exact ⟨_, _, _, rfl, fun y => by omega⟩
  · rw [if_neg z]
    refine ⟨_, _, _, rfl, fun _ => ?_⟩
    show ¬ (4503599627370496 + t) = 0
    omega
theorem fp_i2d (x : Int32) : ∃ s c q, FP.Core.decode FP.Core.b64 (FP.i2d x).toNat = .fin s c q ∧ (x ≠ 0 → c ≠ 0) := by
  have hx1 := Int32.le_toInt x
  have hx2 := Int32.toInt_lt x
  show ∃ s c q, FP.Core.decode FP.Core.b64 (UInt64.ofNat (FP.Core.encode FP.Core.b64 (FP.Core.roundRatio FP.Core.b64 (decide (x.toInt < 0)) x.toInt.natAbs 1 0))).toNat = .fin s c q ∧ (x ≠ 0 → c ≠ 0)
  generalize hm : x.toInt.natAbs = m
  generalize decide (x.toInt < 0) = sg
  have hm2 : m < 2 ^ 32 := by omega
  have hx0 : x ≠ 0 → m ≠ 0 := fun h z => h (Int32.toInt_inj.mp (by rw [show (0 : Int32).toInt = 0 by decide]; omega))
  unfold FP.Core.roundRatio
  by_cases z : m = 0
  · rw [if_pos z]
    show ∃ s c q, FP.Core.decode FP.Core.b64 (UInt64.ofNat ((sg.toNat * 2048 + 0) * 4503599627370496 + 0)).toNat = .fin s c q ∧ (x ≠ 0 → c ≠ 0)
    obtain ⟨s, c, q, h1, h2⟩ := fp_dec (sg := sg) (e := 0) (t := 0) (by decide) (by decide)
    exact ⟨s, c, q, h1, fun h => absurd z (hx0 h)⟩
  · rw [if_neg z]
    have hlog : m.log2 < 32 := (Nat.log2_lt z).mpr hm2
    have hq : FP.Core.quantum FP.Core.b64 m 1 0 ≤ 0 ∧ -1074 ≤ FP.Core.quantum FP.Core.b64 m 1 0 := by
      have hl : FP.Core.leading m 1 ≤ 32 := by
        unfold FP.Core.leading
        have e1 : Nat.log2 1 = 0 := by decide
        rw [e1]
        dsimp only
        split <;> omega
      show max (-1074 : Int) (FP.Core.leading m 1 + 0 - 52) ≤ 0 ∧ (-1074 : Int) ≤ max (-1074) (FP.Core.leading m 1 + 0 - 52)
      omega
    generalize FP.Core.quantum FP.Core.b64 m 1 0 = q at hq
    unfold FP.Core.roundAt
    have hc : FP.Core.nearest (FP.Core.unitsNum m 0 q) (FP.Core.unitsDen 1 0 q) ≠ 0 := by
      have ed : FP.Core.unitsDen 1 0 q = 1 := by
        unfold FP.Core.unitsDen
        rw [show (q - 0).toNat = 0 by omega]
      have en : FP.Core.unitsNum m 0 q ≠ 0 := by
        unfold FP.Core.unitsNum
        exact Nat.mul_ne_zero z (Nat.ne_of_gt (Nat.two_pow_pos _))
      rw [ed]
      unfold FP.Core.nearest
      rw [Nat.mod_one, if_pos (by decide), Nat.div_one]
      exact en
    generalize FP.Core.nearest (FP.Core.unitsNum m 0 q) (FP.Core.unitsDen 1 0 q) = c at hc
    have enc : ∀ (c : Nat) (q : Int), c ≠ 0 → c < 9007199254740992 → -1074 ≤ q → q ≤ 1 → ∃ s c' q', FP.Core.decode FP.Core.b64 (UInt64.ofNat (FP.Core.encode FP.Core.b64 (FP.Core.bound FP.Core.b64 sg c q))).toNat = .fin s c' q' ∧ (x ≠ 0 → c' ≠ 0) := fun c q h0 h1 h2 h3 => by
      show ∃ s c' q', FP.Core.decode FP.Core.b64 (UInt64.ofNat (FP.Core.encode FP.Core.b64 (if q ≤ 971 then FP.Core.Datum.fin sg c q else .inf sg))).toNat = .fin s c' q' ∧ (x ≠ 0 → c' ≠ 0)
      rw [if_pos (show q ≤ 971 by omega)]
      show ∃ s c' q', FP.Core.decode FP.Core.b64 (UInt64.ofNat (if c < 4503599627370496 then FP.Core.assemble FP.Core.b64 sg 0 c else FP.Core.assemble FP.Core.b64 sg ((q - -1074).toNat + 1) (c - 4503599627370496))).toNat = .fin s c' q' ∧ (x ≠ 0 → c' ≠ 0)
      by_cases y : c < 4503599627370496
      · rw [if_pos y]
        obtain ⟨s, c', q', g1, g2⟩ := fp_dec (sg := sg) (e := 0) (t := c) (by decide) y
        exact ⟨s, c', q', g1, fun _ => g2 (Or.inr h0)⟩
      · rw [if_neg y]
        obtain ⟨s, c', q', g1, g2⟩ := fp_dec (sg := sg) (e := (q - -1074).toNat + 1) (t := c - 4503599627370496) (by omega) (by omega)
        exact ⟨s, c', q', g1, fun _ => g2 (Or.inl (by omega))⟩
    show ∃ s c' q', FP.Core.decode FP.Core.b64 (UInt64.ofNat (FP.Core.encode FP.Core.b64 (if c < 9007199254740992 then FP.Core.bound FP.Core.b64 sg c q else FP.Core.bound FP.Core.b64 sg 4503599627370496 (q + 1)))).toNat = .fin s c' q' ∧ (x ≠ 0 → c' ≠ 0)
    by_cases y : c < 9007199254740992
    · rw [if_pos y]
      exact enc c q hc y hq.2 (by omega)
    · rw [if_neg y]
      exact enc _ _ (by decide) (by decide) (by omega) (by omega)
theorem fp_div (x y : Int32) (h : y ≠ 0) : vf_n64 (FP.ddiv (FP.i2d x) (FP.i2d y)) := by
  obtain ⟨s, c, q, e1, -⟩ := fp_i2d x
  obtain ⟨t, d, r, e2, h2⟩ := fp_i2d y
  show vf_n64 (UInt64.ofNat (FP.Core.encode FP.Core.b64 (FP.Core.quotient FP.Core.b64 (FP.Core.decode FP.Core.b64 (FP.i2d x).toNat) (FP.Core.decode FP.Core.b64 (FP.i2d y).toNat))))
  rw [e1, e2]
  refine fp_enc ?_
  show fpOk (if d = 0 then (if c = 0 then .nan else .inf (s != t)) else FP.Core.roundRatio FP.Core.b64 (s != t) c d (q - r))
  rw [if_neg (h2 h)]
  exact fp_rr
