/-! calls: digest -/
def kHs (f : Nat → Int32) : Nat → Nat → Int64 → Int64
  | 0, _, h => h
  | m + 1, i, h => kHs f m (i + 1) (31 * h + (f i).toInt64)
theorem kHs_s (f : Nat → Int32) (m i : Nat) (h : Int64) : kHs f (m + 1) i h = kHs f m (i + 1) (31 * h + (f i).toInt64) := rfl
theorem kHs_add (f : Nat → Int32) : ∀ (a b i : Nat) (h : Int64), kHs f (a + b) i h = kHs f b (i + a) (kHs f a i h) := by
  intro a
  induction a with
  | zero => intro b i h; rw [Nat.zero_add]; rfl
  | succ a ih =>
    intro b i h
    rw [show a + 1 + b = (a + b) + 1 by omega, kHs, kHs, ih, show i + 1 + a = i + (a + 1) by omega]
theorem kHs_congr {f g : Nat → Int32} : ∀ (m i j : Nat) (h : Int64), (∀ x, x < m → f (i + x) = g (j + x)) → kHs f m i h = kHs g m j h := by
  intro m
  induction m with
  | zero => intro i j h _; rfl
  | succ m ih =>
    intro i j h e
    rw [kHs, kHs, show f i = g j from e 0 (by omega)]
    refine ih (i + 1) (j + 1) _ fun x hx => ?_
    have := e (x + 1) (by omega)
    rw [show i + 1 + x = i + (x + 1) by omega, show j + 1 + x = j + (x + 1) by omega]
    exact this
section MIX
variable {w rm : Int32} {n W C : Nat} {T : Tb} {l : List kRow}
theorem g2_cell (hk : kTab w rm n W C) (hT : kTT W C T l) {r c : Nat} (hr : r < l.length) (hc : c < W) : fx2_get w rm n T (nI r) (nI c) = T.2 (W * r + c) := by
  rw [g2_get hk hT hr (x := nI c) rfl hc]
  have := hT.2.2 r c hr hc
  rw [Nat.zero_add] at this
  exact this.symm
theorem g2_mix17 (hk : kTab w rm n W C) (hT : kTT W C T l) (K : Int64 → Int64 → Int32 → Int64) (KG : Int64 → Int64 → Int32 → Prop) (y1 : Int64) {r : Nat} (hr : r < l.length) : ∀ (d c k : Nat) (h : Int64), c + d = W → d < k → fx2_mixInto_L17 w rm n T K k y1 h (nI r) (nI c) = K y1 (kHs T.2 d (W * r + c) h) (nI r) ∧ (KG y1 (kHs T.2 d (W * r + c) h) (nI r) → sx2_mixInto_L17 w rm n T K KG k y1 h (nI r) (nI c)) := by
  have hW := hk.2.2.2.2.2.1
  have hw := hk.1
  intro d
  induction d with
  | zero =>
    intro c k h hc hd
    cases k with
    | zero => omega
    | succ k =>
      have q : w ≤ nI c := by rw [hw]; exact nI_le (by omega) (by omega)
      rw [fx2_mixInto_L17, sx2_mixInto_L17, if_pos q, if_pos q]
      exact ⟨rfl, fun z => z⟩
  | succ d ih =>
    intro c k h hc hd
    cases k with
    | zero => omega
    | succ k =>
      have q : ¬ w ≤ nI c := by rw [hw]; exact nI_ge (by omega) (by omega)
      rw [fx2_mixInto_L17, sx2_mixInto_L17, if_neg q, if_neg q, g2_cell hk hT hr (by omega), nI_1, kHs]
      exact ih (c + 1) k _ (by omega) (by omega)
theorem g2_mix5 (hk : kTab w rm n W C) (hT : kTT W C T l) (y1 : Int64) : ∀ (d r k : Nat) (h : Int64), r + d = l.length → d < k → sx2_mixInto_L5 w rm n T k y1 h (nI r) ∧ fx2_mixInto_L5 w rm n T k y1 h (nI r) = kHs T.2 (W * d) (W * r) h := by
  have hC := hk.2.2.2.2.2.2
  have hW := hk.2.2.2.2.2.1
  have hl := hT.2.1
  intro d
  induction d with
  | zero =>
    intro r k h hr hd
    cases k with
    | zero => omega
    | succ k =>
      have q : T.1 ≤ nI r := by rw [hT.1]; exact nI_le (by omega) (by omega)
      rw [fx2_mixInto_L5, sx2_mixInto_L5, if_pos q, if_pos q]
      exact ⟨trivial, rfl⟩
  | succ d ih =>
    intro r k h hr hd
    cases k with
    | zero => omega
    | succ k =>
      have q : ¬ T.1 ≤ nI r := by rw [hT.1]; exact nI_ge (by omega) (by omega)
      obtain ⟨a1, a2⟩ := g2_mix17 hk hT (fun z1 z3 z5 => fx2_mixInto_L5 w rm n T k z1 z3 (z5 + 1)) (fun z1 z3 z5 => sx2_mixInto_L5 w rm n T k z1 z3 (z5 + 1)) y1 (r := r) (by omega) W 0 kfu h (by omega) (by unfold kfu; omega)
      obtain ⟨b1, b2⟩ := ih (r + 1) k (kHs T.2 W (W * r + 0) h) (by omega) (by omega)
      rw [show nI 0 = (0 : Int32) from rfl] at a1 a2
      rw [fx2_mixInto_L5, sx2_mixInto_L5, if_neg q, if_neg q, a1]
      rw [nI_1] at a2 ⊢
      refine ⟨a2 b1, b2.trans ?_⟩
      rw [Nat.mul_succ W r, show W * (d + 1) = W + W * d by rw [Nat.mul_succ, Nat.add_comm], kHs_add, Nat.add_zero]
theorem g2_mix (hk : kTab w rm n W C) (hT : kTT W C T l) (h : Int64) : sx2_mixInto w rm n T h ∧ fx2_mixInto w rm n T h = kHs T.2 (W * l.length) 0 h := by
  have hC := hk.2.2.2.2.2.2
  have hl := hT.2.1
  have z := g2_mix5 hk hT h l.length 0 kfu h (by omega) (by unfold kfu; omega)
  rw [Nat.mul_zero] at z
  exact z
end MIX
section DIG
variable {B B' : Int} {L : Nat → St} {M : Md} {A : Ab}
theorem m_mixAll (F : Nat → Nat → Int32) {a b : Nat} (hab : a + b ≤ 1203) : ∀ (d i k : Nat) (h : Int64), i + d = a + b → d < k → sx4_mixAll_L2 k (nI a) (nI b) (nI i) (F, h) ∧ fx4_mixAll_L2 k (nI a) (nI b) (nI i) (F, h) = (F, kHs (F 0) d i h) := by
  intro d
  induction d with
  | zero =>
    intro i k h hi hk
    cases k with
    | zero => omega
    | succ k =>
      rw [fx4_mixAll_L2, sx4_mixAll_L2, nI_add, if_pos (nI_le (by omega) (by omega)), if_pos (nI_le (by omega) (by omega))]
      exact ⟨trivial, rfl⟩
  | succ d ih =>
    intro i k h hi hk
    cases k with
    | zero => omega
    | succ k =>
      obtain ⟨a1, a2⟩ := ih (i + 1) k (31 * h + (F 0 i).toInt64) (by omega) (by omega)
      rw [fx4_mixAll_L2, sx4_mixAll_L2, nI_add, if_neg (nI_ge (by omega) (by omega)), if_neg (nI_ge (by omega) (by omega)), nI_clamp (show i < 2 ^ 31 by omega), bnd_o, bnd_o, nI_1, kHs]
      exact ⟨⟨vp_in_nI (by omega) (by decide), a1⟩, a2⟩
theorem c_dig95 (h1 : RC (L 0) A) {H : List Ab} (hH : L 7 1 1 = nI H.length) : ∀ (d i k : Nat) (h : Int64), i + d = 18 → d < k → sx3_digest_L95 L k h (nI i) ∧ fx3_digest_L95 L k h (nI i) = 31 * kHs (stT (L 0) 1).2 (6 * (A.2 1).length) 0 (kHs (stT (L 0) 0).2 (4 * (A.2 0).length) 0 (kHs A.1 d (17 + i) h)) + (nI H.length).toInt64 := by
  intro d
  induction d with
  | zero =>
    intro i k h hi hk
    cases k with
    | zero => omega
    | succ k =>
      have q : (17 : Int32) < nI i := nI_lt (a := 17) (by omega) (by omega)
      obtain ⟨a1, a2⟩ := g2_mix kTab0 (rc_t0 h1) h
      obtain ⟨b1, b2⟩ := g2_mix kTab1 (rc_t1 h1) (kHs (stT (L 0) 0).2 (4 * (A.2 0).length) 0 h)
      rw [fx3_digest_L95, sx3_digest_L95, if_pos q, if_pos q, a2, bnd_o, bnd_o, bnd_o, b2]
      unfold fx0_count
      rw [hH]
      exact ⟨⟨a1, b1⟩, rfl⟩
  | succ d ih =>
    intro i k h hi hk
    cases k with
    | zero => omega
    | succ k =>
      have q : ¬ (17 : Int32) < nI i := nI_nlt (a := 17) (by omega) (by omega)
      rw [fx3_digest_L95, sx3_digest_L95, if_neg q, if_neg q, rc_counted h1 (x := nI i) rfl (by omega), nI_1, kHs_s A.1 d (17 + i) h]
      exact ih (i + 1) k _ (by omega) (by omega)
theorem c_dig65 (h1 : RC (L 0) A) {H : List Ab} (hH : L 7 1 1 = nI H.length) : ∀ (d i k : Nat) (h : Int64), i + d = 8 → d < k → sx3_digest_L65 L k h (nI i) ∧ fx3_digest_L65 L k h (nI i) = 31 * kHs (stT (L 0) 1).2 (6 * (A.2 1).length) 0 (kHs (stT (L 0) 0).2 (4 * (A.2 0).length) 0 (kHs A.1 18 17 (kHs (fun j => fx1_statusOf (L 0) (nI j)) d i h))) + (nI H.length).toInt64 := by
  intro d
  induction d with
  | zero =>
    intro i k h hi hk
    cases k with
    | zero => omega
    | succ k =>
      have q : (7 : Int32) < nI i := nI_lt (a := 7) (by omega) (by omega)
      rw [fx3_digest_L65, sx3_digest_L65, if_pos q, if_pos q]
      exact c_dig95 h1 hH 18 0 kfu h rfl (by unfold kfu; omega)
  | succ d ih =>
    intro i k h hi hk
    cases k with
    | zero => omega
    | succ k =>
      have q : ¬ (7 : Int32) < nI i := nI_nlt (a := 7) (by omega) (by omega)
      rw [fx3_digest_L65, sx3_digest_L65, if_neg q, if_neg q, bnd_o, bnd_o, nI_1, kHs_s (fun j => fx1_statusOf (L 0) (nI j)) d i h]
      exact ih (i + 1) k _ (by omega) (by omega)
theorem c_dig12 (h1 : RC (L 0) A) (w : WI A) {H : List Ab} (hH : L 7 1 1 = nI H.length) : ∀ (d i k : Nat) (h : Int64), i + d = 13 → d < k → sx3_digest_L12 L k h (nI i) ∧ fx3_digest_L12 L k h (nI i) = 31 * kHs (stT (L 0) 1).2 (6 * (A.2 1).length) 0 (kHs (stT (L 0) 0).2 (4 * (A.2 0).length) 0 (kHs A.1 18 17 (kHs (fun j => fx1_statusOf (L 0) (nI j)) 8 0 (31 * kHs A.1 d i h + (A.1 13).toInt64)))) + (nI H.length).toInt64 := by
  intro d
  induction d with
  | zero =>
    intro i k h hi hk
    cases k with
    | zero => omega
    | succ k =>
      have q : (12 : Int32) < nI i := nI_lt (a := 12) (by omega) (by omega)
      have z8 := fun v => c_dig65 h1 hH 8 0 kfu v rfl (by unfold kfu; omega)
      rw [show nI 0 = (0 : Int32) from rfl] at z8
      rw [fx3_digest_L12, sx3_digest_L12, if_pos q, if_pos q, rc_jam h1, show kHs A.1 0 i h = h from rfl]
      rcases w.1 with z | z
      · rw [z, if_pos p00, if_pos p00]
        exact z8 (31 * h + (0 : Int32).toInt64)
      · rw [z, if_neg n10, if_neg n10]
        exact z8 (31 * h + (1 : Int32).toInt64)
  | succ d ih =>
    intro i k h hi hk
    cases k with
    | zero => omega
    | succ k =>
      have q : ¬ (12 : Int32) < nI i := nI_nlt (a := 12) (by omega) (by omega)
      rw [fx3_digest_L12, sx3_digest_L12, if_neg q, if_neg q, rc_valueOf h1 (by omega), bnd_o, bnd_o, nI_1, kHs_s A.1 d i h]
      exact ih (i + 1) k _ (by omega) (by omega)
theorem m_dig40 {F : Nat → Nat → Int32} (h2 : RM (F 0) A) : ∀ (d i k : Nat) (h : Int64), i + d = 8 → d < k → sx4_digest_L40 k (nI i) (F, h) ∧ fx4_digest_L40 k (nI i) (F, h) = (31 * kHs (F 0) (6 * (A.2 1).length) 118 (kHs (F 0) (4 * (A.2 0).length) 37 (kHs (F 0) 18 17 (kHs (fun j => fx4_tellStatus (F 0) (nI j)) d i h))) + (F 4 0).toInt64, (F, 31 * kHs (F 0) (6 * (A.2 1).length) 118 (kHs (F 0) (4 * (A.2 0).length) 37 (kHs (F 0) 18 17 (kHs (fun j => fx4_tellStatus (F 0) (nI j)) d i h))) + (F 4 0).toInt64)) := by
  have l0 := len0 h2
  have l1 := len1 h2
  intro d
  induction d with
  | zero =>
    intro i k h hi hk
    cases k with
    | zero => omega
    | succ k =>
      have q : (8 : Int32) ≤ nI i := nI_le (a := 8) (by omega) (by omega)
      obtain ⟨a1, a2⟩ := m_mixAll F (a := 17) (b := 18) (by decide) 18 17 kfu h (by decide) (by unfold kfu; omega)
      obtain ⟨b1, b2⟩ := m_mixAll F (a := 37) (b := 4 * (A.2 0).length) (by omega) (4 * (A.2 0).length) 37 kfu (kHs (F 0) 18 17 h) rfl (by unfold kfu; omega)
      obtain ⟨c1, c2⟩ := m_mixAll F (a := 118) (b := 6 * (A.2 1).length) (by omega) (6 * (A.2 1).length) 118 kfu (kHs (F 0) (4 * (A.2 0).length) 37 (kHs (F 0) 18 17 h)) rfl (by unfold kfu; omega)
      have e4 : (4 : Int32) * nI (A.2 0).length = nI (4 * (A.2 0).length) := nI_mul 4 _
      have e6 : (6 : Int32) * nI (A.2 1).length = nI (6 * (A.2 1).length) := nI_mul 6 _
      have A2 : fx4_mixAll (F, h) 17 18 = (F, kHs (F 0) 18 17 h) := a2
      have B2 : fx4_mixAll (F, kHs (F 0) 18 17 h) 37 (nI (4 * (A.2 0).length)) = (F, kHs (F 0) (4 * (A.2 0).length) 37 (kHs (F 0) 18 17 h)) := b2
      have C2 : fx4_mixAll (F, kHs (F 0) (4 * (A.2 0).length) 37 (kHs (F 0) 18 17 h)) 118 (nI (6 * (A.2 1).length)) = (F, kHs (F 0) (6 * (A.2 1).length) 118 (kHs (F 0) (4 * (A.2 0).length) 37 (kHs (F 0) 18 17 h))) := c2
      rw [fx4_digest_L40, sx4_digest_L40, if_pos q, if_pos q, A2, bnd_o (F, kHs (F 0) 18 17 h), bnd_o (F, kHs (F 0) 18 17 h)]
      dsimp only
      rw [cnt0 h2, e4, B2, bnd_o (F, kHs (F 0) (4 * (A.2 0).length) 37 (kHs (F 0) 18 17 h)), bnd_o (F, kHs (F 0) (4 * (A.2 0).length) 37 (kHs (F 0) 18 17 h))]
      dsimp only
      rw [cnt1 h2, e6, C2, bnd_o (F, kHs (F 0) (6 * (A.2 1).length) 118 (kHs (F 0) (4 * (A.2 0).length) 37 (kHs (F 0) 18 17 h))), show kHs (fun j => fx4_tellStatus (F 0) (nI j)) 0 i h = h from rfl]
      refine ⟨⟨a1, b1, c1⟩, ?_⟩
      rw [bnd_o]
      rfl
  | succ d ih =>
    intro i k h hi hk
    cases k with
    | zero => omega
    | succ k =>
      have q : ¬ (8 : Int32) ≤ nI i := nI_ge (b := 8) (by omega) (by omega)
      rw [fx4_digest_L40, sx4_digest_L40, if_neg q, if_neg q, bnd_o, bnd_o, bnd_o, bnd_o, nI_1, kHs_s (fun j => fx4_tellStatus (F 0) (nI j)) d i h]
      exact ih (i + 1) k _ (by omega) (by omega)
theorem row_eq {T : Tb} {g : Nat → Int32} {k : Nat} {l : List kRow} {W C : Nat} (hT : kTT W C T l) (hg : kRw g (mB k) W (mU k) l) (hu : ∀ c, mU k c = c) (hW : 0 < W) {x : Nat} (hx : x < W * l.length) : T.2 (0 + x) = g (mB k + x) := by
  have h1 : x / W < l.length := Nat.div_lt_of_lt_mul hx
  have h2 : x % W < W := Nat.mod_lt _ hW
  have e : W * (x / W) + x % W = x := Nat.div_add_mod x W
  have a := hT.2.2 (x / W) (x % W) h1 h2
  have b := hg (x / W) (x % W) h1 h2
  rw [Nat.add_assoc, e] at a b
  rw [a, b, hu]
  rfl
theorem q_digest (h : KL B L M) (hB : B ≤ B') : sx3_digest L ∧ sx4_digest M ∧ fx3_digest L = (fx4_digest M).1 ∧ KL B' L (fx4_digest M).2 := by
  obtain ⟨A, H, o, n, hx⟩ := h
  have hx' := hx
  obtain ⟨h1, h2, h3, h4, h5, h6, t1, t2, t3, t4⟩ := hx'
  have w := rie_wi h3.1
  have hH : L 7 1 1 = nI H.length := h5.2.2.2.1
  obtain ⟨a1, a2⟩ := c_dig12 h1 w hH 13 0 kfu (91109 + (L 7 1 2).toInt64) rfl (by unfold kfu; omega)
  obtain ⟨b1, b2⟩ := m_mixAll (m0 M 0).1 (a := 0) (b := 13) (by decide) 13 0 kfu (31 * 2939 + (M.1 4 2).toInt64) rfl (by unfold kfu; omega)
  have h2' : RM ((m0 M 0).1 0) A := h2
  obtain ⟨c1, c2⟩ := m_dig40 (F := (m0 M 0).1) h2' 8 0 kfu (31 * kHs ((m0 M 0).1 0) 13 0 (31 * 2939 + (M.1 4 2).toInt64) + ((m0 M 0).1 0 13).toInt64) rfl (by unfold kfu; omega)
  have em : fx4_mix (sset M.1 4 1 0, 2939) (M.1 4 2) = ((m0 M 0).1, 31 * 2939 + (M.1 4 2).toInt64) := rfl
  have B2 : fx4_mixAll ((m0 M 0).1, 31 * 2939 + (M.1 4 2).toInt64) 0 13 = ((m0 M 0).1, kHs ((m0 M 0).1 0) 13 0 (31 * 2939 + (M.1 4 2).toInt64)) := b2
  rw [show nI 0 = (0 : Int32) from rfl] at a1 a2 c1 c2
  unfold sx3_digest fx3_digest sx4_digest fx4_digest
  rw [em, bnd_o ((m0 M 0).1, 31 * 2939 + (M.1 4 2).toInt64), bnd_o ((m0 M 0).1, 31 * 2939 + (M.1 4 2).toInt64), B2, bnd_o ((m0 M 0).1, kHs ((m0 M 0).1 0) 13 0 (31 * 2939 + (M.1 4 2).toInt64)), bnd_o ((m0 M 0).1, kHs ((m0 M 0).1 0) 13 0 (31 * 2939 + (M.1 4 2).toInt64)), bnd_o, bnd_o]
  have ex : ∀ (F : Nat → Nat → Int32) (h : Int64) (v : Int32), fx4_mix (F, h) v = (F, 31 * h + v.toInt64) := fun _ _ _ => rfl
  rw [ex]
  dsimp only
  rw [a2, c2]
  refine ⟨a1, ⟨b1, c1⟩, ?_, A, H, o, n, rl_mono (rl_ref hx 0) hB⟩
  dsimp only
  have e31 : (31 : Int64) * 2939 = 91109 := by decide
  have e40 : (m0 M 0).1 4 0 = nI H.length := h6.1
  have sc : ∀ x, x < 36 → A.1 x = (m0 M 0).1 0 x := fun x hx => (rm_g h2 (Or.inl hx)).symm
  have k1 : kHs A.1 13 0 (91109 + (L 7 1 2).toInt64) = kHs ((m0 M 0).1 0) 13 0 (31 * 2939 + (M.1 4 2).toInt64) := by
    rw [e31, t1, t2]
    exact kHs_congr 13 0 0 _ fun x hx => sc _ (by omega)
  rw [k1, sc 13 (by decide), e40]
  generalize 31 * kHs ((m0 M 0).1 0) 13 0 (31 * 2939 + (M.1 4 2).toInt64) + ((m0 M 0).1 0 13).toInt64 = u
  have k2 : kHs (fun j => fx1_statusOf (L 0) (nI j)) 8 0 u = kHs (fun j => fx4_tellStatus ((m0 M 0).1 0) (nI j)) 8 0 u := kHs_congr 8 0 0 _ fun x hx => st_eq h1 h2 w (by omega)
  rw [k2]
  generalize kHs (fun j => fx4_tellStatus ((m0 M 0).1 0) (nI j)) 8 0 u = v
  have k3 : kHs A.1 18 17 v = kHs ((m0 M 0).1 0) 18 17 v := kHs_congr 18 17 17 _ fun x hx => sc _ (by omega)
  rw [k3]
  generalize kHs ((m0 M 0).1 0) 18 17 v = y
  have k4 : kHs (stT (L 0) 0).2 (4 * (A.2 0).length) 0 y = kHs ((m0 M 0).1 0) (4 * (A.2 0).length) 37 y := kHs_congr _ 0 37 _ fun x hx => row_eq (k := 0) (rc_t0 h1) (h2.2 0 (by decide)).2.2 (fun c => rfl) (by decide) hx
  rw [k4]
  generalize kHs ((m0 M 0).1 0) (4 * (A.2 0).length) 37 y = z
  have k5 : kHs (stT (L 0) 1).2 (6 * (A.2 1).length) 0 z = kHs ((m0 M 0).1 0) (6 * (A.2 1).length) 118 z := kHs_congr _ 0 118 _ fun x hx => row_eq (k := 1) (rc_t1 h1) (h2.2 1 (by decide)).2.2 (fun c => rfl) (by decide) hx
  rw [k5]
end DIG
