/-! calls: carryOut -/
def okc (c : Int32) : Prop := (¬ c < 48 ∧ c ≤ 51) ∨ c = 46 ∨ c = 58
theorem okc_dec (c : Int32) : okc c ∨ ¬ okc c := Classical.em _
theorem ticks_e (c : Int32) : fx3_ticksOf c = if c = 46 then 1 else if c = 58 then 10 else 0 := rfl
section CARRY
variable {B B' : Int} {L : Nat → St} {M : Md}
theorem byteAt_e {i : Nat} (hi : i < 80) : fx3_byteAt L (nI i) = L 7 0 i := by
  unfold fx3_byteAt
  rw [if_neg (nI_pos (by omega)), if_neg (nI_ge hi (by decide)), nI_clamp (by omega)]
theorem c48 {c : Int32} (h : okc c) (h1 : ¬ c = 46) (h2 : ¬ c = 58) : ¬ c < 48 ∧ c ≤ 51 := by
  rcases h with h | h | h
  · exact h
  · exact absurd h h1
  · exact absurd h h2
/-- the syntax: all right, or the first place where it isn't -/
theorem syn_L {n : Nat} (hn : n ≤ 80) (t1 : L 7 1 2 = nI n) (t2 : M.1 4 2 = nI n) (t4 : ∀ i, i < n → L 7 0 i = M.1 3 i) : ∀ (d i k k' : Nat), i + d = n → d < k → d < k' → (sx3_syntaxError_L2 L k (nI i) ∧ ((∀ j, i ≤ j → j < n → okc (M.1 3 j)) ∧ fx3_syntaxError_L2 L k (nI i) = -1 ∧ (sx4_carryOut_L7 k' (nI i) M = (sx4_laysAside M ∧ (bnd (fx4_laysAside M) (fun M8002 => sx4_carryOut_L70 kfu 0 M8002)))) ∧ fx4_carryOut_L7 k' (nI i) M = bnd (fx4_laysAside M) (fun M8002 => fx4_carryOut_L70 kfu 0 M8002) ∨ ∃ j, j < n ∧ fx3_syntaxError_L2 L k (nI i) = nI j ∧ sx4_carryOut_L7 k' (nI i) M ∧ fx4_carryOut_L7 k' (nI i) M = ((-10) - nI j, M))) ∨ False := by
  intro d
  induction d with
  | zero =>
    intro i k k' hi hk hk'
    cases k with
    | zero => omega
    | succ k =>
      cases k' with
      | zero => omega
      | succ k' =>
        rw [fx3_syntaxError_L2, sx3_syntaxError_L2, fx4_carryOut_L7, sx4_carryOut_L7, t1, t2, if_pos (nI_le (by omega) (by omega)), if_pos (nI_le (by omega) (by omega)), if_pos (nI_le (by omega) (by omega)), if_pos (nI_le (by omega) (by omega))]
        exact Or.inl ⟨trivial, Or.inl ⟨fun j h1 h2 => by omega, rfl, rfl, rfl⟩⟩
  | succ d ih =>
    intro i k k' hi hk hk'
    cases k with
    | zero => omega
    | succ k =>
      cases k' with
      | zero => omega
      | succ k' =>
        have vp : vp_in (nI i) 80 := vp_in_nI (by omega) (by decide)
        obtain ⟨a1, a2⟩ := (ih (i + 1) k k' (by omega) (by omega) (by omega)).resolve_right id
        rw [fx3_syntaxError_L2, sx3_syntaxError_L2, fx4_carryOut_L7, sx4_carryOut_L7, t1, t2, if_neg (nI_ge (by omega) (by omega)), if_neg (nI_ge (by omega) (by omega)), if_neg (nI_ge (by omega) (by omega)), if_neg (nI_ge (by omega) (by omega)), byteAt_e (by omega), bnd_o, bnd_o, nI_clamp (show i < 2 ^ 31 by omega), nI_1, t4 i (by omega), ticks_e]
        generalize hc : M.1 3 i = c
        have good : okc c → ((∀ j, i + 1 ≤ j → j < n → okc (M.1 3 j)) → ∀ j, i ≤ j → j < n → okc (M.1 3 j)) := fun h f j h1 h2 => by
          by_cases q : j = i
          · rw [q, hc]; exact h
          · exact f j (by omega) h2
        left
        by_cases q1 : c < 48
        · rw [if_pos q1, if_pos q1, w_no (Or.inl q1), if_pos p00, if_pos p00]
          by_cases q46 : c = 46
          · rw [if_pos q46, if_neg n10, if_neg n10, if_pos q46, if_pos q46]
            refine ⟨a1, ?_⟩
            rcases a2 with ⟨f1, f2, f3, f4⟩ | ⟨j, f0, f1, f2, f3⟩
            · exact Or.inl ⟨good (Or.inr (Or.inl q46)) f1, f2, by rw [f3]; exact propext ⟨fun z => z.2.2, fun z => ⟨vp, vp, z⟩⟩, f4⟩
            · exact Or.inr ⟨j, f0, f1, ⟨vp, vp, f2⟩, f3⟩
          · by_cases q58 : c = 58
            · rw [q58] at q1
              exact absurd q1 (by decide)
            · rw [if_neg q46, if_neg q58, if_pos p00, if_pos p00, if_neg q46, if_neg q46, if_neg q58, if_neg q58]
              exact ⟨trivial, Or.inr ⟨i, by omega, rfl, ⟨vp, vp, vp, trivial⟩, rfl⟩⟩
        · rw [if_neg q1, if_neg q1]
          by_cases q2 : c ≤ 51
          · have q2' : ¬ 51 < c := Int32.not_lt.mpr q2
            rw [if_neg q2', if_neg q2', w_ok q1 q2, if_neg n10, if_neg n10]
            refine ⟨a1, ?_⟩
            rcases a2 with ⟨f1, f2, f3, f4⟩ | ⟨j, f0, f1, f2, f3⟩
            · exact Or.inl ⟨good (Or.inl ⟨q1, q2⟩) f1, f2, by rw [f3]; exact propext ⟨fun z => z.2, fun z => ⟨vp, z⟩⟩, f4⟩
            · exact Or.inr ⟨j, f0, f1, ⟨vp, f2⟩, f3⟩
          · have q2' : 51 < c := Int32.not_le.mp q2
            rw [if_pos q2', if_pos q2', w_no (Or.inr q2), if_pos p00, if_pos p00]
            by_cases q46 : c = 46
            · rw [q46] at q2'
              exact absurd q2' (by decide)
            · by_cases q58 : c = 58
              · rw [if_neg q46, if_pos q58, if_neg (show ¬ (10 : Int32) = 0 by decide), if_neg (show ¬ (10 : Int32) = 0 by decide), if_neg q46, if_neg q46, if_pos q58, if_pos q58]
                refine ⟨a1, ?_⟩
                rcases a2 with ⟨f1, f2, f3, f4⟩ | ⟨j, f0, f1, f2, f3⟩
                · exact Or.inl ⟨good (Or.inr (Or.inr q58)) f1, f2, by rw [f3]; exact propext ⟨fun z => z.2.2.2, fun z => ⟨vp, vp, vp, z⟩⟩, f4⟩
                · exact Or.inr ⟨j, f0, f1, ⟨vp, vp, vp, f2⟩, f3⟩
              · rw [if_neg q46, if_neg q58, if_pos p00, if_pos p00, if_neg q46, if_neg q46, if_neg q58, if_neg q58]
                exact ⟨trivial, Or.inr ⟨i, by omega, rfl, ⟨vp, vp, vp, trivial⟩, rfl⟩⟩
/-- ticks within a text: the class -/
theorem c_runs51 (K : Int32 → Int32 → Int32 → Int32 → (Nat → St) → Int32 × (Nat → St)) (KG : Int32 → Int32 → Int32 → Int32 → (Nat → St) → Prop) (y1 y2 y3 : Int32) {T : Nat} (hT : T ≤ 10) : ∀ (m j k : Nat) (B : Int) (L : Nat → St) (A : Ab), j + m = T → m < k → B + m ≤ 1000000000 → RC (L 0) A → GA B A → ∃ S', RC S' (aRuns m A) ∧ GA (B + m) (aRuns m A) ∧ fx3_carryOut_L51 K k y1 y2 y3 (nI T) (nI j) L = K y1 y2 y3 (nI T) (va_up L 0 S') ∧ (KG y1 y2 y3 (nI T) (va_up L 0 S') → sx3_carryOut_L51 K KG k y1 y2 y3 (nI T) (nI j) L) := by
  intro m
  induction m with
  | zero =>
    intro j k B L A hj hk hB h1 h3
    cases k with
    | zero => omega
    | succ k =>
      refine ⟨L 0, h1, ga_mono h3 (by omega), ?_, fun z => ?_⟩
      · rw [fx3_carryOut_L51, if_pos (nI_le (by omega) (by omega)), up_id]
      · rw [sx3_carryOut_L51, if_pos (nI_le (by omega) (by omega))]
        rw [up_id] at z
        exact z
  | succ m ih =>
    intro j k B L A hj hk hB h1 h3
    cases k with
    | zero => omega
    | succ k =>
      obtain ⟨ok, -⟩ := rie_tick (by omega) h3.1
      have g1 := ga_tick (by omega) h3
      obtain ⟨c1, c2⟩ := c_tick h1 (rie_wi h3.1) ok
      obtain ⟨S', f1, f2, f3, f4⟩ := ih (j + 1) k (B + 1) (va_up L 0 (fx1_passTick (L 0))) (aTick A) (by omega) (by omega) (by omega) (by rw [va_up_self]; exact c2) g1
      rw [up_up] at f3 f4
      refine ⟨S', f1, ga_mono f2 (by omega), ?_, fun z => ?_⟩
      · rw [fx3_carryOut_L51, if_neg (nI_ge (by omega) (by omega)), bnd_o, nI_1]
        exact f3
      · rw [sx3_carryOut_L51, if_neg (nI_ge (by omega) (by omega)), bnd_o, nI_1]
        exact ⟨c1, f4 z⟩
/-- ticks within a text: the model -/
theorem m_runs : ∀ (m i k : Nat) (B : Int) (g : Nat → Int32) (A : Ab) (y : Int32), y = nI (i + m) → i + m < 5000 → m < k → B + m ≤ 1000000000 → RM g A → RIe B A → sx4_runs_L2 k y (nI i) g ∧ (fx4_runs_L2 k y (nI i) g).1 = (aRuns m A).1 14 ∧ RM (fx4_runs_L2 k y (nI i) g).2 (aRuns m A) := by
  intro m
  induction m with
  | zero =>
    intro i k B g A y hy hi hk hB h2 h3
    subst hy
    cases k with
    | zero => omega
    | succ k =>
      rw [fx4_runs_L2, sx4_runs_L2, if_pos (nI_le (by omega) (by omega)), if_pos (nI_le (by omega) (by omega))]
      exact ⟨trivial, rm_g h2 (Or.inl (by decide)), h2⟩
  | succ m ih =>
    intro i k B g A y hy hi hk hB h2 h3
    cases k with
    | zero => omega
    | succ k =>
      subst hy
      obtain ⟨ok, r1⟩ := rie_tick (by omega) h3
      obtain ⟨d1, d2⟩ := m_tick h2 (rie_wi h3) (rie_d1 h3) ok
      obtain ⟨f1, f2, f3⟩ := ih (i + 1) k (B + 1) (fx4_tickOn g) (aTick A) (nI (i + (m + 1))) (by rw [show i + 1 + m = i + (m + 1) by omega]) (by omega) (by omega) (by omega) d2 r1
      rw [fx4_runs_L2, sx4_runs_L2, if_neg (nI_ge (by omega) (by omega)), if_neg (nI_ge (by omega) (by omega)), bnd_o, bnd_o, nI_1]
      exact ⟨⟨d1, f1⟩, f2, f3⟩
theorem q03 {c : Int32} (h1 : ¬ c < 48) (h2 : c ≤ 51) : (c - 48 = 0 ∨ c - 48 = 1 ∨ c - 48 = 2 ∨ c - 48 = 3) ∧ ¬ c - 48 < 0 ∧ c - 48 ≤ 3 := by
  have e48 : (48 : Int32).toInt = 48 := by decide
  have e51 : (51 : Int32).toInt = 51 := by decide
  have e0 : (0 : Int32).toInt = 0 := by decide
  rw [i_nlt, e48] at h1
  rw [i_le, e51] at h2
  have es : (c - 48).toInt = c.toInt - 48 := by rw [ti_sub (by omega) (by omega), e48]
  obtain ⟨b1, b2⟩ := nI_back (x := c - 48) (by omega)
  have hk : (c - 48).toNatClampNeg ≤ 3 := by omega
  have q := ql3 hk
  rw [← b1] at q
  refine ⟨q, ?_, ?_⟩
  · rw [i_nlt, e0]; omega
  · rw [i_le, es]
    have e3 : (3 : Int32).toInt = 3 := by decide
    omega
/-- within a text: the state of both, with the state from before prepared and laid aside -/
def PX (B : Int) (L : Nat → St) (M : Md) (A0 A : Ab) (H : List Ab) (o n : Nat) : Prop := RC (L 0) A ∧ RM (M.1 0) A ∧ GA B A ∧ GA B A0 ∧ (∀ A' ∈ H, GA B A') ∧ HC L H o ∧ RC (L (2 + (o + H.length) % 5)) A0 ∧ HM M H ∧ RM (M.1 2) A0 ∧ TX L M n
theorem px_upd {A0 A A' : Ab} {H : List Ab} {o n : Nat} (h : PX B L M A0 A H o n) {S' : St} {g' : Nat → Int32} (hB : B ≤ B') (hc : RC S' A') (hm : RM g' A') (hg : GA B' A') : PX B' (va_up L 0 S') (va_up M.1 0 g', M.2) A0 A' H o n := by
  obtain ⟨h1, h2, h3, h3', h4, h5, h5', ⟨m1, m2, m3⟩, h7, t1, t2, t3, t4⟩ := h
  refine ⟨hc, hm, hg, ga_mono h3' hB, fun A' hA => ga_mono (h4 A' hA) hB, hc_ext h5 rfl rfl (fun j hj => va_up_ne _ _ (by omega)), ?_, ⟨m1, m2, m3⟩, h7, t1, t2, t3, t4⟩
  rw [va_up_ne _ _ (by omega)]
  exact h5'
theorem px_fail {A0 A : Ab} {H : List Ab} {o n : Nat} (h : PX B L M A0 A H o n) : sxh_bringBackPrepared L ∧ sx4_takesBack M ∧ KL B (fxh_bringBackPrepared L) (fx4_takesBack M) := by
  obtain ⟨h1, h2, h3, h3', h4, h5, h5', ⟨m1, m2, m3⟩, h7, t1, t2, t3, t4⟩ := h
  obtain ⟨z6, z7⟩ := rc_67 h1 h3.2
  obtain ⟨a1, a2, a3⟩ := hc_back h5 h5' h3' z6 z7
  obtain ⟨b1, P, b2, b3⟩ := m_tback (M := M)
  refine ⟨a1, b1, A0, H, o, n, ?_⟩
  rw [b2]
  have e7 := a3 7 (by decide)
  refine ⟨a2, rm_cong h7 b3, h3', h4, hc_ext h5 (by rw [e7]) (by rw [e7]) (fun j hj => a3 _ (by omega)), ⟨m1, m2, m3⟩, by rw [e7]; exact t1, t2, t3, fun i hi => ?_⟩
  rw [e7]
  exact t4 i hi
theorem px_done {A0 A : Ab} {H : List Ab} {o n : Nat} (h : PX B L M A0 A H o n) : sx4_carryOut_L109 kfu 0 M ∧ (fx4_carryOut_L109 kfu 0 M).1 = nI n ∧ KL B (hput L (fx0_keepPrepared (L 7 1 0, L 7 1 1))) (fx4_carryOut_L109 kfu 0 M).2 := by
  obtain ⟨h1, h2, h3, h3', h4, h5, h5', h6, h7, t1, t2, t3, t4⟩ := h
  obtain ⟨o', hk⟩ := hc_keep h5 h5'
  obtain ⟨P', Q', b1, b2, b3, b4⟩ := sw_L (M := M) 1203 0 kfu (M.1 0) (M.1 2) (by decide) (by unfold kfu; omega)
  have ez : (va_up (va_up M.1 0 (M.1 0)) 2 (M.1 2), M.2) = M := by rw [up_id, up_id]
  rw [ez, show nI 0 = (0 : Int32) from rfl] at b3 b4
  generalize hMf : ((va_up (va_up M.1 0 P') 2 Q', M.2) : Md) = Mf at b3 b4
  have f0 : RM (Mf.1 0) A0 := by
    rw [← hMf]
    refine rm_cong h7 fun x hx => ?_
    show P' x = M.1 2 x
    rw [b1, if_pos ⟨Nat.zero_le _, hx⟩]
  have f2 : ∀ x, x < 1203 → Mf.1 2 x = M.1 0 x := fun x hx => by
    rw [← hMf]
    show Q' x = M.1 0 x
    rw [b2, if_pos ⟨Nat.zero_le _, hx⟩]
  have f6 : HM Mf H := by
    rw [← hMf]
    exact h6
  have f3 : Mf.1 3 = M.1 3 := by rw [← hMf]; rfl
  have f42 : Mf.1 4 2 = M.1 4 2 := by rw [← hMf]; rfl
  obtain ⟨s1, s2, s3, s4, s5, s6, s7⟩ := m_saves f6 f0
  obtain ⟨u1, P, u2, u3⟩ := m_tback (M := fx4_saves Mf)
  refine ⟨b3 ⟨s1, u1⟩, ?_, ?_⟩
  · rw [b4, u2]
    show (fx4_saves Mf).1 4 2 = nI n
    rw [s7, f42, t2]
  · rw [b4, u2]
    have h7' := hput_7 L (fx0_keepPrepared (L 7 1 0, L 7 1 1))
    refine ⟨A, kPush H A0, o', n, ?_, ?_, h3, fun A' hA => ?_, hk, s2, h7'.2.2.1.trans t1, ?_, t3, fun i hi => ?_⟩
    · rw [hput_n _ _ (by decide)]
      exact h1
    · refine rm_cong h2 fun x hx => ?_
      show P x = M.1 0 x
      rw [u3 x hx, s4]
      exact f2 x hx
    · unfold kPush at hA
      rcases List.mem_append.mp hA with q | q
      · split at q
        · exact h4 A' (List.mem_of_mem_drop q)
        · exact h4 A' q
      · rw [List.mem_singleton.mp q]
        exact h3'
    · exact s7.trans (f42.trans t2)
    · rw [h7'.2.2.2]
      show L 7 0 i = (fx4_saves Mf).1 3 i ∧ ∃ v, v < 128 ∧ (fx4_saves Mf).1 3 i = nI v
      rw [s5, f3]
      exact t4 i hi
theorem ga_runs : ∀ (m : Nat) (B : Int) (A : Ab), B + m ≤ 1000000000 → GA B A → GA (B + m) (aRuns m A) := by
  intro m
  induction m with
  | zero => intro B A _ h; exact ga_mono h (by omega)
  | succ m ih =>
    intro B A hB h
    exact ga_mono (ih (B + 1) (aTick A) (by omega) (ga_tick (by omega) h)) (by omega)
theorem co_L {n : Nat} {y1 : Int32} {B1 : Int} (hB1 : B1 ≤ 1000000000) : ∀ (d i k k' : Nat) (B : Int) (L : Nat → St) (M : Md) (A0 A : Ab) (H : List Ab) (o : Nat), i + d = n → d < k → d < k' → B + 10 * d ≤ B1 → PX B L M A0 A H o n → (∀ j, i ≤ j → j < n → okc (M.1 3 j)) → sx3_carryOut_L28 k y1 (nI i) L ∧ sx4_carryOut_L70 k' (nI i) M ∧ (fx3_carryOut_L28 k y1 (nI i) L).1 = (fx4_carryOut_L70 k' (nI i) M).1 ∧ KL B1 (fx3_carryOut_L28 k y1 (nI i) L).2 (fx4_carryOut_L70 k' (nI i) M).2 := by
  have kmono : ∀ {B2 : Int} {L : Nat → St} {M : Md}, KL B2 L M → B2 ≤ B1 → KL B1 L M := fun {B2 L M} ⟨A, H, o, n, h⟩ hB => ⟨A, H, o, n, rl_mono h hB⟩
  intro d
  induction d with
  | zero =>
    intro i k k' B L M A0 A H o hi hk hk' hB hp ho
    have t := hp.2.2.2.2.2.2.2.2.2
    have t1 := t.1
    have t2 := t.2.1
    have t3 := t.2.2.1
    cases k with
    | zero => omega
    | succ k =>
      cases k' with
      | zero => omega
      | succ k' =>
        obtain ⟨a1, a2, a3⟩ := px_done hp
        rw [fx3_carryOut_L28, sx3_carryOut_L28, fx4_carryOut_L70, sx4_carryOut_L70, t1, t2, if_pos (nI_le (by omega) (by omega)), if_pos (nI_le (by omega) (by omega)), if_pos (nI_le (by omega) (by omega)), if_pos (nI_le (by omega) (by omega)), bnd_o, a2]
        refine ⟨trivial, a1, ?_, kmono a3 (by omega)⟩
        exact (hput_7 L (fx0_keepPrepared (L 7 1 0, L 7 1 1))).2.2.1.trans t1
  | succ d ih =>
    intro i k k' B L M A0 A H o hi hk hk' hB hp ho
    have hp' := hp
    obtain ⟨h1, h2, h3, h3', h4, h5, h5', h6, h7, t1, t2, t3, t4⟩ := hp'
    cases k with
    | zero => omega
    | succ k =>
      cases k' with
      | zero => omega
      | succ k' =>
        have vp : vp_in (nI i) 80 := vp_in_nI (by omega) (by decide)
        have hoi := ho i (Nat.le_refl _) (by omega)
        rw [fx3_carryOut_L28, sx3_carryOut_L28, fx4_carryOut_L70, sx4_carryOut_L70, t1, t2, if_neg (nI_ge (by omega) (by omega)), if_neg (nI_ge (by omega) (by omega)), if_neg (nI_ge (by omega) (by omega)), if_neg (nI_ge (by omega) (by omega)), byteAt_e (by omega), bnd_o (L 7 0 i), bnd_o (L 7 0 i), nI_clamp (show i < 2 ^ 31 by omega), (t4 i (by omega)).1, ticks_e]
        generalize hc : M.1 3 i = c at hoi
        -- ticks
        have tick : ∀ (T : Nat), T ≤ 10 → 0 < T → (fx4_does (M.1 0) c).1 = 1 → sx4_does (M.1 0) c → RM (fx4_does (M.1 0) c).2 (aRuns T A) → (sx3_carryOut_L51 (fun z1 z2 z3 z4 Lz => (if z4 = 0 then (bnd (fx1_hasRoom (Lz 0)) (fun v52003 => (if v52003 = 0 then (bnd (fxh_bringBackPrepared Lz) (fun L52005 => ((-1000) - z2, L52005))) else (bnd (fx1_enter (Lz 0) (z3 - 48)) (fun u52007 => fx3_carryOut_L28 k z1 (z2 + 1) (va_up Lz 0 u52007.2)))))) else fx3_carryOut_L28 k z1 (z2 + 1) Lz)) (fun z1 z2 z3 z4 Lz => (if z4 = 0 then (sx1_hasRoom (Lz 0) ∧ (bnd (fx1_hasRoom (Lz 0)) (fun v52003 => (if v52003 = 0 then sxh_bringBackPrepared Lz else (sx1_enter (Lz 0) (z3 - 48) ∧ (bnd (fx1_enter (Lz 0) (z3 - 48)) (fun u52007 => sx3_carryOut_L28 k z1 (z2 + 1) (va_up Lz 0 u52007.2)))))))) else sx3_carryOut_L28 k z1 (z2 + 1) Lz)) kfu y1 (nI i) c (nI T) 0 L) ∧ (vp_in (nI i) 80 ∧ (sx4_does (M.1 0) c ∧ (bnd (fx4_does (M.1 0) c) (fun u71003 => (if u71003.1 = 0 then sx4_takesBack (va_up M.1 0 u71003.2, M.2) else sx4_carryOut_L70 k' (nI i + 1) (va_up M.1 0 u71003.2, M.2)))))) ∧ (fx3_carryOut_L51 (fun z1 z2 z3 z4 Lz => (if z4 = 0 then (bnd (fx1_hasRoom (Lz 0)) (fun v52003 => (if v52003 = 0 then (bnd (fxh_bringBackPrepared Lz) (fun L52005 => ((-1000) - z2, L52005))) else (bnd (fx1_enter (Lz 0) (z3 - 48)) (fun u52007 => fx3_carryOut_L28 k z1 (z2 + 1) (va_up Lz 0 u52007.2)))))) else fx3_carryOut_L28 k z1 (z2 + 1) Lz)) kfu y1 (nI i) c (nI T) 0 L).1 = (bnd (fx4_does (M.1 0) c) (fun u71003 => (if u71003.1 = 0 then (bnd (fx4_takesBack (va_up M.1 0 u71003.2, M.2)) (fun M71005 => ((-1000) - nI i, M71005))) else fx4_carryOut_L70 k' (nI i + 1) (va_up M.1 0 u71003.2, M.2)))).1 ∧ KL B1 (fx3_carryOut_L51 (fun z1 z2 z3 z4 Lz => (if z4 = 0 then (bnd (fx1_hasRoom (Lz 0)) (fun v52003 => (if v52003 = 0 then (bnd (fxh_bringBackPrepared Lz) (fun L52005 => ((-1000) - z2, L52005))) else (bnd (fx1_enter (Lz 0) (z3 - 48)) (fun u52007 => fx3_carryOut_L28 k z1 (z2 + 1) (va_up Lz 0 u52007.2)))))) else fx3_carryOut_L28 k z1 (z2 + 1) Lz)) kfu y1 (nI i) c (nI T) 0 L).2 (bnd (fx4_does (M.1 0) c) (fun u71003 => (if u71003.1 = 0 then (bnd (fx4_takesBack (va_up M.1 0 u71003.2, M.2)) (fun M71005 => ((-1000) - nI i, M71005))) else fx4_carryOut_L70 k' (nI i + 1) (va_up M.1 0 u71003.2, M.2)))).2 := fun T hT hT0 e1 e2 e3 => by
          generalize hK : (fun (z1 z2 z3 z4 : Int32) (Lz : Nat → St) => (if z4 = 0 then (bnd (fx1_hasRoom (Lz 0)) (fun v52003 => (if v52003 = 0 then (bnd (fxh_bringBackPrepared Lz) (fun L52005 => ((-1000) - z2, L52005))) else (bnd (fx1_enter (Lz 0) (z3 - 48)) (fun u52007 => fx3_carryOut_L28 k z1 (z2 + 1) (va_up Lz 0 u52007.2)))))) else fx3_carryOut_L28 k z1 (z2 + 1) Lz)) = K
          generalize hG : (fun (z1 z2 z3 z4 : Int32) (Lz : Nat → St) => (if z4 = 0 then (sx1_hasRoom (Lz 0) ∧ (bnd (fx1_hasRoom (Lz 0)) (fun v52003 => (if v52003 = 0 then sxh_bringBackPrepared Lz else (sx1_enter (Lz 0) (z3 - 48) ∧ (bnd (fx1_enter (Lz 0) (z3 - 48)) (fun u52007 => sx3_carryOut_L28 k z1 (z2 + 1) (va_up Lz 0 u52007.2)))))))) else sx3_carryOut_L28 k z1 (z2 + 1) Lz)) = KG
          obtain ⟨S', f1, f2, f3, f4⟩ := c_runs51 K KG y1 (nI i) c hT T 0 kfu B L A (by omega) (by unfold kfu; omega) (by omega) h1 h3
          rw [show nI 0 = (0 : Int32) from rfl] at f3 f4
          have nz : ¬ nI T = 0 := nI_ne0 hT0 (by omega)
          rw [bnd_o (fx4_does (M.1 0) c), bnd_o (fx4_does (M.1 0) c), e1, if_neg n10, if_neg n10, f3, nI_1]
          have eK : K y1 (nI i) c (nI T) (va_up L 0 S') = fx3_carryOut_L28 k y1 (nI i + 1) (va_up L 0 S') := by
            rw [← hK]
            exact if_neg nz
          have eG : KG y1 (nI i) c (nI T) (va_up L 0 S') = sx3_carryOut_L28 k y1 (nI i + 1) (va_up L 0 S') := by
            rw [← hG]
            exact if_neg nz
          have hp2 := px_upd hp (B' := B + T) (by omega) f1 e3 f2
          obtain ⟨g1, g2, g3, g4⟩ := ih (i + 1) k k' (B + T) _ _ A0 (aRuns T A) H o (by omega) (by omega) (by omega) (by omega) hp2 (fun j hj1 hj2 => ho j (by omega) hj2)
          rw [eK, nI_1]
          exact ⟨f4 (by rw [eG, nI_1]; exact g1), ⟨vp, e2, g2⟩, g3, g4⟩
        by_cases q46 : c = 46
        · have r := m_runs 1 0 kfu B (M.1 0) A 1 rfl (by decide) (by unfold kfu; omega) (by omega) h2 h3.1
          rw [show nI 0 = (0 : Int32) from rfl] at r
          have r1 : sx4_runs (M.1 0) 1 := by unfold sx4_runs; exact r.1
          have r2 : RM (fx4_runs (M.1 0) 1).2 (aRuns 1 A) := by unfold fx4_runs; exact r.2.2
          have gr := ga_runs 1 B A (by omega) h3
          have nn := (rie_nn gr.1).1
          have nlt : ¬ (fx4_runs (M.1 0) 1).1 < 0 := by
            rw [i_nlt, show (0 : Int32).toInt = 0 by decide]
            unfold fx4_runs
            rw [r.2.1]
            exact nn
          have ed : fx4_does (M.1 0) c = (1, (fx4_runs (M.1 0) 1).2) := by
            unfold fx4_does
            rw [if_pos q46, bnd_o, if_neg nlt]
          have z := tick 1 (by decide) (by decide) (by rw [ed]) (by unfold sx4_does; rw [if_pos q46]; exact r1) (by rw [ed]; dsimp only; exact r2)
          rw [if_pos q46]
          exact z
        by_cases q58 : c = 58
        · have r := m_runs 10 0 kfu B (M.1 0) A 10 rfl (by decide) (by unfold kfu; omega) (by omega) h2 h3.1
          rw [show nI 0 = (0 : Int32) from rfl] at r
          have r1 : sx4_runs (M.1 0) 10 := by unfold sx4_runs; exact r.1
          have r2 : RM (fx4_runs (M.1 0) 10).2 (aRuns 10 A) := by unfold fx4_runs; exact r.2.2
          have gr := ga_runs 10 B A (by omega) h3
          have nn := (rie_nn gr.1).1
          have nlt : ¬ (fx4_runs (M.1 0) 10).1 < 0 := by
            rw [i_nlt, show (0 : Int32).toInt = 0 by decide]
            unfold fx4_runs
            rw [r.2.1]
            exact nn
          have ed : fx4_does (M.1 0) c = (1, (fx4_runs (M.1 0) 10).2) := by
            unfold fx4_does
            rw [if_neg q46, if_pos q58, bnd_o, if_neg nlt]
          have z := tick 10 (by decide) (by decide) (by rw [ed]) (by unfold sx4_does; rw [if_neg q46, if_pos q58]; exact r1) (by rw [ed]; dsimp only; exact r2)
          rw [if_neg q46, if_pos q58]
          exact z
        -- a feed
        obtain ⟨q1, q2⟩ := c48 hoi q46 q58
        obtain ⟨w1, w2, w3⟩ := q03 q1 q2
        rw [if_neg q46, if_neg q58]
        generalize hK : (fun (z1 z2 z3 z4 : Int32) (Lz : Nat → St) => (if z4 = 0 then (bnd (fx1_hasRoom (Lz 0)) (fun v52003 => (if v52003 = 0 then (bnd (fxh_bringBackPrepared Lz) (fun L52005 => ((-1000) - z2, L52005))) else (bnd (fx1_enter (Lz 0) (z3 - 48)) (fun u52007 => fx3_carryOut_L28 k z1 (z2 + 1) (va_up Lz 0 u52007.2)))))) else fx3_carryOut_L28 k z1 (z2 + 1) Lz)) = K
        generalize hG : (fun (z1 z2 z3 z4 : Int32) (Lz : Nat → St) => (if z4 = 0 then (sx1_hasRoom (Lz 0) ∧ (bnd (fx1_hasRoom (Lz 0)) (fun v52003 => (if v52003 = 0 then sxh_bringBackPrepared Lz else (sx1_enter (Lz 0) (z3 - 48) ∧ (bnd (fx1_enter (Lz 0) (z3 - 48)) (fun u52007 => sx3_carryOut_L28 k z1 (z2 + 1) (va_up Lz 0 u52007.2)))))))) else sx3_carryOut_L28 k z1 (z2 + 1) Lz)) = KG
        have e51 : fx3_carryOut_L51 K kfu y1 (nI i) c 0 0 L = K y1 (nI i) c 0 L := by
          show fx3_carryOut_L51 K (4999 + 1) y1 (nI i) c 0 0 L = _
          rw [fx3_carryOut_L51, if_pos (show (0 : Int32) ≤ 0 by decide)]
        have s51 : sx3_carryOut_L51 K KG kfu y1 (nI i) c 0 0 L = KG y1 (nI i) c 0 L := by
          show sx3_carryOut_L51 K KG (4999 + 1) y1 (nI i) c 0 0 L = _
          rw [sx3_carryOut_L51, if_pos (show (0 : Int32) ≤ 0 by decide)]
        obtain ⟨c1, c2⟩ := c_room h1
        obtain ⟨b1, b2⟩ := m_bar h2 (c - 48)
        rw [w_ok w2 w3, if_neg n10] at b2
        rw [e51, s51]
        by_cases qr : aRoom A = true
        · rw [if_pos qr] at c2 b2
          obtain ⟨g1, g2, -⟩ := rie_enter (by omega) h3.1 qr w1
          have g' := ga_enter (by omega) h3 qr w1
          obtain ⟨d1, d2, d3⟩ := c_enter h1 g1 g2 (c - 48)
          obtain ⟨f1, f2, f3⟩ := m_feeds h2 g1 (by omega) (c - 48)
          have nn := (rie_nn h3.1).2.2.1
          have nlt : ¬ (fx4_feeds (M.1 0) (c - 48)).1 < 0 := by
            rw [i_nlt, show (0 : Int32).toInt = 0 by decide, f2]
            exact nn
          have ed : fx4_does (M.1 0) c = (1, (fx4_feeds (M.1 0) (c - 48)).2) := by
            unfold fx4_does
            rw [if_neg q46, if_neg q58, b2, bnd_o (0 : Int32), if_pos p00, bnd_o, if_neg nlt]
          have es : sx4_does (M.1 0) c := by
            unfold sx4_does
            rw [if_neg q46, if_neg q58, b2, bnd_o (0 : Int32), if_pos p00]
            exact ⟨b1, f1⟩
          have hp2 := px_upd hp (B' := B + 1) (by omega) d3 f3 g'
          obtain ⟨r1, r2, r3, r4⟩ := ih (i + 1) k k' (B + 1) _ _ A0 (aEnter A (c - 48)) H o (by omega) (by omega) (by omega) (by omega) hp2 (fun j hj1 hj2 => ho j (by omega) hj2)
          have eK : K y1 (nI i) c 0 L = fx3_carryOut_L28 k y1 (nI (i + 1)) (va_up L 0 (fx1_enter (L 0) (c - 48)).2) := by
            rw [← hK]
            dsimp only
            rw [if_pos p00, c2, bnd_o (1 : Int32), if_neg n10, bnd_o, nI_1]
          have eG : KG y1 (nI i) c 0 L = (sx1_hasRoom (L 0) ∧ sx1_enter (L 0) (c - 48) ∧ sx3_carryOut_L28 k y1 (nI (i + 1)) (va_up L 0 (fx1_enter (L 0) (c - 48)).2)) := by
            rw [← hG]
            dsimp only
            rw [if_pos p00, c2, bnd_o (1 : Int32), if_neg n10, bnd_o, nI_1]
          rw [bnd_o (fx4_does (M.1 0) c), bnd_o (fx4_does (M.1 0) c), ed, if_neg n10, if_neg n10, eK, eG, nI_1]
          exact ⟨⟨c1, d1, r1⟩, ⟨vp, es, r2⟩, r3, r4⟩
        · rw [if_neg qr] at c2 b2
          have ed : fx4_does (M.1 0) c = (0, M.1 0) := by
            unfold fx4_does
            rw [if_neg q46, if_neg q58, b2, bnd_o (2 : Int32), if_neg n20]
          have es : sx4_does (M.1 0) c := by
            unfold sx4_does
            rw [if_neg q46, if_neg q58, b2, bnd_o (2 : Int32), if_neg n20]
            exact ⟨b1, trivial⟩
          obtain ⟨r1, r2, r3⟩ := px_fail hp
          have eK : K y1 (nI i) c 0 L = (-1000 - nI i, fxh_bringBackPrepared L) := by
            rw [← hK]
            dsimp only
            rw [if_pos p00, c2, bnd_o (0 : Int32), if_pos p00, bnd_o]
          have eG : KG y1 (nI i) c 0 L = (sx1_hasRoom (L 0) ∧ sxh_bringBackPrepared L) := by
            rw [← hG]
            dsimp only
            rw [if_pos p00, c2, bnd_o (0 : Int32), if_pos p00]
          have em : ((va_up M.1 0 (M.1 0), M.2) : Md) = M := by rw [up_id]
          rw [bnd_o (fx4_does (M.1 0) c), bnd_o (fx4_does (M.1 0) c), ed, if_pos p00, if_pos p00, eK, eG]
          dsimp only
          rw [em, bnd_o]
          refine ⟨⟨c1, r1⟩, ⟨vp, es, ?_⟩, ?_, ?_⟩
          · exact r2
          · rfl
          · dsimp only
            exact kmono r3 (by omega)
theorem q_carryOut (h : KL B L M) (hB : B + 1000 ≤ B') (hL : B' ≤ 1000000000) : sx3_carryOut L ∧ sx4_carryOut M ∧ (fx3_carryOut L).1 = (fx4_carryOut M).1 ∧ KL B' (fx3_carryOut L).2 (fx4_carryOut M).2 := by
  obtain ⟨A, H, o, n, hx⟩ := h
  have hx' := hx
  obtain ⟨h1, h2, h3, h4, h5, h6, t1, t2, t3, t4⟩ := hx'
  obtain ⟨a1, a2⟩ := (syn_L (L := L) (M := m0 M 0) t3 t1 t2 (fun i hi => (t4 i hi).1) n 0 kfu kfu (by omega) (by unfold kfu; omega) (by unfold kfu; omega)).resolve_right id
  rw [show nI 0 = (0 : Int32) from rfl] at a1 a2
  have e3 : fx3_syntaxError L = fx3_syntaxError_L2 L kfu 0 := rfl
  have em : (sset M.1 4 1 0, M.2) = m0 M 0 := rfl
  unfold sx3_carryOut fx3_carryOut sx4_carryOut fx4_carryOut
  rw [e3, em]
  rcases a2 with ⟨f1, f2, f3, f4⟩ | ⟨j, f0, f1, f2, f3⟩
  · obtain ⟨c1, c2, c3, c4, c5⟩ := hc_prep h5 h1 h3
    obtain ⟨l1, P, l2, l3⟩ := m_lays (M := m0 M 0)
    rw [f2, f3, f4, bnd_o (-1 : Int32), bnd_o (-1 : Int32), if_pos rfl, if_pos rfl, bnd_o (fxh_prepare L), bnd_o (fxh_prepare L), l2, bnd_o, bnd_o]
    have hp : PX B (fxh_prepare L) (va_up (m0 M 0).1 2 P, (m0 M 0).2) A A H o n := by
      refine ⟨by rw [c4 0 (by decide)]; exact h1, h2, h3, h3, h4, c2, c3, h6, rm_cong h2 l3, by rw [c5]; exact t1, t2, t3, fun i hi => ?_⟩
      rw [c5]
      exact t4 i hi
    obtain ⟨r1, r2, r3, r4⟩ := co_L (y1 := -1) hL n 0 kfu kfu B (fxh_prepare L) (va_up (m0 M 0).1 2 P, (m0 M 0).2) A A H o (by omega) (by unfold kfu; omega) (by unfold kfu; omega) (by omega) hp f1
    exact ⟨⟨a1, c1, r1⟩, ⟨l1, r2⟩, r3, r4⟩
  · have ne : ¬ nI j = -1 := nI_ne (by omega)
    rw [f1, f3, bnd_o (nI j), bnd_o (nI j), if_neg ne, if_neg ne]
    exact ⟨⟨a1, trivial⟩, f2, rfl, A, H, o, n, rl_mono (rl_ref hx 0) (by omega)⟩
end CARRY
