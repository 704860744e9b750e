/-! calls: fate -/
def SX (A B : Ab) : Prop := A.1 15 = 0 → B.1 15 = 0 ∧ B.1 1201 = A.1 1201
theorem SX.rf {A : Ab} : SX A A := fun h => ⟨h, rfl⟩
theorem SX.tr {A B C : Ab} (h : SX A B) (h' : SX B C) : SX A C := fun z => by
  obtain ⟨a1, a2⟩ := h z
  obtain ⟨b1, b2⟩ := h' a1
  exact ⟨b1, b2.trans a2⟩
section SXS
variable {A : Ab}
theorem sx_s {i : Nat} {v : Int32} (h1 : i ≠ 1201) (h2 : i ≠ 15) : SX A (aS A i v) := fun z => ⟨(aS_ne _ _ fun q => h2 q.symm).trans z, aS_ne _ _ fun q => h1 q.symm⟩
theorem sx_count {i : Nat} (h : i < 18) : SX A (aCount A i) := sx_s (by omega) (by omega)
theorem sx_alarm {k : Nat} (h : k < 5) : SX A (aAlarm A k) := fun z => by
  have hc := sx_count (A := A) (i := 13 + k) (by omega) z
  unfold aAlarm
  split
  · refine ⟨aS_eq _ _ _, ?_⟩
    rw [aS_ne _ _ (by decide), aS_ne _ _ (by decide)]
    exact hc.2
  · refine ⟨aS_eq _ _ _, ?_⟩
    rw [aS_ne _ _ (by decide)]
    exact hc.2
theorem sx_t {k : Nat} {l : List kRow} : SX A (aT A k l) := fun z => ⟨z, rfl⟩
theorem sx_tells {n c v : Int32} : SX A (aTells A n c v) := by
  unfold aTells
  cases e : kfind (A.2 1) 0 n with
  | none => exact sx_count (by decide)
  | some k =>
    show SX A (if kRec A k 4 = 1 then _ else _)
    (repeat' split) <;> first | exact sx_count (by decide) | exact SX.rf | exact sx_t
theorem sx_tellL : ∀ (l : List kRow) {A : Ab}, SX A (aTellL A l) := by
  intro l
  induction l with
  | nil => intro A; exact SX.rf
  | cons v t ih => intro A; exact sx_tells.tr ih
theorem sx_confirm : SX A (aConfirm A) := by
  unfold aConfirm
  split
  · exact sx_alarm (by decide)
  · exact SX.tr (B := aRem A 4 0) sx_t (sx_count (by decide))
theorem sx_confL : ∀ (l : List kRow) {A : Ab}, SX A (aConfL A l) := by
  intro l
  induction l with
  | nil => intro A; exact SX.rf
  | cons v t ih => intro A; exact sx_confirm.tr ih
theorem sx_alarmL : ∀ (l : List kRow) {A : Ab}, SX A (aAlarmL A l) := by
  intro l
  induction l with
  | nil => intro A; exact SX.rf
  | cons v t ih => intro A; exact (sx_alarm (by decide)).tr ih
theorem sx_tick : SX A (aTick A) := fun z => by
  have h : SX A (aPre A) := (sx_s (i := 14) (by decide) (by decide)).tr (((sx_tellL _).tr sx_t).tr (((sx_confL _).tr sx_t).tr ((sx_alarmL _).tr sx_t)))
  obtain ⟨h1, h2⟩ := h z
  have hp : ∀ m, aPulses m (aPre A) = aPre A := fun m => by
    cases m with
    | zero => rfl
    | succ m =>
      rw [aPulses, if_pos h1]
  unfold aTick
  rw [hp]
  exact ⟨h1, h2⟩
end SXS
section FATE
variable {B B' : Int} {L : Nat → St} {M : Md}
/-- a belt that has stopped: the model's further ticks -/
theorem ft_stop {x1 : Int32} : ∀ (m i k : Nat) (B : Int) (M : Md) (A : Ab), i + m = 1000 → m < k → B + m ≤ 1000000000 → RM (M.1 0) A → RIe B A → A.1 15 = 0 → A.1 1201 = 0 → ∃ g', sx4_fate_L69 k x1 (nI i) M ∧ fx4_fate_L69 k x1 (nI i) M = (0, fx4_takesBack (va_up M.1 0 g', M.2)) := by
  intro m
  induction m with
  | zero =>
    intro i k B M A hi hk hB h2 h3 z15 z1201
    cases k with
    | zero => omega
    | succ k =>
      rw [fx4_fate_L69, sx4_fate_L69, if_pos (show (1000 : Int32) ≤ nI i from nI_le (a := 1000) (by omega) (by omega)), if_pos (show (1000 : Int32) ≤ nI i from nI_le (a := 1000) (by omega) (by omega)), bnd_o, rm_g h2 kSc1, z1201]
      exact ⟨M.1 0, m_tback.1, by rw [up_id]⟩
  | succ m ih =>
    intro i k B M A hi hk hB h2 h3 z15 z1201
    cases k with
    | zero => omega
    | succ k =>
      obtain ⟨ok, r1⟩ := rie_tick (by omega) h3
      obtain ⟨d1, d2⟩ := m_tick h2 (rie_wi h3) (rie_d1 h3) ok
      obtain ⟨e1, e2⟩ := sx_tick z15
      obtain ⟨g', f1, f2⟩ := ih (i + 1) k (B + 1) (va_up M.1 0 (fx4_tickOn (M.1 0)), M.2) (aTick A) (by omega) (by omega) (by omega) (by dsimp only; rw [va_up_self]; exact d2) r1 e1 (e2.trans z1201)
      rw [fx4_fate_L69, sx4_fate_L69, if_neg (show ¬ (1000 : Int32) ≤ nI i from nI_ge (b := 1000) (by omega) (by omega)), if_neg (show ¬ (1000 : Int32) ≤ nI i from nI_ge (b := 1000) (by omega) (by omega)), rm_g h2 kSc1, z1201, if_pos p00, if_pos p00, bnd_o, bnd_o, nI_1]
      dsimp only at f2
      rw [up_up] at f2
      exact ⟨g', ⟨d1, f1⟩, f2⟩
theorem ft_L {x1 : Int32} : ∀ (m i k : Nat) (B : Int) (L : Nat → St) (M : Md) (A : Ab), i + m = 1000 → m < k → B + m ≤ 1000000000 → RC (L 1) A → RM (M.1 0) A → RIe B A → ∃ S' g' v, sx3_fate_L68 k x1 (nI i) L ∧ fx3_fate_L68 k x1 (nI i) L = (0, v, va_up L 1 S') ∧ sx4_fate_L69 k x1 (nI i) M ∧ fx4_fate_L69 k x1 (nI i) M = (v, fx4_takesBack (va_up M.1 0 g', M.2)) := by
  intro m
  induction m with
  | zero =>
    intro i k B L M A hi hk hB h1 h2 h3
    cases k with
    | zero => omega
    | succ k =>
      have q : (1000 : Int32) ≤ nI i := nI_le (a := 1000) (by omega) (by omega)
      rw [fx3_fate_L68, sx3_fate_L68, fx4_fate_L69, sx4_fate_L69, if_pos q, if_pos q, if_pos q, if_pos q, bnd_o, rm_g h2 kSc1, rc_out h1]
      exact ⟨L 1, M.1 0, A.1 1201, trivial, by rw [up_id], m_tback.1, by rw [up_id]⟩
  | succ m ih =>
    intro i k B L M A hi hk hB h1 h2 h3
    cases k with
    | zero => omega
    | succ k =>
      have q : ¬ (1000 : Int32) ≤ nI i := nI_ge (b := 1000) (by omega) (by omega)
      by_cases q7 : A.1 1201 = 0
      · by_cases q15 : A.1 15 = 0
        · obtain ⟨g', f1, f2⟩ := ft_stop (x1 := x1) (m + 1) i (k + 1) B M A (by omega) (by omega) (by omega) h2 h3 q15 q7
          rw [f2, fx3_fate_L68, sx3_fate_L68, if_neg q, if_neg q, rc_run h1, q15, if_pos p00, if_pos p00, rc_out h1, q7]
          exact ⟨L 1, g', 0, trivial, by rw [up_id], f1, rfl⟩
        · obtain ⟨ok, r1⟩ := rie_tick (by omega) h3
          obtain ⟨c1, c2⟩ := c_tick h1 (rie_wi h3) ok
          obtain ⟨d1, d2⟩ := m_tick h2 (rie_wi h3) (rie_d1 h3) ok
          obtain ⟨S', g', v, f1, f2, f3, f4⟩ := ih (i + 1) k (B + 1) (va_up L 1 (fx1_passTick (L 1))) (va_up M.1 0 (fx4_tickOn (M.1 0)), M.2) (aTick A) (by omega) (by omega) (by omega) (by rw [va_up_self]; exact c2) (by dsimp only; rw [va_up_self]; exact d2) r1
          rw [fx3_fate_L68, sx3_fate_L68, fx4_fate_L69, sx4_fate_L69, if_neg q, if_neg q, if_neg q, if_neg q, rc_run h1, if_neg q15, if_neg q15, rm_g h2 kSc1, rc_out h1, q7, if_pos p00, if_pos p00, if_pos p00, if_pos p00, bnd_o (va_up L 1 (fx1_passTick (L 1))), bnd_o (va_up L 1 (fx1_passTick (L 1))), bnd_o, bnd_o, nI_1]
          dsimp only at f4
          rw [up_up] at f2 f4
          exact ⟨S', g', v, ⟨c1, f1⟩, f2, ⟨d1, f3⟩, f4⟩
      · rw [fx3_fate_L68, sx3_fate_L68, fx4_fate_L69, sx4_fate_L69, if_neg q, if_neg q, if_neg q, if_neg q, rm_g h2 kSc1, rc_out h1, if_neg q7, if_neg q7, if_neg q7, if_neg q7, bnd_o]
        by_cases q15 : L 1 3 1 = 0
        · rw [if_pos q15, if_pos q15]
          exact ⟨L 1, M.1 0, A.1 1201, trivial, by rw [up_id], m_tback.1, by rw [up_id]⟩
        · rw [if_neg q15, if_neg q15]
          exact ⟨L 1, M.1 0, A.1 1201, trivial, by rw [up_id], m_tback.1, by rw [up_id]⟩
theorem rl_m {A : Ab} {H : List Ab} {o n : Nat} {M' : Md} (h : RLx B L M A H o n) (e0 : RM (M'.1 0) A) (e1 : M'.1 1 = M.1 1) (e3 : M'.1 3 = M.1 3) (e4 : M'.1 4 0 = M.1 4 0) (e42 : M'.1 4 2 = M.1 4 2) : RLx B L M' A H o n := by
  obtain ⟨h1, h2, h3, h4, h5, ⟨m1, m2, m3⟩, t1, t2, t3, t4⟩ := h
  exact ⟨h1, e0, h3, h4, h5, ⟨e4.trans m1, m2, by rw [e1]; exact m3⟩, t1, e42.trans t2, t3, by rw [e3]; exact t4⟩
theorem rl_1 {A : Ab} {H : List Ab} {o n : Nat} {S : St} (h : RLx B L M A H o n) : RLx B (va_up L 1 S) M A H o n := by
  obtain ⟨h1, h2, h3, h4, h5, h6, h7⟩ := h
  exact ⟨h1, h2, h3, h4, hc_ext h5 rfl rfl (fun j hj => va_up_ne _ _ (by omega)), h6, h7⟩
theorem q_fate (h : KL B L M) (hB : B + 1000 ≤ B') (hL : B' ≤ 1000000000) (x1 : Int32) : sx3_fate L x1 ∧ sx4_fate M x1 ∧ CR 3 3 B' (fx3_fate L x1).1 (fx3_fate L x1).2.1 (fx3_fate L x1).2.2 (fx4_fate M x1) := by
  obtain ⟨A, H, o, n, hx⟩ := h
  have hx' := hx
  obtain ⟨h1, h2, h3, -⟩ := hx'
  have w := rie_wi h3.1
  have c := rie_ci h3.1
  obtain ⟨a1, a2⟩ := g2_find kTab1 (rc_t1 h1) x1
  rw [kff_find] at a2
  obtain ⟨b1, b2⟩ := m_recOf h2 (rie_d1 h3.1) x1
  unfold sx3_fate fx3_fate sx4_fate fx4_fate
  rw [a2, b2]
  cases e : kfind (A.2 1) 0 x1 with
  | none =>
    rw [show opI none = -1 from rfl, bnd_o (-1 : Int32), bnd_o (-1 : Int32), bnd_o (-1 : Int32), bnd_o (-1 : Int32), if_pos rfl, if_pos rfl, if_pos rfl, if_pos rfl, rfb1, rfb1, if_neg n10, if_neg n10]
    exact ⟨⟨a1, trivial⟩, ⟨b1, trivial⟩, cr_ref hx (by omega) (Or.inl rfl) rfl kec3⟩
  | some k =>
    have hk := (kfind_0 e).1
    have hl := len1 h2
    rw [show opI (some k) = nI k from rfl, bnd_o (nI k), bnd_o (nI k), bnd_o (nI k), bnd_o (nI k), if_neg (nI_ne (by omega)), if_neg (nI_ne (by omega)), if_neg (nI_ne (by omega)), if_neg (nI_ne (by omega)), rfb0, rfb0, if_pos p00, if_pos p00]
    obtain ⟨l1, P, l2, l3⟩ := m_lays (M := m0 M 0)
    rw [l2]
    have ck := copy_ok (S := L 1) h1 w
    have rc1 := rc_copyW (S := L 1) h1
    have rc2 := rc_s3 rc1 (a := 6) (by decide) x1
    have rc3 := rc_s3 rc2 (a := 7) (by decide) 0
    have rm1 := rm_set h2 kSc2 x1
    have rm2 := rm_set rm1 kSc1 0
    generalize hA : aS (aS A 1202 x1) 1201 0 = A2 at rm2
    have eA : ∀ i, i ≠ 1201 → i ≠ 1202 → A2.1 i = A.1 i := fun i i1 i2 => by rw [← hA, aS_ne _ _ i1, aS_ne _ _ i2]
    have e2A : A2.2 = A.2 := by rw [← hA]; rfl
    have rc4 : RC (fx1_watch (fx1_copyFrom (L 0) (L 1)) x1) A2 := by
      refine rc_ext rc3 (fun i hi => ?_) (fun k hk => ?_)
      · rw [← hA]
        show (if i = 1201 then (0 : Int32) else if i = 1202 then x1 else A.1 i) = if i = 1201 then 0 else if i = 1202 then x1 else if i = 1201 then _ else if i = 1202 then _ else A.1 i
        by_cases q1 : i = 1201
        · rw [if_pos q1, if_pos q1]
        · rw [if_neg q1, if_neg q1]
          by_cases q2 : i = 1202
          · rw [if_pos q2, if_pos q2]
          · rw [if_neg q2, if_neg q2, if_neg q1, if_neg q2]
      · rw [e2A]; rfl
    have w2 : WI A2 := wi_scal w e2A (by rw [eA 13 (by decide) (by decide)]; exact w.1) (by rw [eA 15 (by decide) (by decide)]; exact w.2.1) (by rw [eA 15 (by decide) (by decide), eA 16 (by decide) (by decide)]; exact w.2.2.1)
    have rie15 : ∀ v, (v = 0 ∨ (v = 1 ∧ A2.1 16 = 0)) → RIe B (aS A2 15 v) := fun v hv => by
      have e : ∀ i, i ≠ 15 → i ≠ 1201 → i ≠ 1202 → (aS A2 15 v).1 i = A.1 i := fun i i1 i2 i3 => by rw [aS_ne _ _ i1, eA i i2 i3]
      have c' : CI (aS A2 15 v) := by
        unfold CI at c ⊢
        rw [e 0 (by decide) (by decide) (by decide), e 1 (by decide) (by decide) (by decide), e 2 (by decide) (by decide) (by decide), e 3 (by decide) (by decide) (by decide), e 5 (by decide) (by decide) (by decide), e 7 (by decide) (by decide) (by decide), e 8 (by decide) (by decide) (by decide), e 9 (by decide) (by decide) (by decide), e 10 (by decide) (by decide) (by decide), e 11 (by decide) (by decide) (by decide)]
        exact c
      exact rie_scal h3.1 (by rw [aS_2, e2A]) (wi_15 w2 hv) c' (e 8 (by decide) (by decide) (by decide)) (e 9 (by decide) (by decide) (by decide)) (e 10 (by decide) (by decide) (by decide)) (e 14 (by decide) (by decide) (by decide)) (e 17 (by decide) (by decide) (by decide))
    rw [bnd_o (va_up L 1 (fx1_copyFrom (L 0) (L 1))), bnd_o (va_up L 1 (fx1_copyFrom (L 0) (L 1))), up_up, va_up_self, bnd_o (va_up L 1 (fx1_watch (fx1_copyFrom (L 0) (L 1)) x1)), bnd_o (va_up L 1 (fx1_watch (fx1_copyFrom (L 0) (L 1)) x1)), va_up_self, rc_alarm rc4, up_up, up_up]
    generalize fx1_watch (fx1_copyFrom (L 0) (L 1)) x1 = W at rc4 ⊢
    rw [bnd_o (va_up (m0 M 0).1 2 P, (m0 M 0).2), bnd_o (va_up (m0 M 0).1 2 P, (m0 M 0).2)]
    dsimp only
    have en : va_up (m0 M 0).1 2 P 0 = M.1 0 := rfl
    rw [en]
    rw [bnd_o (va_up (va_up (m0 M 0).1 2 P) 0 (upd (M.1 0) 1202 x1), (m0 M 0).2), bnd_o (va_up (va_up (m0 M 0).1 2 P) 0 (upd (M.1 0) 1202 x1), (m0 M 0).2)]
    dsimp only
    rw [va_up_self, up_up, bnd_o (va_up (va_up (m0 M 0).1 2 P) 0 (upd (upd (M.1 0) 1202 x1) 1201 0), (m0 M 0).2), bnd_o (va_up (va_up (m0 M 0).1 2 P) 0 (upd (upd (M.1 0) 1202 x1) 1201 0), (m0 M 0).2)]
    dsimp only
    generalize upd (upd (M.1 0) 1202 x1) 1201 0 = g2 at rm2 ⊢
    have fin : ∀ v, (v = 0 ∨ (v = 1 ∧ A2.1 16 = 0)) → sx3_fate_L68 kfu x1 0 (va_up L 1 (sset W 3 1 v)) ∧ sx4_fate_L69 kfu x1 0 (va_up (va_up (m0 M 0).1 2 P) 0 (upd g2 15 v), (m0 M 0).2) ∧ CR 3 3 B' (fx3_fate_L68 kfu x1 0 (va_up L 1 (sset W 3 1 v))).1 (fx3_fate_L68 kfu x1 0 (va_up L 1 (sset W 3 1 v))).2.1 (fx3_fate_L68 kfu x1 0 (va_up L 1 (sset W 3 1 v))).2.2 (fx4_fate_L69 kfu x1 0 (va_up (va_up (m0 M 0).1 2 P) 0 (upd g2 15 v), (m0 M 0).2)) := fun v hv => by
      obtain ⟨S', g', u, f1, f2, f3, f4⟩ := ft_L (x1 := x1) 1000 0 kfu B (va_up L 1 (sset W 3 1 v)) (va_up (va_up (m0 M 0).1 2 P) 0 (upd g2 15 v), (m0 M 0).2) (aS A2 15 v) (by decide) (by unfold kfu; omega) (by omega) (by rw [va_up_self]; exact rc_s3 rc4 (a := 1) (by decide) v) (by dsimp only; rw [va_up_self]; exact rm_set rm2 (i := 15) (Or.inl (by decide)) v) (rie15 v hv)
      rw [show nI 0 = (0 : Int32) from rfl] at f1 f2 f3 f4
      rw [f2, f4]
      refine ⟨f1, f3, ?_⟩
      dsimp only
      rw [up_up, up_up]
      obtain ⟨-, P2, m2, m3⟩ := m_tback (M := (va_up (va_up (m0 M 0).1 2 P) 0 g', (m0 M 0).2))
      rw [m2]
      have z : RLx B L (va_up (va_up (va_up (m0 M 0).1 2 P) 0 g') 0 P2, (m0 M 0).2) A H o n := rl_m hx (rm_cong h2 fun x hx => (m3 x hx).trans (l3 x hx)) rfl rfl rfl rfl
      exact cr_ok rfl rfl rfl (rl_mono (rl_1 z) (show B ≤ B' by omega))
    have g16 : va_up (va_up (m0 M 0).1 2 P) 0 g2 0 16 = A2.1 16 := by
      rw [va_up_self]
      exact rm_g rm2 (Or.inl (by decide))
    by_cases q16 : A2.1 16 = 0
    · have q16' := g16.trans q16
      rw [if_pos q16, if_pos q16, if_pos q16', if_pos q16', va_up_self, up_up]
      obtain ⟨f1, f2, f3⟩ := fin 1 (Or.inr ⟨rfl, q16⟩)
      rw [bnd_o, bnd_o, bnd_o, bnd_o]
      exact ⟨⟨a1, ck, f1⟩, ⟨b1, l1, f2⟩, f3⟩
    · have q16' : ¬ va_up (va_up (m0 M 0).1 2 P) 0 g2 0 16 = 0 := by rw [g16]; exact q16
      rw [if_neg q16, if_neg q16, if_neg q16', if_neg q16', va_up_self, up_up]
      obtain ⟨f1, f2, f3⟩ := fin 0 (Or.inl rfl)
      rw [bnd_o, bnd_o, bnd_o, bnd_o]
      exact ⟨⟨a1, ck, f1⟩, ⟨b1, l1, f2⟩, f3⟩
end FATE
