/-! calls: start, stop, reset, feed, slip, take, run -/
section CALLS2
variable {B B' : Int} {L : Nat → St} {M : Md}
/-- a scalar 15 or 16 changes -/
theorem ga_15 {A : Ab} (h : GA B A) {i : Nat} {v : Int32} (hi : i = 15 ∨ i = 16) (w : WI (aS A i v)) : GA B (aS A i v) := by
  have c := rie_ci h.1
  have e : ∀ k, k ≠ i → (aS A i v).1 k = A.1 k := fun k hk => aS_ne _ _ hk
  have c' : CI (aS A i v) := by
    unfold CI at c ⊢
    rw [e 0 (by omega), e 1 (by omega), e 2 (by omega), e 3 (by omega), e 5 (by omega), e 7 (by omega), e 8 (by omega), e 9 (by omega), e 10 (by omega), e 11 (by omega)]
    exact c
  exact ga_scal h rfl w c' (e 8 (by omega)) (e 9 (by omega)) (e 10 (by omega)) (e 14 (by omega)) (e 17 (by omega)) (e 1201 (by omega)) (e 1202 (by omega))
theorem wi_15 {A : Ab} (w : WI A) {v : Int32} (hv : v = 0 ∨ (v = 1 ∧ A.1 16 = 0)) : WI (aS A 15 v) := by
  refine wi_scal w rfl (by rw [aS_ne _ _ (by decide)]; exact w.1) ?_ ?_
  · rw [aS_eq]
    rcases hv with z | z
    · exact Or.inl z
    · exact Or.inr z.1
  · rw [aS_eq, aS_ne _ _ (by decide)]
    intro q
    rcases hv with z | z
    · exact z
    · exact absurd z.2 q
theorem q_start (h : KL B L M) (hB : B ≤ B') : sx3_start L ∧ sx4_start M ∧ CR 2 2 B' (fx3_start L).1 (fx3_start L).2.1 (fx3_start L).2.2 (fx4_start M) := by
  obtain ⟨A, H, o, n, hx⟩ := h
  have hx' := hx
  obtain ⟨h1, h2, h3, -⟩ := hx'
  have w := rie_wi h3.1
  unfold sx3_start sx4_start fx3_start fx4_start
  rw [rc_run h1, rc_alarm h1, rm_g h2 (i := 15) (Or.inl (by decide)), rm_g h2 (i := 16) (Or.inl (by decide))]
  rcases w.2.1 with q | q
  · rw [q, if_pos p00, if_pos p00, if_neg (show ¬ (0 : Int32) = 1 by decide), if_neg (show ¬ (0 : Int32) = 1 by decide)]
    by_cases q2 : A.1 16 = 0
    · rw [if_pos q2, if_pos q2, if_pos q2, if_pos q2, rfb0, rfb0, if_pos p00, if_pos p00]
      obtain ⟨s1, s2, ⟨o', s3⟩, s4, s5, s6⟩ := rl_save (rl_ref hx 0)
      refine ⟨s1, s2, ?_⟩
      generalize fxh_save L = L9 at s3 s4 ⊢
      generalize fx4_saves (m0 M 0) = M4 at s3 s5 s6 ⊢
      have s3' := s3
      obtain ⟨t1, t2, t3, t4⟩ := s3
      have r1 := rc_s3 t1 (a := 1) (by decide) 1
      have u1 := rm_set t2 (i := 15) (Or.inl (by decide)) 1
      have fin := rl_upd s3' (Int.le_refl B) r1 u1 (ga_15 t3 (Or.inl rfl) (wi_15 w (Or.inr ⟨rfl, q2⟩)))
      repeat rw [bnd_o]
      rw [st2_0, g2_count (rc_t0 r1), cnt0 u1]
      exact cr_ok rfl rfl s6 (rl_mono fin hB)
    · rw [if_neg q2, if_neg q2, if_neg q2, if_neg q2, rfb1, rfb1, if_neg n10, if_neg n10]
      exact ⟨trivial, trivial, cr_ref hx hB (Or.inl rfl) rfl kec2⟩
  · rw [q, if_neg n10, if_neg n10, if_pos (show (1 : Int32) = 1 from rfl), if_pos (show (1 : Int32) = 1 from rfl), rfb1, rfb1, if_neg n10, if_neg n10]
    exact ⟨trivial, trivial, cr_ref hx hB (Or.inl rfl) rfl kec2⟩
theorem q_stop (h : KL B L M) (hB : B ≤ B') : sx3_stop L ∧ sx4_stop M ∧ CR 2 2 B' (fx3_stop L).1 (fx3_stop L).2.1 (fx3_stop L).2.2 (fx4_stop M) := by
  obtain ⟨A, H, o, n, hx⟩ := h
  have hx' := hx
  obtain ⟨h1, h2, h3, -⟩ := hx'
  have w := rie_wi h3.1
  unfold sx3_stop sx4_stop fx3_stop fx4_stop
  rw [rc_run h1, rm_g h2 (i := 15) (Or.inl (by decide))]
  by_cases q2 : A.1 15 = 0
  · rw [if_pos q2, if_pos q2, if_pos q2, if_pos q2, rfb1, rfb1, if_neg n10, if_neg n10]
    exact ⟨trivial, trivial, cr_ref hx hB (Or.inl rfl) rfl kec2⟩
  · rw [if_neg q2, if_neg q2, if_neg q2, if_neg q2, rfb0, rfb0, if_pos p00, if_pos p00]
    obtain ⟨s1, s2, ⟨o', s3⟩, s4, s5, s6⟩ := rl_save (rl_ref hx 0)
    refine ⟨s1, s2, ?_⟩
    generalize fxh_save L = L9 at s3 s4 ⊢
    generalize fx4_saves (m0 M 0) = M4 at s3 s5 s6 ⊢
    have s3' := s3
    obtain ⟨t1, t2, t3, t4⟩ := s3
    have r1 := rc_s3 t1 (a := 1) (by decide) 0
    have u1 := rm_set t2 (i := 15) (Or.inl (by decide)) 0
    have fin := rl_upd s3' (Int.le_refl B) r1 u1 (ga_15 t3 (Or.inl rfl) (wi_15 w (Or.inl rfl)))
    repeat rw [bnd_o]
    rw [st2_0, g2_count (rc_t0 r1), cnt0 u1]
    exact cr_ok rfl rfl s6 (rl_mono fin hB)
theorem q_reset (h : KL B L M) (hB : B ≤ B') : sx3_reset L ∧ sx4_reset M ∧ CR 2 2 B' (fx3_reset L).1 (fx3_reset L).2.1 (fx3_reset L).2.2 (fx4_reset M) := by
  obtain ⟨A, H, o, n, hx⟩ := h
  have hx' := hx
  obtain ⟨h1, h2, h3, -⟩ := hx'
  have w := rie_wi h3.1
  unfold sx3_reset sx4_reset fx3_reset fx4_reset
  rw [rc_alarm h1, rm_g h2 (i := 16) (Or.inl (by decide))]
  by_cases q2 : A.1 16 = 0
  · rw [if_pos q2, if_pos q2, if_pos q2, if_pos q2, rfb1, rfb1, if_neg n10, if_neg n10]
    exact ⟨trivial, trivial, cr_ref hx hB (Or.inl rfl) rfl kec2⟩
  · rw [if_neg q2, if_neg q2, if_neg q2, if_neg q2, rfb0, rfb0, if_pos p00, if_pos p00]
    obtain ⟨s1, s2, ⟨o', s3⟩, s4, s5, s6⟩ := rl_save (rl_ref hx 0)
    refine ⟨s1, s2, ?_⟩
    generalize fxh_save L = L9 at s3 s4 ⊢
    generalize fx4_saves (m0 M 0) = M4 at s3 s5 s6 ⊢
    have s3' := s3
    obtain ⟨t1, t2, t3, t4⟩ := s3
    have r1 := rc_s3 t1 (a := 2) (by decide) 0
    have u1 := rm_set t2 (i := 16) (Or.inl (by decide)) 0
    have w' : WI (aS A 16 0) := wi_scal w rfl (by rw [aS_ne _ _ (by decide)]; exact w.1) (by rw [aS_ne _ _ (by decide)]; exact w.2.1) (fun z => absurd (aS_eq _ _ _) z)
    have fin := rl_upd s3' (Int.le_refl B) r1 u1 (ga_15 t3 (Or.inr rfl) w')
    repeat rw [bnd_o]
    rw [rc_alarm t1, rm_g t2 (i := 16) (Or.inl (by decide))]
    exact cr_ok rfl rfl s6 (rl_mono fin hB)
theorem ql3 {i : Nat} (h : i ≤ 3) : nI i = 0 ∨ nI i = 1 ∨ nI i = 2 ∨ nI i = 3 := by
  rcases (show i = 0 ∨ i = 1 ∨ i = 2 ∨ i = 3 by omega) with rfl | rfl | rfl | rfl
  · exact Or.inl rfl
  · exact Or.inr (Or.inl rfl)
  · exact Or.inr (Or.inr (Or.inl rfl))
  · exact Or.inr (Or.inr (Or.inr rfl))
theorem n20 : ¬ (2 : Int32) = 0 := by decide
theorem q_feed (h : KL B L M) (hB : B + 1 ≤ B') (hL : B' ≤ 1000000000) (x1 : Int32) : sx3_feed L x1 ∧ sx4_feed M x1 ∧ CR 1 2 B' (fx3_feed L x1).1 (fx3_feed L x1).2.1 (fx3_feed L x1).2.2 (fx4_feed M x1) := by
  obtain ⟨A, H, o, n, hx⟩ := h
  have hx' := hx
  obtain ⟨h1, h2, h3, -⟩ := hx'
  have w := rie_wi h3.1
  obtain ⟨b1, b2⟩ := m_bar h2 x1
  rcases w_split x1 (u := 3) (by decide) with q | ⟨i, hi, rfl, q1, q2⟩
  · have e : sx3_feed L x1 ∧ fx3_feed L x1 = (1, 0, L) := by
      unfold sx3_feed fx3_feed
      by_cases q1 : x1 < 0
      · rw [if_pos q1, if_pos q1]
        exact ⟨trivial, rfl⟩
      · rw [if_neg q1, if_neg (show ¬ x1 ≤ 3 from q.resolve_left q1), if_neg q1, if_neg (show ¬ x1 ≤ 3 from q.resolve_left q1)]
        exact ⟨trivial, rfl⟩
    rw [w_no (x := x1) (l := 0) (u := 3) q, if_pos p00] at b2
    rw [e.2]
    unfold sx4_feed fx4_feed
    rw [b2, bnd_o (1 : Int32), bnd_o (1 : Int32), rfb1, rfb1, if_neg n10, if_neg n10]
    exact ⟨e.1, ⟨b1, trivial⟩, cr_ref hx (by omega) (Or.inl rfl) rfl kec1⟩
  · rw [w_ok (x := nI i) (l := 0) (u := 3) q1 q2, if_neg n10] at b2
    obtain ⟨c1, c2⟩ := c_room h1
    have q2' : nI i ≤ (3 : Int32) := q2
    unfold sx3_feed fx3_feed sx4_feed fx4_feed
    rw [if_neg q1, if_pos q2', if_neg q1, if_pos q2', c2, b2]
    by_cases qr : aRoom A = true
    · rw [if_pos qr, if_pos qr, bnd_o (1 : Int32), bnd_o (1 : Int32), if_neg n10, if_neg n10, bnd_o (0 : Int32), bnd_o (0 : Int32), rfb0, rfb0, if_pos p00, if_pos p00]
      obtain ⟨s1, s2, ⟨o', s3⟩, s4, s5, s6⟩ := rl_save (rl_ref hx 0)
      rw [bnd_o (fxh_save L), bnd_o (fxh_save L), bnd_o (fx4_saves (m0 M 0)), bnd_o (fx4_saves (m0 M 0))]
      generalize fxh_save L = L9 at s1 s3 s4 ⊢
      generalize fx4_saves (m0 M 0) = M4 at s2 s3 s5 s6 ⊢
      have s3' := s3
      obtain ⟨t1, t2, t3, t4⟩ := s3
      obtain ⟨g1, g2, -⟩ := rie_enter (by omega) t3.1 qr (ql3 hi)
      have g' := ga_enter (by omega) t3 qr (ql3 hi)
      obtain ⟨d1, d2, d3⟩ := c_enter t1 g1 g2 (nI i)
      obtain ⟨f1, f2, f3⟩ := m_feeds t2 g1 (by omega) (nI i)
      have fin := rl_upd s3' (by omega) d3 f3 g'
      refine ⟨⟨c1, s1, d1⟩, ⟨b1, s2, f1⟩, ?_⟩
      repeat rw [bnd_o]
      exact cr_ok rfl (d2.trans f2.symm) s6 (rl_mono fin hB)
    · rw [if_neg qr, if_neg qr, bnd_o (0 : Int32), bnd_o (0 : Int32), if_pos p00, if_pos p00, bnd_o (2 : Int32), bnd_o (2 : Int32), rfb2, rfb2, if_neg n10, if_neg n10]
      exact ⟨⟨c1, trivial⟩, ⟨b1, trivial⟩, cr_ref hx (by omega) (Or.inr rfl) rfl kec2⟩
theorem ti_sub {a b : Int32} (h1 : -2147483648 ≤ a.toInt - b.toInt) (h2 : a.toInt - b.toInt < 2147483648) : (a - b).toInt = a.toInt - b.toInt := by
  rw [Int32.toInt_sub]
  unfold Int.bmod
  dsimp only
  split <;> omega
theorem put0_n {A : Ab} {r c k : Nat} {v : Int32} (h : k ≠ 0) : (aPutR A 0 r c v).2 k = A.2 k := aT_ne _ _ h
theorem q_slip (h : KL B L M) (hB : B ≤ B') (x1 x2 : Int32) : sx3_slip L x1 x2 ∧ sx4_slip M x1 x2 ∧ CR 3 1 B' (fx3_slip L x1 x2).1 (fx3_slip L x1 x2).2.1 (fx3_slip L x1 x2).2.2 (fx4_slip M x1 x2) := by
  obtain ⟨A, H, o, n, hx⟩ := h
  have hx' := hx
  obtain ⟨h1, h2, h3, -⟩ := hx'
  have w := rie_wi h3.1
  have c := rie_ci h3.1
  obtain ⟨a1, a2⟩ := g2_find kTab0 (rc_t0 h1) x1
  rw [kff_find] at a2
  obtain ⟨b1, b2⟩ := m_itmOf h2 (rie_d0 h3.1) x1
  unfold sx3_slip fx3_slip sx4_slip fx4_slip
  rw [a2, b2]
  cases e : kfind (A.2 0) 0 x1 with
  | none =>
    rw [show opI none = -1 from rfl, bnd_o (-1 : Int32), bnd_o (-1 : Int32), bnd_o (-1 : Int32), bnd_o (-1 : Int32), if_pos rfl, if_pos rfl, if_pos rfl, if_pos rfl, rfb1, rfb1, if_neg n10, if_neg n10]
    exact ⟨⟨a1, trivial⟩, ⟨b1, trivial⟩, cr_ref hx hB (Or.inl rfl) rfl kec3⟩
  | some k =>
    have hk := (kfind_0 e).1
    have hl := len0 h2
    have p1 : vp_in (fx4_thing (nI k) 1) 1203 := p_th (by omega) (c := 1) rfl (by decide)
    have eg : (A.2 0).getD k kz 1 = kItm A k 1 := rfl
    rw [show opI (some k) = nI k from rfl, bnd_o (nI k), bnd_o (nI k), bnd_o (nI k), bnd_o (nI k), if_neg (nI_ne (by omega)), if_neg (nI_ne (by omega)), if_neg (nI_ne (by omega)), if_neg (nI_ne (by omega)), g2_get kTab0 (rc_t0 h1) hk (x := 1) (c := 1) rfl (by decide), rc_placeg h1 (x := 4) (i := 4) rfl (by decide), eg, g_th h2 hk (x := 1) (c := 1) rfl (by decide), rm_g h2 (i := 11) (Or.inl (by decide))]
    by_cases qa : x2 < -30 ∨ ¬ x2 ≤ 30
    · rw [w_no qa, if_pos p00, if_pos p00, rfb2, rfb2, if_neg n10, if_neg n10]
      by_cases qb : x2 < -30
      · rw [if_pos qb, if_pos qb]
        exact ⟨⟨a1, trivial⟩, ⟨b1, trivial⟩, cr_ref hx hB (Or.inr rfl) rfl kec1⟩
      · rw [if_neg qb, if_neg qb, if_neg (qa.resolve_left qb), if_neg (qa.resolve_left qb)]
        exact ⟨⟨a1, trivial⟩, ⟨b1, trivial⟩, cr_ref hx hB (Or.inr rfl) rfl kec1⟩
    obtain ⟨qa1, qa2⟩ := not_or.mp qa
    have qa2 : x2 ≤ 30 := Decidable.not_not.mp qa2
    rw [w_ok qa1 qa2, if_neg n10, if_neg n10, if_neg qa1, if_pos qa2, if_neg qa1, if_pos qa2]
    have et : (A.1 11 - 1).toInt = (A.1 11).toInt - 1 := by
      have e1 : (1 : Int32).toInt = 1 := by decide
      unfold CI at c
      rw [ti_sub (by rw [e1]; omega) (by rw [e1]; omega), e1]
    generalize hp : kItm A k 1 + x2 = y
    have eb : y < A.1 11 ↔ y ≤ A.1 11 - 1 := by
      rw [i_lt, i_le, et]
      omega
    by_cases qc : y < 0 ∨ ¬ y ≤ A.1 11 - 1
    · rw [w_no qc, if_pos p00, if_pos p00, rfb2, rfb2, if_neg n10, if_neg n10]
      by_cases qd : y < 0
      · rw [if_pos qd, if_pos qd]
        exact ⟨⟨a1, trivial⟩, ⟨b1, p1, trivial⟩, cr_ref hx hB (Or.inr rfl) rfl kec1⟩
      · rw [if_neg qd, if_neg qd, if_neg (fun z => qc.resolve_left qd (eb.mp z)), if_neg (fun z => qc.resolve_left qd (eb.mp z))]
        exact ⟨⟨a1, trivial⟩, ⟨b1, p1, trivial⟩, cr_ref hx hB (Or.inr rfl) rfl kec1⟩
    obtain ⟨qc1, qc2⟩ := not_or.mp qc
    have qc2 : y ≤ A.1 11 - 1 := Decidable.not_not.mp qc2
    rw [w_ok qc1 qc2, if_neg n10, if_neg n10, rfb0, rfb0, if_pos p00, if_pos p00, if_neg qc1, if_pos (eb.mpr qc2), if_neg qc1, if_pos (eb.mpr qc2)]
    obtain ⟨s1, s2, ⟨o', s3⟩, s4, s5, s6⟩ := rl_save (rl_ref hx 0)
    rw [bnd_o (fxh_save L), bnd_o (fx4_saves (m0 M 0)), bnd_o (fx4_saves (m0 M 0))]
    generalize fxh_save L = L9 at s3 s4 ⊢
    generalize fx4_saves (m0 M 0) = M4 at s2 s3 s5 s6 ⊢
    have s3' := s3
    obtain ⟨t1, t2, t3, t4⟩ := s3
    have r1 := rc_p0 t1 (g2_put kTab0 (rc_t0 t1) hk (x := 1) (c := 1) rfl (by decide) y)
    have u1 := s_th t2 hk (x := 1) (c := 1) rfl (by decide) y
    have w' : WI (aPutR A 0 k 1 y) := (st_put0 okI_1).1 w
    have g' : GA B (aPutR A 0 k 1 y) := ⟨rie_itm t3.1 w' (fun _ _ => rfl) (sub_eq (by unfold aPutR; rw [aT_same]; exact kNm_put (by decide))) (fun k hk => put0_n (by omega)), t3.2⟩
    have fin := rl_upd s3' (Int.le_refl B) r1 u1 g'
    rw [g_th t2 hk (x := 1) (c := 1) rfl (by decide), hp]
    refine ⟨⟨a1, s1⟩, ⟨b1, p1, s2, p1, p1, p1⟩, ?_⟩
    repeat rw [bnd_o]
    refine cr_ok rfl ?_ s6 (rl_mono fin hB)
    exact (upd_same _ _ _).symm
theorem q_take (h : KL B L M) (hB : B ≤ B') (x1 : Int32) : sx3_take L x1 ∧ sx4_take M x1 ∧ CR 3 3 B' (fx3_take L x1).1 (fx3_take L x1).2.1 (fx3_take L x1).2.2 (fx4_take M x1) := by
  obtain ⟨A, H, o, n, hx⟩ := h
  have hx' := hx
  obtain ⟨h1, h2, h3, -⟩ := hx'
  have w := rie_wi h3.1
  obtain ⟨a1, a2⟩ := g2_find kTab0 (rc_t0 h1) x1
  rw [kff_find] at a2
  obtain ⟨b1, b2⟩ := m_itmOf h2 (rie_d0 h3.1) x1
  unfold sx3_take fx3_take sx4_take fx4_take
  rw [a2, b2]
  cases e : kfind (A.2 0) 0 x1 with
  | none =>
    rw [show opI none = -1 from rfl, bnd_o (-1 : Int32), bnd_o (-1 : Int32), bnd_o (-1 : Int32), bnd_o (-1 : Int32), if_pos rfl, if_pos rfl, if_pos rfl, if_pos rfl, rfb1, rfb1, if_neg n10, if_neg n10]
    exact ⟨⟨a1, trivial⟩, ⟨b1, trivial⟩, cr_ref hx hB (Or.inl rfl) rfl kec3⟩
  | some k =>
    have hk := (kfind_0 e).1
    have hl := len0 h2
    have p1 : vp_in (fx4_thing (nI k) 1) 1203 := p_th (by omega) (c := 1) rfl (by decide)
    rw [show opI (some k) = nI k from rfl, bnd_o (nI k), bnd_o (nI k), bnd_o (nI k), bnd_o (nI k), if_neg (nI_ne (by omega)), if_neg (nI_ne (by omega)), if_neg (nI_ne (by omega)), if_neg (nI_ne (by omega)), rfb0, rfb0, if_pos p00, if_pos p00]
    obtain ⟨s1, s2, ⟨o', s3⟩, s4, s5, s6⟩ := rl_save (rl_ref hx 0)
    rw [bnd_o (fxh_save L), bnd_o (fxh_save L), bnd_o (fx4_saves (m0 M 0)), bnd_o (fx4_saves (m0 M 0))]
    generalize fxh_save L = L9 at s1 s3 s4 ⊢
    generalize fx4_saves (m0 M 0) = M4 at s2 s3 s5 s6 ⊢
    have s3' := s3
    obtain ⟨t1, t2, t3, t4⟩ := s3
    obtain ⟨r0, r1⟩ := g2_rem kTab0 (rc_t0 t1) hk
    have r2 := rc_count (rc_p0 t1 r1) (x := 7) (i := 7) rfl (by decide)
    obtain ⟨u0, u1⟩ := rm_rem0 t2 hk
    obtain ⟨u2, u3⟩ := m_count u1 (x := 7) (i := 7) rfl (by decide)
    have st : Step A (aCount (aRem A 0 k) 7) := st_rem.tr (st_count (by decide))
    have g' : GA B (aCount (aRem A 0 k) 7) := ⟨rie_itm t3.1 (st.1 w) st.2 (by show List.Sublist (kNm ((aRem A 0 k).2 0)) _; rw [rem_same]; exact kNm_erase _ _) (fun k' hk' => rem_ne A k (by omega)), t3.2.1, t3.2.2⟩
    have fin := rl_upd s3' (Int.le_refl B) r2 u3 g'
    rw [g_th t2 hk (x := 1) (c := 1) rfl (by decide), g2_get kTab0 (rc_t0 t1) hk (x := 1) (c := 1) rfl (by decide)]
    refine ⟨⟨a1, s1, r0⟩, ⟨b1, s2, p1, u0, u2⟩, ?_⟩
    repeat rw [bnd_o]
    simp only [up_up, va_up_self]
    exact cr_ok rfl rfl s6 (rl_mono fin hB)
/-- ticks of both -/
theorem q_ticks {y1 : Int32} : ∀ (m i k : Nat) (B : Int) (L : Nat → St) (A : Ab) (g : Nat → Int32), y1 = nI (i + m) → i + m < 5000 → m < k → B + m ≤ 1000000000 → RC (L 0) A → RM g A → GA B A → ∃ S', sx3_run_L34 k y1 (nI i) L ∧ fx3_run_L34 k y1 (nI i) L = (0, S' 3 0, va_up L 0 S') ∧ sx4_runs_L2 k y1 (nI i) g ∧ (fx4_runs_L2 k y1 (nI i) g).1 = S' 3 0 ∧ RC S' (aRuns m A) ∧ RM (fx4_runs_L2 k y1 (nI i) g).2 (aRuns m A) ∧ GA (B + m) (aRuns m A) := by
  intro m
  induction m with
  | zero =>
    intro i k B L A g hy hi hk hB h1 h2 h3
    subst hy
    cases k with
    | zero => omega
    | succ k =>
      rw [fx3_run_L34, sx3_run_L34, fx4_runs_L2, sx4_runs_L2, if_pos (nI_le (by omega) (by omega)), if_pos (nI_le (by omega) (by omega)), if_pos (nI_le (by omega) (by omega)), if_pos (nI_le (by omega) (by omega))]
      exact ⟨L 0, trivial, by rw [up_id], trivial, (rm_g h2 (Or.inl (by decide))).trans (rc_tick h1).symm, h1, h2, ga_mono h3 (by omega)⟩
  | succ m ih =>
    intro i k B L A g hy hi hk hB h1 h2 h3
    cases k with
    | zero => omega
    | succ k =>
      have hy' := hy
      subst hy
      have w := rie_wi h3.1
      obtain ⟨ok, -⟩ := rie_tick (by omega) h3.1
      have g1 := ga_tick (by omega) h3
      obtain ⟨c1, c2⟩ := c_tick h1 w ok
      obtain ⟨d1, d2⟩ := m_tick h2 w (rie_d1 h3.1) ok
      obtain ⟨S', f1, f2, f3, f4, f5, f6, f7⟩ := ih (i + 1) k (B + 1) (va_up L 0 (fx1_passTick (L 0))) (aTick A) (fx4_tickOn g) (by rw [show i + 1 + m = i + (m + 1) by omega]) (by omega) (by omega) (by omega) (by rw [va_up_self]; exact c2) d2 g1
      rw [fx3_run_L34, sx3_run_L34, fx4_runs_L2, sx4_runs_L2, if_neg (nI_ge (by omega) (by omega)), if_neg (nI_ge (by omega) (by omega)), if_neg (nI_ge (by omega) (by omega)), if_neg (nI_ge (by omega) (by omega)), bnd_o (va_up L 0 (fx1_passTick (L 0))), bnd_o (va_up L 0 (fx1_passTick (L 0))), bnd_o (fx4_tickOn g), bnd_o (fx4_tickOn g), nI_1]
      rw [up_up] at f2
      exact ⟨S', ⟨c1, f1⟩, f2, ⟨d1, f3⟩, f4, f5, f6, ga_mono f7 (by omega)⟩
theorem q_run (h : KL B L M) (hB : B + 1000 ≤ B') (hL : B' ≤ 1000000000) (x1 : Int32) : sx3_run L x1 ∧ sx4_run M x1 ∧ CR 1 1 B' (fx3_run L x1).1 (fx3_run L x1).2.1 (fx3_run L x1).2.2 (fx4_run M x1) := by
  obtain ⟨A, H, o, n, hx⟩ := h
  have hx' := hx
  obtain ⟨h1, h2, h3, -⟩ := hx'
  rcases w_split x1 (u := 1000) (by decide) with q | ⟨i, hi, rfl, q1, q2⟩
  · have e : sx3_run L x1 ∧ fx3_run L x1 = (1, 0, L) := by
      unfold sx3_run fx3_run
      by_cases q1 : x1 < 0
      · rw [if_pos q1, if_pos q1]
        exact ⟨trivial, rfl⟩
      · rw [if_neg q1, if_neg (show ¬ x1 ≤ 1000 from q.resolve_left q1), if_neg q1, if_neg (show ¬ x1 ≤ 1000 from q.resolve_left q1)]
        exact ⟨trivial, rfl⟩
    rw [e.2]
    unfold sx4_run fx4_run
    rw [w_no (x := x1) (l := 0) (u := 1000) q, if_pos p00, if_pos p00, rfb1, rfb1, if_neg n10, if_neg n10]
    exact ⟨e.1, trivial, cr_ref hx (by omega) (Or.inl rfl) rfl kec1⟩
  · have q2' : nI i ≤ (1000 : Int32) := q2
    unfold sx3_run fx3_run sx4_run fx4_run
    rw [w_ok (x := nI i) (l := 0) (u := 1000) q1 q2, if_neg n10, if_neg n10, rfb0, rfb0, if_pos p00, if_pos p00, if_neg q1, if_pos q2', if_neg q1, if_pos q2']
    obtain ⟨s1, s2, ⟨o', s3⟩, s4, s5, s6⟩ := rl_save (rl_ref hx 0)
    rw [bnd_o (fxh_save L), bnd_o (fxh_save L), bnd_o (fx4_saves (m0 M 0)), bnd_o (fx4_saves (m0 M 0))]
    generalize fxh_save L = L9 at s1 s3 s4 ⊢
    generalize fx4_saves (m0 M 0) = M4 at s2 s3 s5 s6 ⊢
    have s3' := s3
    obtain ⟨t1, t2, t3, t4⟩ := s3
    obtain ⟨S', f1, f2, f3, f4, f5, f6, f7⟩ := q_ticks (y1 := nI i) i 0 kfu B L9 A (M4.1 0) (by rw [Nat.zero_add]) (by omega) (by unfold kfu; omega) (by omega) t1 t2 t3
    rw [show (0 : Int32) = nI 0 from rfl, f2]
    refine ⟨⟨s1, f1⟩, ⟨s2, f3⟩, ?_⟩
    unfold fx4_runs
    rw [bnd_o]
    have fin := rl_upd s3' (by omega) f5 f6 f7
    exact cr_ok rfl f4.symm s6 (rl_mono fin (by omega))
end CALLS2
