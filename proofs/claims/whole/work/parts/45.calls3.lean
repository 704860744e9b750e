/-! calls: status, item, record, numberAt, counter, reconcile, goodShare, spare, fastest -/
section CALLS3
variable {B B' : Int} {L : Nat → St} {M : Md}
theorem i8 {i : Nat} (h : i ≤ 7) : i = 0 ∨ i = 1 ∨ i = 2 ∨ i = 3 ∨ i = 4 ∨ i = 5 ∨ i = 6 ∨ i = 7 := by omega
theorem st_eq {S : St} {g : Nat → Int32} {A : Ab} (h1 : RC S A) (h2 : RM g A) (w : WI A) {i : Nat} (hi : i ≤ 7) : fx1_statusOf S (nI i) = fx4_tellStatus g (nI i) := by
  rcases i8 hi with rfl | rfl | rfl | rfl | rfl | rfl | rfl | rfl
  · show S 3 0 = g 14
    rw [rc_tick h1, rm_g h2 (Or.inl (by decide))]
  · show (if S 3 1 = 0 then (0 : Int32) else 1) = g 15
    rw [rc_run h1, rm_g h2 (Or.inl (by decide))]
    rcases w.2.1 with q | q <;> rw [q] <;> rfl
  · show S 3 2 = g 16
    rw [rc_alarm h1, rm_g h2 (Or.inl (by decide))]
  · exact (g2_count (w := 4) (rm := 20) (n := 80) (rc_t0 h1)).trans (cnt0 h2).symm
  · exact (g2_count (w := 6) (rm := 35) (n := 210) (rc_t1 h1)).trans (cnt1 h2).symm
  · exact (g2_count (w := 4) (rm := 200) (n := 800) (rc_t2 h1)).trans (cnt2 h2).symm
  · exact (g2_count (w := 1) (rm := 101) (n := 101) (rc_t4 h1)).trans (cnt4 h2).symm
  · exact (g2_count (w := 1) (rm := 50) (n := 50) (rc_t3 h1)).trans (cnt3 h2).symm
theorem q_status (h : KL B L M) (hB : B ≤ B') (x1 : Int32) : CR 1 1 B' (fx3_status L x1).1 (fx3_status L x1).2 L (fx4_status M x1) := by
  obtain ⟨A, H, o, n, hx⟩ := h
  have hx' := hx
  obtain ⟨h1, h2, h3, -⟩ := hx'
  rcases w_split x1 (u := 7) (by decide) with q | ⟨i, hi, rfl, q1, q2⟩
  · have e : fx3_status L x1 = (1, 0) := by
      unfold fx3_status
      by_cases q1 : x1 < 0
      · rw [if_pos q1]
      · rw [if_neg q1, if_neg (show ¬ x1 ≤ 7 from q.resolve_left q1)]
    unfold fx4_status
    rw [e, w_no (x := x1) (l := 0) (u := 7) q, if_pos p00, rfb1, if_neg n10]
    exact cr_ref hx hB (Or.inl rfl) rfl kec1
  · unfold fx4_status fx3_status
    rw [w_ok (x := nI i) (l := 0) (u := 7) q1 q2, if_neg q1, if_pos (show nI i ≤ (7 : Int32) from q2), if_neg n10, rfb0, if_pos p00, bnd_o, bnd_o]
    exact cr_ok rfl (st_eq h1 h2 (rie_wi h3.1) hi) rfl (rl_mono (rl_ref hx 0) hB)
theorem q_item (h : KL B L M) (hB : B ≤ B') (x1 x2 : Int32) : sx3_item L x1 x2 ∧ sx4_item M x1 x2 ∧ CR 3 1 B' (fx3_item L x1 x2).1 (fx3_item L x1 x2).2 L (fx4_item M x1 x2) := by
  obtain ⟨A, H, o, n, hx⟩ := h
  have hx' := hx
  obtain ⟨h1, h2, h3, -⟩ := hx'
  obtain ⟨a1, a2⟩ := g2_find kTab0 (rc_t0 h1) x1
  rw [kff_find] at a2
  obtain ⟨b1, b2⟩ := m_itmOf h2 (rie_d0 h3.1) x1
  unfold sx3_item fx3_item sx4_item fx4_item
  rw [a2, b2]
  cases e : kfind (A.2 0) 0 x1 with
  | none =>
    rw [show opI none = -1 from rfl, bnd_o (-1 : Int32), bnd_o (-1 : Int32), bnd_o (-1 : Int32), if_pos rfl, if_pos rfl, if_pos rfl, rfb1, rfb1, if_neg n10, if_neg n10]
    exact ⟨a1, ⟨b1, trivial⟩, cr_ref hx hB (Or.inl rfl) rfl kec3⟩
  | some k =>
    have hk := (kfind_0 e).1
    have hl := len0 h2
    rw [show opI (some k) = nI k from rfl, bnd_o (nI k), bnd_o (nI k), bnd_o (nI k), if_neg (nI_ne (by omega)), if_neg (nI_ne (by omega)), if_neg (nI_ne (by omega))]
    rcases w_split x2 (u := 2) (by decide) with q | ⟨i, hi, rfl, q1, q2⟩
    · rw [w_no (x := x2) (l := 0) (u := 2) q, if_pos p00, if_pos p00, rfb2, rfb2, if_neg n10, if_neg n10]
      by_cases q1 : x2 < 0
      · rw [if_pos q1]
        exact ⟨a1, ⟨b1, trivial⟩, cr_ref hx hB (Or.inr rfl) rfl kec1⟩
      · rw [if_neg q1, if_neg (show ¬ x2 ≤ 2 from q.resolve_left q1)]
        exact ⟨a1, ⟨b1, trivial⟩, cr_ref hx hB (Or.inr rfl) rfl kec1⟩
    · have ei : (1 : Int32) + nI i = nI (1 + i) := nI_add 1 i
      rw [w_ok (x := nI i) (l := 0) (u := 2) q1 q2, if_neg n10, if_neg n10, rfb0, rfb0, if_pos p00, if_pos p00, if_neg q1, if_pos (show nI i ≤ (2 : Int32) from q2), ei, g2_get kTab0 (rc_t0 h1) hk (x := nI (1 + i)) (c := 1 + i) rfl (by omega)]
      refine ⟨a1, ⟨b1, p_th (by omega) (c := 1 + i) rfl (by omega)⟩, cr_ok rfl ?_ rfl (rl_mono (rl_ref hx 0) hB)⟩
      exact (g_th h2 hk (x := nI (1 + i)) (c := 1 + i) rfl (by omega)).symm
theorem q_record (h : KL B L M) (hB : B ≤ B') (x1 x2 : Int32) : sx3_record L x1 x2 ∧ sx4_record M x1 x2 ∧ CR 3 1 B' (fx3_record L x1 x2).1 (fx3_record L x1 x2).2 L (fx4_record M x1 x2) := by
  obtain ⟨A, H, o, n, hx⟩ := h
  have hx' := hx
  obtain ⟨h1, h2, h3, -⟩ := hx'
  obtain ⟨a1, a2⟩ := g2_find kTab1 (rc_t1 h1) x1
  rw [kff_find] at a2
  obtain ⟨b1, b2⟩ := m_recOf h2 (rie_d1 h3.1) x1
  unfold sx3_record fx3_record sx4_record fx4_record
  rw [a2, b2]
  cases e : kfind (A.2 1) 0 x1 with
  | none =>
    rw [show opI none = -1 from rfl, bnd_o (-1 : Int32), bnd_o (-1 : Int32), bnd_o (-1 : Int32), if_pos rfl, if_pos rfl, if_pos rfl, rfb1, rfb1, if_neg n10, if_neg n10]
    exact ⟨a1, ⟨b1, trivial⟩, cr_ref hx hB (Or.inl rfl) rfl kec3⟩
  | some k =>
    have hk := (kfind_0 e).1
    have hl := len1 h2
    rw [show opI (some k) = nI k from rfl, bnd_o (nI k), bnd_o (nI k), bnd_o (nI k), if_neg (nI_ne (by omega)), if_neg (nI_ne (by omega)), if_neg (nI_ne (by omega))]
    rcases w_split x2 (u := 4) (by decide) with q | ⟨i, hi, rfl, q1, q2⟩
    · rw [w_no (x := x2) (l := 0) (u := 4) q, if_pos p00, if_pos p00, rfb2, rfb2, if_neg n10, if_neg n10]
      by_cases q1 : x2 < 0
      · rw [if_pos q1]
        exact ⟨a1, ⟨b1, trivial⟩, cr_ref hx hB (Or.inr rfl) rfl kec1⟩
      · rw [if_neg q1, if_neg (show ¬ x2 ≤ 4 from q.resolve_left q1)]
        exact ⟨a1, ⟨b1, trivial⟩, cr_ref hx hB (Or.inr rfl) rfl kec1⟩
    · have ei : (1 : Int32) + nI i = nI (1 + i) := nI_add 1 i
      rw [w_ok (x := nI i) (l := 0) (u := 4) q1 q2, if_neg n10, if_neg n10, rfb0, rfb0, if_pos p00, if_pos p00, if_neg q1, if_pos (show nI i ≤ (4 : Int32) from q2), ei, g2_get kTab1 (rc_t1 h1) hk (x := nI (1 + i)) (c := 1 + i) rfl (by omega)]
      refine ⟨a1, ⟨b1, p_en (by omega) (c := 1 + i) rfl (by omega)⟩, cr_ok rfl ?_ rfl (rl_mono (rl_ref hx 0) hB)⟩
      exact (g_en h2 hk (x := nI (1 + i)) (c := 1 + i) rfl (by omega)).symm
theorem w_cnt {x1 : Int32} {n : Nat} (hn : n < 1000) : (x1 < 0 ∨ ¬ x1 ≤ nI n - 1) ∧ (x1 < 0 ∨ ¬ x1 < nI n) ∨ ∃ i, i < n ∧ x1 = nI i ∧ ¬ x1 < 0 ∧ x1 ≤ nI n - 1 ∧ x1 < nI n := by
  have e1 : (1 : Int32).toInt = 1 := by decide
  have en := nI_toInt (n := n) (by omega)
  have em : (nI n - 1).toInt = n - 1 := by rw [ti_sub (by rw [en, e1]; omega) (by rw [en, e1]; omega), en, e1]
  rcases pk_ix x1 (n := n) (by omega) with q | q | ⟨i, hi, rfl⟩
  · exact Or.inl ⟨Or.inl q, Or.inl q⟩
  · refine Or.inl ⟨Or.inr ?_, Or.inr ?_⟩
    · rw [i_nle, em]
      rw [i_le, en] at q
      omega
    · rw [i_nlt]
      exact i_le.mp q
  · refine Or.inr ⟨i, hi, rfl, nI_pos (by omega), ?_, nI_lt hi (by omega)⟩
    rw [i_le, em, nI_toInt (by omega)]
    omega
theorem q_numberAt (h : KL B L M) (hB : B ≤ B') (x1 x2 : Int32) : sx4_numberAt M x1 x2 ∧ CR 4 4 B' (fx3_numberAt L x1 x2).1 (fx3_numberAt L x1 x2).2 L (fx4_numberAt M x1 x2) := by
  obtain ⟨A, H, o, n, hx⟩ := h
  have hx' := hx
  obtain ⟨h1, h2, h3, -⟩ := hx'
  have l0 := len0 h2
  have l1 := len1 h2
  unfold sx4_numberAt fx3_numberAt fx4_numberAt
  rw [g2_count (rc_t0 h1), g2_count (rc_t1 h1), cnt0 h2, cnt1 h2]
  by_cases qb : x2 = 0
  · rw [if_pos qb, if_pos qb, if_pos qb]
    rcases w_cnt (x1 := x1) (n := (A.2 0).length) (by omega) with ⟨q, q'⟩ | ⟨i, hi, rfl, q1, q2, q3⟩
    · rw [w_no q, if_pos p00, if_pos p00, rfb1, rfb1, if_neg n10, if_neg n10]
      by_cases q1 : x1 < 0
      · rw [if_pos q1]
        exact ⟨trivial, cr_ref hx hB (Or.inl rfl) rfl kec4⟩
      · rw [if_neg q1, if_neg (q'.resolve_left q1)]
        exact ⟨trivial, cr_ref hx hB (Or.inl rfl) rfl kec4⟩
    · rw [w_ok q1 q2, if_neg n10, if_neg n10, rfb0, rfb0, if_pos p00, if_pos p00, if_neg q1, if_pos q3, g2_get kTab0 (rc_t0 h1) hi (x := 0) (c := 0) rfl (by decide)]
      exact ⟨p_th (by omega) (c := 0) rfl (by decide), cr_ok rfl (g_th h2 hi (x := 0) (c := 0) rfl (by decide)).symm rfl (rl_mono (rl_ref hx 0) hB)⟩
  · rw [if_neg qb, if_neg qb, if_neg qb]
    rcases w_cnt (x1 := x1) (n := (A.2 1).length) (by omega) with ⟨q, q'⟩ | ⟨i, hi, rfl, q1, q2, q3⟩
    · rw [w_no q, if_pos p00, if_pos p00, rfb1, rfb1, if_neg n10, if_neg n10]
      by_cases q1 : x1 < 0
      · rw [if_pos q1]
        exact ⟨trivial, cr_ref hx hB (Or.inl rfl) rfl kec4⟩
      · rw [if_neg q1, if_neg (q'.resolve_left q1)]
        exact ⟨trivial, cr_ref hx hB (Or.inl rfl) rfl kec4⟩
    · rw [w_ok q1 q2, if_neg n10, if_neg n10, rfb0, rfb0, if_pos p00, if_pos p00, if_neg q1, if_pos q3, g2_get kTab1 (rc_t1 h1) hi (x := 0) (c := 0) rfl (by decide)]
      exact ⟨p_en (by omega) (c := 0) rfl (by decide), cr_ok rfl (g_en h2 hi (x := 0) (c := 0) rfl (by decide)).symm rfl (rl_mono (rl_ref hx 0) hB)⟩
theorem q_counter (h : KL B L M) (hB : B ≤ B') (x1 : Int32) : sx4_counter M x1 ∧ CR 1 1 B' (fx3_counter L x1).1 (fx3_counter L x1).2 L (fx4_counter M x1) := by
  obtain ⟨A, H, o, n, hx⟩ := h
  have hx' := hx
  obtain ⟨h1, h2, h3, -⟩ := hx'
  rcases w_split x1 (u := 17) (by decide) with q | ⟨i, hi, rfl, q1, q2⟩
  · have e : fx3_counter L x1 = (1, 0) := by
      unfold fx3_counter
      by_cases q1 : x1 < 0
      · rw [if_pos q1]
      · rw [if_neg q1, if_neg (show ¬ x1 ≤ 17 from q.resolve_left q1)]
    unfold sx4_counter fx4_counter
    rw [e, w_no (x := x1) (l := 0) (u := 17) q, if_pos p00, if_pos p00, rfb1, rfb1, if_neg n10, if_neg n10]
    exact ⟨trivial, cr_ref hx hB (Or.inl rfl) rfl kec1⟩
  · have ei : (17 : Int32) + nI i = nI (17 + i) := nI_add 17 i
    unfold sx4_counter fx4_counter fx3_counter
    rw [w_ok (x := nI i) (l := 0) (u := 17) q1 q2, if_neg q1, if_pos (show nI i ≤ (17 : Int32) from q2), if_neg n10, if_neg n10, rfb0, rfb0, if_pos p00, if_pos p00, ei, rc_counted h1 (x := nI i) rfl (by omega), nI_clamp (show 17 + i < 2 ^ 31 by omega)]
    exact ⟨vp_in_nI (by omega) (by decide), cr_ok rfl (rm_g h2 (Or.inl (by omega))).symm rfl (rl_mono (rl_ref hx 0) hB)⟩
theorem q_reconcile (h : KL B L M) (hB : B ≤ B') (x1 : Int32) : fx3_reconcile L x1 = (fx4_reconcile M x1).1 ∧ KL B' L (fx4_reconcile M x1).2 := by
  obtain ⟨A, H, o, n, hx⟩ := h
  have hx' := hx
  obtain ⟨h1, h2, h3, -⟩ := hx'
  have z := rl_mono (rl_ref hx 0) hB
  unfold fx3_reconcile fx4_reconcile fx3_recordsThatLeft
  rw [rc_counted h1 (x := 0) (i := 0) rfl (by decide), rc_counted h1 (x := 1) (i := 1) rfl (by decide), rc_counted h1 (x := 2) (i := 2) rfl (by decide), rc_counted h1 (x := 3) (i := 3) rfl (by decide), rc_counted h1 (x := 7) (i := 7) rfl (by decide), rc_counted h1 (x := 8) (i := 8) rfl (by decide), rc_div h1, g2_count (rc_t0 h1), g2_count (rc_t1 h1), cnt0 h2, cnt1 h2, rm_g h2 (i := 17) (Or.inl (by decide)), rm_g h2 (i := 18) (Or.inl (by decide)), rm_g h2 (i := 19) (Or.inl (by decide)), rm_g h2 (i := 20) (Or.inl (by decide)), rm_g h2 (i := 24) (Or.inl (by decide)), rm_g h2 (i := 25) (Or.inl (by decide)), rm_g h2 (i := 35) (Or.inl (by decide)), bnd_o]
  have ar : ∀ a b c d : Int32, a - (b + c + d) = a - b - c - d := fun a b c d => by
    simp only [Int32.sub_eq_add_neg, Int32.neg_add, Int32.add_assoc]
  by_cases q : x1 = 0
  · rw [if_pos q, if_pos q]
    refine ⟨?_, A, H, o, n, z⟩
    show A.1 17 - (A.1 18 + A.1 19 + A.1 20) - _ = A.1 17 - A.1 18 - A.1 19 - A.1 20 - _
    rw [ar]
  · rw [if_neg q, if_neg q]
    refine ⟨?_, A, H, o, n, z⟩
    show A.1 17 - (A.1 25 + A.1 35 + A.1 24) - _ = A.1 17 - A.1 25 - A.1 35 - A.1 24 - _
    rw [ar]
theorem q_goodShare (h : KL B L M) (hB : B ≤ B') : sx3_goodShare L ∧ sx4_goodShare M ∧ fx3_goodShare L = (fx4_goodShare M).1 ∧ vf_n64 (fx3_goodShare L) ∧ KL B' L (fx4_goodShare M).2 := by
  obtain ⟨A, H, o, n, hx⟩ := h
  have hx' := hx
  obtain ⟨h1, h2, h3, -⟩ := hx'
  have z := rl_mono (rl_ref hx 0) hB
  unfold sx3_goodShare sx4_goodShare fx3_goodShare fx4_goodShare fx3_recordsThatLeft
  rw [rc_counted h1 (x := 1) (i := 1) rfl (by decide), rc_counted h1 (x := 2) (i := 2) rfl (by decide), rc_counted h1 (x := 3) (i := 3) rfl (by decide), rm_g h2 (i := 18) (Or.inl (by decide)), rm_g h2 (i := 19) (Or.inl (by decide)), rm_g h2 (i := 20) (Or.inl (by decide)), bnd_o, bnd_o]
  by_cases q : A.1 18 + A.1 19 + A.1 20 = 0
  · rw [if_pos q, if_pos q, if_pos q]
    exact ⟨trivial, trivial, rfl, by unfold vf_n64; decide, A, H, o, n, z⟩
  · rw [if_neg q, if_neg q, if_neg q]
    have f := fp_div (A.1 18) _ q
    exact ⟨f, f, rfl, f, A, H, o, n, z⟩
theorem sp_eq {A : Ab} (h1 : RC (L 0) A) (h2 : RM (M.1 0) A) (x : Int32) : fx3_sparePulses L x = fx4_spareOf (M.1 0) x := by
  unfold fx3_sparePulses fx4_spareOf
  rw [rc_placeg h1 (x := 3) (i := 3) rfl (by decide), rc_placeg h1 (x := 1) (i := 1) rfl (by decide), rc_setg h1 (x := 1) (i := 1) rfl (by decide), rm_g h2 (i := 10) (Or.inl (by decide)), rm_g h2 (i := 8) (Or.inl (by decide)), rm_g h2 (i := 1) (Or.inl (by decide)), Int32.mul_comm]
theorem q_spare (h : KL B L M) (hB : B ≤ B') (x1 : Int32) : CR 1 1 B' (fx3_spare L x1).1 (fx3_spare L x1).2 L (fx4_spare M x1) := by
  obtain ⟨A, H, o, n, hx⟩ := h
  have hx' := hx
  obtain ⟨h1, h2, h3, -⟩ := hx'
  have k1 : fx3_least 0 = 1 := by decide
  have k2 : fx3_most 0 = 10 := by decide
  unfold fx3_spare fx4_spare
  rw [k1, k2]
  by_cases q : x1 < 1 ∨ ¬ x1 ≤ 10
  · rw [w_no q, if_pos p00, rfb1, if_neg n10]
    by_cases q1 : x1 < 1
    · rw [if_pos q1]
      exact cr_ref hx hB (Or.inl rfl) rfl kec1
    · rw [if_neg q1, if_neg (q.resolve_left q1)]
      exact cr_ref hx hB (Or.inl rfl) rfl kec1
  · obtain ⟨q1, q2⟩ := not_or.mp q
    have q2 : x1 ≤ 10 := Decidable.not_not.mp q2
    rw [w_ok q1 q2, if_neg n10, rfb0, if_pos p00, if_neg q1, if_pos q2, bnd_o, bnd_o]
    exact cr_ok rfl (sp_eq h1 h2 x1) rfl (rl_mono (rl_ref hx 0) hB)
/-- the highest speed up to m with something to spare -/
def kBest (f : Int32 → Int32) : Nat → Int32
  | 0 => -1
  | m + 1 => if f (nI (m + 1)) ≤ 0 then kBest f m else nI (m + 1)
theorem fs3 : ∀ (m k : Nat), m ≤ 10 → m < k → sx3_fastest_L5 L k (nI m) ∧ fx3_fastest_L5 L k (nI m) = (0, kBest (fx3_sparePulses L) m) := by
  have k1 : fx3_least 0 = 1 := by decide
  intro m
  induction m with
  | zero =>
    intro k hm hk
    cases k with
    | zero => omega
    | succ k =>
      rw [fx3_fastest_L5, sx3_fastest_L5, k1, if_pos (show nI 0 < (1 : Int32) by decide), if_pos (show nI 0 < (1 : Int32) by decide)]
      exact ⟨trivial, rfl⟩
  | succ m ih =>
    intro k hm hk
    cases k with
    | zero => omega
    | succ k =>
      have q : ¬ nI (m + 1) < (1 : Int32) := nI_nlt (b := 1) (by omega) (by omega)
      obtain ⟨a1, a2⟩ := ih k (by omega) (by omega)
      rw [fx3_fastest_L5, sx3_fastest_L5, k1, if_neg q, if_neg q, bnd_o, bnd_o, nI_m1, kBest]
      by_cases q2 : fx3_sparePulses L (nI (m + 1)) ≤ 0
      · rw [if_pos q2, if_pos q2, if_pos q2]
        exact ⟨a1, a2⟩
      · rw [if_neg q2, if_neg q2, if_neg q2]
        exact ⟨trivial, rfl⟩
theorem fs4 : ∀ (d m k : Nat), m + d = 10 → d < k → sx4_fastest_L9 k (kBest (fx4_spareOf (M.1 0)) m) (nI (m + 1)) M ∧ fx4_fastest_L9 k (kBest (fx4_spareOf (M.1 0)) m) (nI (m + 1)) M = (kBest (fx4_spareOf (M.1 0)) 10, M) := by
  intro d
  induction d with
  | zero =>
    intro m k hm hk
    cases k with
    | zero => omega
    | succ k =>
      have q : (10 : Int32) < nI (m + 1) := nI_lt (a := 10) (by omega) (by omega)
      rw [fx4_fastest_L9, sx4_fastest_L9, if_pos q, if_pos q, show m = 10 by omega]
      exact ⟨trivial, rfl⟩
  | succ d ih =>
    intro m k hm hk
    cases k with
    | zero => omega
    | succ k =>
      have q : ¬ (10 : Int32) < nI (m + 1) := nI_nlt (a := 10) (by omega) (by omega)
      obtain ⟨a1, a2⟩ := ih (m + 1) k (by omega) (by omega)
      rw [fx4_fastest_L9, sx4_fastest_L9, if_neg q, if_neg q, bnd_o, bnd_o, nI_1]
      by_cases q2 : fx4_spareOf (M.1 0) (nI (m + 1)) ≤ 0
      · have e : kBest (fx4_spareOf (M.1 0)) (m + 1) = kBest (fx4_spareOf (M.1 0)) m := if_pos q2
        rw [e] at a1 a2
        rw [if_pos q2, if_pos q2]
        exact ⟨a1, a2⟩
      · have e : kBest (fx4_spareOf (M.1 0)) (m + 1) = nI (m + 1) := if_neg q2
        rw [e] at a1 a2
        rw [if_neg q2, if_neg q2]
        exact ⟨a1, a2⟩
theorem q_fastest (h : KL B L M) (hB : B ≤ B') : sx3_fastest L ∧ sx4_fastest M ∧ (fx3_fastest L).1 = 0 ∧ (fx3_fastest L).2 = (fx4_fastest M).1 ∧ KL B' L (fx4_fastest M).2 := by
  obtain ⟨A, H, o, n, hx⟩ := h
  have hx' := hx
  obtain ⟨h1, h2, h3, -⟩ := hx'
  have z := rl_mono (rl_ref hx 0) hB
  obtain ⟨a1, a2⟩ := fs3 (L := L) 10 kfu (Nat.le_refl _) (by unfold kfu; omega)
  obtain ⟨b1, b2⟩ := fs4 (M := m0 M 0) 10 0 kfu rfl (by unfold kfu; omega)
  have e : ∀ m, kBest (fx3_sparePulses L) m = kBest (fx4_spareOf ((m0 M 0).1 0)) m := by
    intro m
    induction m with
    | zero => rfl
    | succ m ih =>
      rw [kBest, kBest, ih, sp_eq h1 (M := m0 M 0) h2]
  unfold sx3_fastest fx3_fastest sx4_fastest fx4_fastest
  have k2 : fx3_most 0 = nI 10 := by decide
  have em : (sset M.1 4 1 0, M.2) = m0 M 0 := rfl
  have e1 : (1 : Int32) = nI (0 + 1) := rfl
  have e2 : (-1 : Int32) = kBest (fx4_spareOf ((m0 M 0).1 0)) 0 := rfl
  rw [k2, em, a2, e2, e1, b2]
  exact ⟨a1, b1, rfl, e 10, A, H, o, n, z⟩
end CALLS3
