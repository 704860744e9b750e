/-! the model does what the abstract station does: the gate -/
section MOD4
variable {g : Nat → Int32} {A : Ab}
theorem kSc1 : kSc 1201 := Or.inr (Or.inl rfl)
theorem kSc2 : kSc 1202 := Or.inr (Or.inr rfl)
theorem m_leav2 {f : Nat → Int32} {B : Ab} {r how : Nat} (hB : RM f B) (hr : r < (B.2 1).length) (hh : how < 18) : sx4_counts f (nI how) ∧ sx4_drops (fx4_counts f (nI how)) 117 118 6 (nI r) ∧ RM (fx4_drops (fx4_counts f (nI how)) 117 118 6 (nI r)) (aRem (aCount B how) 1 r) := by
  obtain ⟨b1, b2⟩ := m_count hB (x := nI how) rfl hh
  obtain ⟨c1, c2⟩ := rm_rem1 b2 (r := r) hr
  exact ⟨b1, c1, c2⟩
theorem m_leav0 {g : Nat → Int32} {x1 x2 : Int32} (q : g (fx4_entry x1 0).toNatClampNeg = g 1202) : sx4_leaves g x1 x2 = (vp_in (fx4_entry x1 0) 1203 ∧ sx4_counts (upd g 1201 x2) x2 ∧ sx4_drops (fx4_counts (upd g 1201 x2) x2) 117 118 6 x1) ∧ fx4_leaves g x1 x2 = fx4_drops (fx4_counts (upd g 1201 x2) x2) 117 118 6 x1 := by
  unfold sx4_leaves fx4_leaves
  rw [if_pos q, if_pos q, bnd_q (upd g 1201 x2), bnd_q (fx4_counts (upd g 1201 x2) x2), bnd_o (upd g 1201 x2), bnd_o (fx4_counts (upd g 1201 x2) x2), bnd_o (fx4_drops (fx4_counts (upd g 1201 x2) x2) 117 118 6 x1)]
  exact ⟨rfl, rfl⟩
theorem m_leav1 {g : Nat → Int32} {x1 x2 : Int32} (q : ¬ g (fx4_entry x1 0).toNatClampNeg = g 1202) : sx4_leaves g x1 x2 = (vp_in (fx4_entry x1 0) 1203 ∧ sx4_counts g x2 ∧ sx4_drops (fx4_counts g x2) 117 118 6 x1) ∧ fx4_leaves g x1 x2 = fx4_drops (fx4_counts g x2) 117 118 6 x1 := by
  unfold sx4_leaves fx4_leaves
  rw [if_neg q, if_neg q, bnd_q (fx4_counts g x2), bnd_o (fx4_counts g x2), bnd_o (fx4_drops (fx4_counts g x2) 117 118 6 x1)]
  exact ⟨rfl, rfl⟩
theorem m_leaves (h : RM g A) {r : Nat} (hr : r < (A.2 1).length) {x : Int32} {how : Nat} (hx : x = nI how) (hh : how < 18) : sx4_leaves g (nI r) x ∧ RM (fx4_leaves g (nI r) x) (aLeave A r how) := by
  have hl := len1 h
  have p0 : vp_in (fx4_entry (nI r) 0) 1203 := p_en (by omega) (c := 0) rfl (by decide)
  subst hx
  have e0 : g (fx4_entry (nI r) 0).toNatClampNeg = kRec A r 0 := g_en h hr (x := 0) (c := 0) rfl (by decide)
  have e1 : g 1202 = A.1 1202 := rm_g h kSc2
  unfold aLeave
  by_cases q : kRec A r 0 = A.1 1202
  · obtain ⟨f1, f2⟩ := m_leav0 (g := g) (x1 := nI r) (x2 := nI how) (by rw [e0, e1]; exact q)
    obtain ⟨z1, z2, z3⟩ := m_leav2 (rm_set h kSc1 (nI how)) hr hh
    rw [f1, f2, if_pos q]
    exact ⟨⟨p0, z1, z2⟩, z3⟩
  · obtain ⟨f1, f2⟩ := m_leav1 (g := g) (x1 := nI r) (x2 := nI how) (by rw [e0, e1]; exact q)
    obtain ⟨z1, z2, z3⟩ := m_leav2 h hr hh
    rw [f1, f2, if_neg q]
    exact ⟨⟨p0, z1, z2⟩, z3⟩
def mGe (g6 : Nat → Int32) : Int32 × (Nat → Int32) := (bnd (upd g6 (1041 + (g6 1040)).toNatClampNeg ((g6 14) + (g6 3))) (fun g10 => (bnd (upd g10 1040 ((g10 1040) + 1)) (fun g11 => (bnd (upd g11 12 ((g11 12) + 1)) (fun g12 => (if (g12 12) < (g12 4) then (0, g12) else (bnd (upd g12 12 0) (fun g14 => (bnd (fx4_alarms g14 1) (fun g15 => (0, g15))))))))))))
def sGe (g6 : Nat → Int32) : Prop := (vp_in (1041 + (g6 1040)) 1203 ∧ (bnd (upd g6 (1041 + (g6 1040)).toNatClampNeg ((g6 14) + (g6 3))) (fun g10 => (bnd (upd g10 1040 ((g10 1040) + 1)) (fun g11 => (bnd (upd g11 12 ((g11 12) + 1)) (fun g12 => (if (g12 12) < (g12 4) then True else (bnd (upd g12 12 0) (fun g14 => sx4_alarms g14 1))))))))))
def mGt (g6 : Nat → Int32) : Int32 × (Nat → Int32) := (bnd (fx4_itemAt g6 (g6 10)) (fun v7 => (if v7 = (-1) then (bnd (upd g6 (1041 + (g6 1040)).toNatClampNeg ((g6 14) + (g6 3))) (fun g10 => (bnd (upd g10 1040 ((g10 1040) + 1)) (fun g11 => (bnd (upd g11 12 ((g11 12) + 1)) (fun g12 => (if (g12 12) < (g12 4) then (0, g12) else (bnd (upd g12 12 0) (fun g14 => (bnd (fx4_alarms g14 1) (fun g15 => (0, g15)))))))))))) else (bnd (fx4_drops g6 36 37 4 v7) (fun g17 => (bnd (upd g17 35 ((g17 35) + 1)) (fun g18 => (bnd (upd g18 (960 + (g18 959)).toNatClampNeg ((g18 14) + (g18 2))) (fun g20 => (bnd (upd g20 959 ((g20 959) + 1)) (fun g21 => (bnd (upd g21 (1041 + (g21 1040)).toNatClampNeg ((g21 14) + (g21 3))) (fun g23 => (bnd (upd g23 1040 ((g23 1040) + 1)) (fun g24 => (bnd (upd g24 12 ((g24 12) + 1)) (fun g25 => (if (g25 12) < (g25 4) then (0, g25) else (bnd (upd g25 12 0) (fun g27 => (bnd (fx4_alarms g27 1) (fun g28 => (0, g28)))))))))))))))))))))))
def sGt (g6 : Nat → Int32) : Prop := (sx4_itemAt g6 (g6 10) ∧ (bnd (fx4_itemAt g6 (g6 10)) (fun v7 => (if v7 = (-1) then (vp_in (1041 + (g6 1040)) 1203 ∧ (bnd (upd g6 (1041 + (g6 1040)).toNatClampNeg ((g6 14) + (g6 3))) (fun g10 => (bnd (upd g10 1040 ((g10 1040) + 1)) (fun g11 => (bnd (upd g11 12 ((g11 12) + 1)) (fun g12 => (if (g12 12) < (g12 4) then True else (bnd (upd g12 12 0) (fun g14 => sx4_alarms g14 1)))))))))) else (sx4_drops g6 36 37 4 v7 ∧ (bnd (fx4_drops g6 36 37 4 v7) (fun g17 => (bnd (upd g17 35 ((g17 35) + 1)) (fun g18 => (vp_in (960 + (g18 959)) 1203 ∧ (bnd (upd g18 (960 + (g18 959)).toNatClampNeg ((g18 14) + (g18 2))) (fun g20 => (bnd (upd g20 959 ((g20 959) + 1)) (fun g21 => (vp_in (1041 + (g21 1040)) 1203 ∧ (bnd (upd g21 (1041 + (g21 1040)).toNatClampNeg ((g21 14) + (g21 3))) (fun g23 => (bnd (upd g23 1040 ((g23 1040) + 1)) (fun g24 => (bnd (upd g24 12 ((g24 12) + 1)) (fun g25 => (if (g25 12) < (g25 4) then True else (bnd (upd g25 12 0) (fun g27 => sx4_alarms g27 1))))))))))))))))))))))))
theorem aS_comm {i j : Nat} (h : i ≠ j) (u v : Int32) : aS (aS A i u) j v = aS (aS A j v) i u := by
  unfold aS
  refine Prod.ext (funext fun k => ?_) rfl
  show upd (upd A.1 i u) j v k = upd (upd A.1 j v) i u k
  unfold upd
  by_cases q : k = j
  · rw [if_pos q, if_neg (by omega), if_pos q]
  · rw [if_neg q, if_neg q]
theorem alarm_S {k i : Nat} (v : Int32) (h : ∀ j, j < 18 → i ≠ 17 + j) (h15 : i ≠ 15) (h16 : i ≠ 16) (hk : k < 5) : aAlarm (aS A i v) k = aS (aAlarm A k) i v := by
  have hc : aCount (aS A i v) (13 + k) = aS (aCount A (13 + k)) i v := by
    unfold aCount
    rw [aS_ne _ _ (fun z => h (13 + k) (by omega) z.symm)]
    exact aS_comm (h (13 + k) (by omega)) _ _
  unfold aAlarm
  rw [aS_ne _ _ (fun z => h16 z.symm), hc]
  by_cases q : A.1 16 = 0
  · rw [if_pos q, if_pos q, aS_comm h16, aS_comm h15]
  · rw [if_neg q, if_neg q, aS_comm h15]
theorem m_ge (h : RM g A) (h4 : (A.2 4).length < 160) : sGe g ∧ (mGe g).1 = 0 ∧ RM (mGe g).2 (aLimit (aExpect A)) := by
  have i0 : (1041 : Int32) + nI (A.2 4).length = nI (1041 + (A.2 4).length) := nI_add 1041 _
  have b0 := rm_bey h (k := 4) (x := 1041 + (A.2 4).length) (by decide) (by show 1041 + 1 * _ ≤ _; omega) (by show _ < 1041 + 1 * 160; omega) (A.1 14 + A.1 3)
  have b1 := rm_push b0 (k := 4) (v := fun i => if i = 0 then A.1 14 + A.1 3 else if i = 1 then A.1 14 else 0) (by decide) h4 (fun c hc => by
    have hc' : c < 1 := hc
    rw [show c = 0 by omega]
    show upd g (1041 + (A.2 4).length) _ (1041 + 1 * (A.2 4).length + 0) = _
    rw [show 1041 + 1 * (A.2 4).length + 0 = 1041 + (A.2 4).length by omega, upd_same]
    rfl)
  unfold sGe mGe
  simp only [bnd]
  rw [cnt4 h, i0, nI_clamp (show 1041 + (A.2 4).length < 2 ^ 31 by omega), rm_g h (i := 14) (Or.inl (by decide)), rm_g h (i := 3) (Or.inl (by decide))]
  have b1' : RM (upd (upd g (1041 + (A.2 4).length) (A.1 14 + A.1 3)) 1040 (upd g (1041 + (A.2 4).length) (A.1 14 + A.1 3) 1040 + 1)) (aPush A 4 (fun i => if i = 0 then A.1 14 + A.1 3 else if i = 1 then A.1 14 else 0)) := b1
  generalize upd (upd g (1041 + (A.2 4).length) (A.1 14 + A.1 3)) 1040 (upd g (1041 + (A.2 4).length) (A.1 14 + A.1 3) 1040 + 1) = g11 at b1' ⊢
  have b2 : RM (upd g11 12 (g11 12 + 1)) (aExpect A) := by
    rw [rm_g b1' (i := 12) (Or.inl (by decide))]
    exact rm_set b1' (i := 12) (Or.inl (by decide)) _
  generalize upd g11 12 (g11 12 + 1) = g12 at b2 ⊢
  unfold aLimit
  rw [rm_g b2 (i := 12) (Or.inl (by decide)), rm_g b2 (i := 4) (Or.inl (by decide))]
  refine ⟨⟨vp_in_nI (by omega) (by omega), ?_⟩, ?_⟩
  · by_cases q : (aExpect A).1 12 < (aExpect A).1 4
    · rw [if_pos q]; trivial
    · rw [if_neg q]
      exact (m_alarm (rm_set b2 (i := 12) (Or.inl (by decide)) 0) (x := 1) (k := 1) rfl (by decide)).1
  · by_cases q : (aExpect A).1 12 < (aExpect A).1 4
    · rw [if_pos q, if_pos q]
      exact ⟨rfl, by dsimp only; exact b2⟩
    · rw [if_neg q, if_neg q]
      refine ⟨rfl, ?_⟩
      have z := (m_alarm (rm_set b2 (i := 12) (Or.inl (by decide)) 0) (x := 1) (k := 1) rfl (by decide)).2
      rw [alarm_S 0 (by omega) (by decide) (by decide) (by decide)] at z
      dsimp only
      exact z
theorem m_gt (h : RM g A) (h3 : (A.2 3).length < 80) (h4 : (A.2 4).length < 160) : sGt g ∧ (mGt g).1 = 0 ∧ RM (mGt g).2 (aLimit (aExpect (aDivert A))) := by
  obtain ⟨i1, i2⟩ := m_itemAt h (x := g 10) (i := 10) (rm_g h (Or.inl (by decide)))
  unfold sGt mGt
  rw [i2]
  cases e : aItemAt A 10 with
  | none =>
    obtain ⟨a1, a2, a3⟩ := m_ge h h4
    have ed : aDivert A = A := by
      unfold aDivert
      rw [e]
    rw [bnd_q (opI none), bnd_o (opI none), show opI none = -1 from rfl, if_pos rfl, if_pos rfl, ed]
    exact ⟨⟨i1, a1⟩, a2, a3⟩
  | some k =>
    have hk := aItemAt_lt e
    have hl := len0 h
    rw [bnd_q (opI (some k)), bnd_o (opI (some k)), show opI (some k) = nI k from rfl, if_neg (nI_ne (by omega)), if_neg (nI_ne (by omega))]
    rw [bnd_q (fx4_drops g 36 37 4 (nI k)), bnd_o (fx4_drops g 36 37 4 (nI k))]
    obtain ⟨d1, d2⟩ := rm_rem0 h hk
    have ed : aDivert A = aS (aPush (aRem A 0 k) 3 (fun i => if i = 0 then A.1 14 + A.1 2 else if i = 1 then A.1 14 else 0)) 35 (A.1 35 + 1) := by
      unfold aDivert
      rw [e]
    have e3 : (aRem A 0 k).2 3 = A.2 3 := aT_ne _ _ (by decide)
    have n4 : (aDivert A).2 4 = A.2 4 := divert_n (by decide) (by decide)
    rw [ed] at n4 ⊢
    generalize fx4_drops g 36 37 4 (nI k) = g17 at d2 ⊢
    have d3 : RM (upd g17 35 (g17 35 + 1)) (aS (aRem A 0 k) 35 (A.1 35 + 1)) := by
      rw [rm_g d2 (i := 35) (Or.inl (by decide))]
      exact rm_set d2 (i := 35) (Or.inl (by decide)) _
    rw [bnd_q (upd g17 35 (g17 35 + 1)), bnd_o (upd g17 35 (g17 35 + 1))]
    generalize upd g17 35 (g17 35 + 1) = g18 at d3 ⊢
    have e3' : (aS (aRem A 0 k) 35 (A.1 35 + 1)).2 3 = A.2 3 := e3
    have i0 : (960 : Int32) + nI (A.2 3).length = nI (960 + (A.2 3).length) := nI_add 960 _
    have c3 : g18 959 = nI (A.2 3).length := by rw [cnt3 d3, e3']
    have b0 := rm_bey d3 (k := 3) (x := 960 + (A.2 3).length) (by decide) (by rw [e3']; show 960 + 1 * _ ≤ _; omega) (by show _ < 960 + 1 * 80; omega) (A.1 14 + A.1 2)
    have b1 := rm_push b0 (k := 3) (v := fun i => if i = 0 then A.1 14 + A.1 2 else if i = 1 then A.1 14 else 0) (by decide) (by rw [e3']; exact h3) (fun c hc => by
      have hc' : c < 1 := hc
      rw [show c = 0 by omega, e3']
      show upd g18 (960 + (A.2 3).length) _ (960 + 1 * (A.2 3).length + 0) = _
      rw [show 960 + 1 * (A.2 3).length + 0 = 960 + (A.2 3).length by omega, upd_same]
      rfl)
    have e14 : g18 14 = A.1 14 := (rm_g d3 (i := 14) (Or.inl (by decide))).trans rfl
    have e2 : g18 2 = A.1 2 := (rm_g d3 (i := 2) (Or.inl (by decide))).trans rfl
    rw [c3, i0, nI_clamp (show 960 + (A.2 3).length < 2 ^ 31 by omega), e14, e2]
    have b2 : RM (upd (upd g18 (960 + (A.2 3).length) (A.1 14 + A.1 2)) 959 (upd g18 (960 + (A.2 3).length) (A.1 14 + A.1 2) 959 + 1)) (aS (aPush (aRem A 0 k) 3 (fun i => if i = 0 then A.1 14 + A.1 2 else if i = 1 then A.1 14 else 0)) 35 (A.1 35 + 1)) := b1
    rw [bnd_q (upd g18 (960 + (A.2 3).length) (A.1 14 + A.1 2)), bnd_o (upd g18 (960 + (A.2 3).length) (A.1 14 + A.1 2)), bnd_q (upd (upd g18 (960 + (A.2 3).length) (A.1 14 + A.1 2)) 959 (upd g18 (960 + (A.2 3).length) (A.1 14 + A.1 2) 959 + 1)), bnd_o (upd (upd g18 (960 + (A.2 3).length) (A.1 14 + A.1 2)) 959 (upd g18 (960 + (A.2 3).length) (A.1 14 + A.1 2) 959 + 1))]
    generalize upd (upd g18 (960 + (A.2 3).length) (A.1 14 + A.1 2)) 959 (upd g18 (960 + (A.2 3).length) (A.1 14 + A.1 2) 959 + 1) = g21 at b2 ⊢
    obtain ⟨a1, a2, a3⟩ := m_ge b2 (by rw [n4]; exact h4)
    exact ⟨⟨i1, d1, vp_in_nI (by omega) (by omega), a1⟩, a2, a3⟩
theorem m_gates (h : RM g A) (w : WI A) {r : Nat} (hr : r < (A.2 1).length) (h3 : (A.2 3).length < 80) (h4 : (A.2 4).length < 160) : sx4_gates g (nI r) ∧ (fx4_gates g (nI r)).1 = (if (aGate A r).1 = true then 1 else 0) ∧ RM (fx4_gates g (nI r)).2 (aGate A r).2 := by
  have hl := len1 h
  have p2 : vp_in (fx4_entry (nI r) 2) 1203 := p_en (by omega) (c := 2) rfl (by decide)
  have p3 : vp_in (fx4_entry (nI r) 3) 1203 := p_en (by omega) (c := 3) rfl (by decide)
  have p4 : vp_in (fx4_entry (nI r) 4) 1203 := p_en (by omega) (c := 4) rfl (by decide)
  have key : ∀ {x : Int32} {i : Nat}, x = nI i → i < 18 → aCause A r = i → sx4_counts g x ∧ sx4_leaves (fx4_counts g x) (nI r) 2 ∧ sGt (fx4_leaves (fx4_counts g x) (nI r) 2) ∧ (mGt (fx4_leaves (fx4_counts g x) (nI r) 2)).1 = 0 ∧ RM (mGt (fx4_leaves (fx4_counts g x) (nI r) 2)).2 (aReject A r) := fun {x i} hx hi e => by
    obtain ⟨b1, b2⟩ := m_count h hx hi
    obtain ⟨c1, c2⟩ := m_leaves b2 (r := r) hr (x := 2) (how := 2) rfl (by decide)
    have n3 : (aLeave (aCount A i) r 2).2 3 = A.2 3 := leave_n (by decide)
    have n4 : (aLeave (aCount A i) r 2).2 4 = A.2 4 := leave_n (by decide)
    obtain ⟨d1, d2, d3⟩ := m_gt c2 (by rw [n3]; exact h3) (by rw [n4]; exact h4)
    refine ⟨b1, c1, d1, d2, ?_⟩
    unfold aReject
    rw [e]
    exact d3
  unfold sx4_gates fx4_gates
  rw [g_en h hr (x := 3) (c := 3) rfl (by decide), g_en h hr (x := 2) (c := 2) rfl (by decide)]
  have ok := kRec_ok w r
  unfold aGate
  rcases ok.2.1 with q3 | q3
  · rw [if_neg (show ¬ kRec A r 3 = 1 by rw [q3]; decide), if_neg (show ¬ kRec A r 3 = 1 by rw [q3]; decide)]
    by_cases q1 : kRec A r 2 = 1
    · rw [if_pos q1, if_pos q1, if_pos (⟨q1, q3⟩ : _ ∧ _)]
      refine ⟨⟨p2, p3, p4⟩, rfl, ?_⟩
      have z := rm_set (s_en h hr (x := 4) (c := 4) rfl (by decide) 1) (i := 12) (Or.inl (by decide)) 0
      dsimp only
      exact z
    · rw [if_neg q1, if_neg q1, if_neg (fun z : _ ∧ _ => q1 z.1)]
      by_cases q2 : kRec A r 2 = 2
      · rw [if_pos q2, if_pos q2]
        obtain ⟨a1, a2, a3, a4, a5⟩ := key (x := 11) (i := 11) rfl (by decide) (by unfold aCause; rw [if_neg (show ¬ kRec A r 3 = 1 by rw [q3]; decide), if_pos q2])
        rw [bnd_q (fx4_counts g 11), bnd_o (fx4_counts g 11), bnd_q (fx4_leaves (fx4_counts g 11) (nI r) 2), bnd_o (fx4_leaves (fx4_counts g 11) (nI r) 2)]
        exact ⟨⟨p2, p3, a1, a2, a3⟩, a4, a5⟩
      · rw [if_neg q2, if_neg q2]
        by_cases q4 : kRec A r 2 = 3
        · rw [if_pos q4, if_pos q4]
          obtain ⟨a1, a2, a3, a4, a5⟩ := key (x := 12) (i := 12) rfl (by decide) (by unfold aCause; rw [if_neg (show ¬ kRec A r 3 = 1 by rw [q3]; decide), if_neg q2, if_pos q4])
          rw [bnd_q (fx4_counts g 12), bnd_o (fx4_counts g 12), bnd_q (fx4_leaves (fx4_counts g 12) (nI r) 2), bnd_o (fx4_leaves (fx4_counts g 12) (nI r) 2)]
          exact ⟨⟨p2, p3, a1, a2, a3⟩, a4, a5⟩
        · rw [if_neg q4, if_neg q4]
          obtain ⟨a1, a2, a3, a4, a5⟩ := key (x := 13) (i := 13) rfl (by decide) (by unfold aCause; rw [if_neg (show ¬ kRec A r 3 = 1 by rw [q3]; decide), if_neg q2, if_neg q4])
          rw [bnd_q (fx4_counts g 13), bnd_o (fx4_counts g 13), bnd_q (fx4_leaves (fx4_counts g 13) (nI r) 2), bnd_o (fx4_leaves (fx4_counts g 13) (nI r) 2)]
          exact ⟨⟨p2, p3, a1, a2, a3⟩, a4, a5⟩
  · have q30 : ¬ kRec A r 3 = 0 := by rw [q3]; decide
    obtain ⟨a1, a2, a3, a4, a5⟩ := key (x := 10) (i := 10) rfl (by decide) (by unfold aCause; rw [if_pos q3])
    rw [if_pos q3, if_pos q3, if_neg (fun z : _ ∧ _ => q30 z.2)]
    by_cases q1 : kRec A r 2 = 1
    · rw [if_pos q1, if_pos q1]
      rw [bnd_q (fx4_counts g 10), bnd_o (fx4_counts g 10), bnd_q (fx4_leaves (fx4_counts g 10) (nI r) 2), bnd_o (fx4_leaves (fx4_counts g 10) (nI r) 2)]
      exact ⟨⟨p2, p3, a1, a2, a3⟩, a4, a5⟩
    · rw [if_neg q1, if_neg q1]
      rw [bnd_q (fx4_counts g 10), bnd_o (fx4_counts g 10), bnd_q (fx4_leaves (fx4_counts g 10) (nI r) 2), bnd_o (fx4_leaves (fx4_counts g 10) (nI r) 2)]
      exact ⟨⟨p2, p3, a1, a2, a3⟩, a4, a5⟩
end MOD4
