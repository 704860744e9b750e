/-! the model does what the abstract station does: what acts on a record -/
section MOD3
variable {g : Nat → Int32} {A : Ab}
theorem bnd_o {α β : Type} (a : α) (f : α → β) : bnd a f = f a := rfl
theorem bnd_q {α : Type} (a : α) (f : α → Prop) : bnd a f = f a := rfl
theorem kabs_p {x : Int32} (h : 0 ≤ x) : kabs x = x := if_pos h
theorem kabs_n {x : Int32} (h : ¬ 0 ≤ x) : kabs x = -x := by
  unfold kabs
  rw [if_neg h, Int32.zero_sub]
theorem m_itemAt_L (h : RM g A) (w : Int32) : ∀ (l2 : List kRow) (i k : Nat) (b : Int32) (a : Option Nat), (A.2 0).drop i = l2 → i ≤ (A.2 0).length → l2.length < k → sx4_itemAt_L14 g k w (opI a) b (nI i) ∧ fx4_itemAt_L14 g k w (opI a) b (nI i) = opI (knr pAny w l2 i b a) := by
  have hl := len0 h
  intro l2
  induction l2 with
  | nil =>
    intro i k b a e hi hk
    have := kdropn e
    cases k with
    | zero => omega
    | succ k =>
      simp only [fx4_itemAt_L14, sx4_itemAt_L14, knr]
      rw [cnt0 h, if_pos (nI_le (by omega) (by omega)), if_pos (nI_le (by omega) (by omega))]
      exact ⟨trivial, rfl⟩
  | cons r t ih =>
    intro i k b a e hi hk
    obtain ⟨h1, h2, h3⟩ := kdrop e
    cases k with
    | zero => omega
    | succ k =>
      simp only [List.length_cons] at hk
      simp only [fx4_itemAt_L14, sx4_itemAt_L14, knr]
      rw [cnt0 h, if_neg (nI_ge (by omega) (by omega)), if_neg (nI_ge (by omega) (by omega)), g_th h h1 (x := 1) (c := 1) rfl (by decide), nI_1, if_pos (show pAny r = true from rfl)]
      have ev : kItm A i 1 = r 1 := by unfold kItm; rw [h2]
      have p1 : vp_in (fx4_thing (nI i) 1) 1203 := p_th (by omega) (c := 1) rfl (by decide)
      rw [ev]
      by_cases q0 : 0 ≤ r 1 - w
      · rw [if_pos q0, if_pos q0, kabs_p q0]
        by_cases q : b ≤ r 1 - w
        · rw [if_pos q, if_pos q, if_pos q]
          obtain ⟨a1, a2⟩ := ih (i + 1) k b a h3 (by omega) (by omega)
          exact ⟨⟨p1, a1⟩, a2⟩
        · rw [if_neg q, if_neg q, if_neg q]
          obtain ⟨a1, a2⟩ := ih (i + 1) k (r 1 - w) (some i) h3 (by omega) (by omega)
          exact ⟨⟨p1, a1⟩, a2⟩
      · rw [if_neg q0, if_neg q0, kabs_n q0]
        by_cases q : b ≤ -(r 1 - w)
        · rw [if_pos q, if_pos q, if_pos q]
          obtain ⟨a1, a2⟩ := ih (i + 1) k b a h3 (by omega) (by omega)
          exact ⟨⟨p1, a1⟩, a2⟩
        · rw [if_neg q, if_neg q, if_neg q]
          obtain ⟨a1, a2⟩ := ih (i + 1) k (-(r 1 - w)) (some i) h3 (by omega) (by omega)
          exact ⟨⟨p1, a1⟩, a2⟩
theorem m_itemAt (h : RM g A) {x : Int32} {i : Nat} (hx : x = A.1 i) : sx4_itemAt g x ∧ fx4_itemAt g x = opI (aItemAt A i) := by
  have hl := len0 h
  subst hx
  unfold sx4_itemAt fx4_itemAt aItemAt
  rw [rm_g h (i := 5) (Or.inl (by decide))]
  exact m_itemAt_L h _ _ 0 kfu _ none rfl (Nat.zero_le _) (by unfold kfu; omega)
theorem m_labels (h : RM g A) (w : WI A) {r : Nat} (hr : r < (A.2 1).length) : sx4_labels g (nI r) ∧ RM (fx4_labels g (nI r)) (aLabel A r) := by
  have hl := len1 h
  have hp : RM (upd g (fx4_entry (nI r) 3).toNatClampNeg 1) (aPutR A 1 r 3 1) := s_en h hr (x := 3) (c := 3) rfl (by decide) 1
  have p3 : vp_in (fx4_entry (nI r) 3) 1203 := p_en (by omega) (c := 3) rfl (by decide)
  unfold sx4_labels fx4_labels aLabel
  simp only [bnd]
  rw [rm_g h (i := 6) (Or.inl (by decide)), rm_g h (i := 13) (Or.inl (by decide))]
  by_cases q6 : A.1 6 = 0
  · rw [if_pos q6, if_pos q6]
    refine ⟨p3, ?_⟩
    by_cases q : A.1 13 = 0
    · rw [if_pos q, if_pos q6]; exact hp
    · rw [if_neg q]; exact hp
  · rw [if_neg q6, if_neg q6]
    rcases w.1 with q | q
    · rw [q, if_neg (show ¬ (0 : Int32) = 1 by decide), if_neg (show ¬ (0 : Int32) = 1 by decide), if_pos (show (0 : Int32) = 0 from rfl), if_neg q6]
      have h6 := rm_set h (i := 6) (Or.inl (by decide)) (A.1 6 - 1)
      generalize upd g 6 (A.1 6 - 1) = g7 at h6 ⊢
      obtain ⟨a1, a2⟩ := m_itemAt h6 (x := g7 7) (i := 7) (rm_g h6 (Or.inl (by decide)))
      rw [a2]
      cases e : aItemAt (aS A 6 (A.1 6 - 1)) 7 with
      | none =>
        rw [show opI none = -1 from rfl, if_pos rfl, if_pos rfl]
        obtain ⟨b1, b2⟩ := m_count h6 (x := 5) (i := 5) rfl (by decide)
        exact ⟨⟨a1, b1⟩, b2⟩
      | some k =>
        have hk := aItemAt_lt e
        have hl0 := len0 h6
        rw [show opI (some k) = nI k from rfl, if_neg (nI_ne (by omega)), if_neg (nI_ne (by omega))]
        exact ⟨⟨a1, p_th (by omega) (c := 3) rfl (by decide)⟩, s_th h6 hk (x := 3) (c := 3) rfl (by decide) 1⟩
    · rw [q, if_pos (show (1 : Int32) = 1 from rfl), if_pos (show (1 : Int32) = 1 from rfl), if_neg (show ¬ (1 : Int32) = 0 by decide)]
      exact ⟨p3, hp⟩
def mLk (g : Nat → Int32) (x1 x2 u : Int32) : Nat → Int32 := (bnd (upd g (479 + (4 * (g 478))).toNatClampNeg (g (fx4_entry x1 0).toNatClampNeg)) (fun g79 => (bnd (upd g79 ((479 + (4 * (g 478))) + 1).toNatClampNeg x2) (fun g81 => (bnd (upd g81 ((479 + (4 * (g 478))) + 2).toNatClampNeg u) (fun g83 => (bnd (upd g83 ((479 + (4 * (g 478))) + 3).toNatClampNeg ((g83 14) + (g83 1))) (fun g85 => (bnd (upd g85 478 ((g85 478) + 1)) (fun g86 => g86))))))))))
def sLk (g : Nat → Int32) (x1 x2 u : Int32) : Prop := (vp_in (fx4_entry x1 0) 1203 ∧ (vp_in (479 + (4 * (g 478))) 1203 ∧ (bnd (upd g (479 + (4 * (g 478))).toNatClampNeg (g (fx4_entry x1 0).toNatClampNeg)) (fun g79 => (vp_in ((479 + (4 * (g 478))) + 1) 1203 ∧ (bnd (upd g79 ((479 + (4 * (g 478))) + 1).toNatClampNeg x2) (fun g81 => (vp_in ((479 + (4 * (g 478))) + 2) 1203 ∧ (bnd (upd g81 ((479 + (4 * (g 478))) + 2).toNatClampNeg u) (fun g83 => vp_in ((479 + (4 * (g 478))) + 3) 1203))))))))))
theorem m_lk (h : RM g A) {r c : Nat} (hr : r < (A.2 1).length) (hv : (A.2 2).length < 120) {x2 : Int32} (hx : x2 = nI c) (u : Int32) : sLk g (nI r) x2 u ∧ RM (mLk g (nI r) x2 u) (aPush (aS A (2001 + c) (A.1 14)) 2 (fun i => if i = 0 then A.1 14 + A.1 1 else if i = 1 then kRec A r 0 else if i = 2 then nI c else if i = 3 then u else A.1 14)) := by
  have hl := len1 h
  have p0 : vp_in (fx4_entry (nI r) 0) 1203 := p_en (by omega) (c := 0) rfl (by decide)
  have i0 : (479 : Int32) + (4 * nI (A.2 2).length) = nI (479 + 4 * (A.2 2).length) := by
    show nI 479 + (nI 4 * nI (A.2 2).length) = _
    rw [nI_mul, nI_add]
  generalize hn : (A.2 2).length = n at hv i0
  have i1 : nI (479 + 4 * n) + 1 = nI (479 + 4 * n + 1) := nI_1 _
  have i2 : nI (479 + 4 * n) + 2 = nI (479 + 4 * n + 2) := nI_add _ 2
  have i3 : nI (479 + 4 * n) + 3 = nI (479 + 4 * n + 3) := nI_add _ 3
  have c0 : g 478 = nI n := by rw [cnt2 h, hn]
  unfold sLk mLk
  simp only [bnd]
  rw [c0, i0, i1, i2, i3, nI_clamp (show 479 + 4 * n < 2 ^ 31 by omega), nI_clamp (show 479 + 4 * n + 1 < 2 ^ 31 by omega), nI_clamp (show 479 + 4 * n + 2 < 2 ^ 31 by omega), nI_clamp (show 479 + 4 * n + 3 < 2 ^ 31 by omega), g_en h hr (x := 0) (c := 0) rfl (by decide)]
  refine ⟨⟨p0, vp_in_nI (by omega) (by omega), vp_in_nI (by omega) (by omega), vp_in_nI (by omega) (by omega), vp_in_nI (by omega) (by omega)⟩, ?_⟩
  have b0 := rm_bey h (k := 2) (x := 479 + 4 * n) (by decide) (by rw [hn]; exact Nat.le_refl _) (by show _ < 479 + 4 * 120; omega) (kRec A r 0)
  have b1 := rm_bey b0 (k := 2) (x := 479 + 4 * n + 1) (by decide) (by rw [hn]; show 479 + 4 * n ≤ _; omega) (by show _ < 479 + 4 * 120; omega) x2
  have b2 := rm_bey b1 (k := 2) (x := 479 + 4 * n + 2) (by decide) (by rw [hn]; show 479 + 4 * n ≤ _; omega) (by show _ < 479 + 4 * 120; omega) u
  generalize hg : upd (upd (upd g (479 + 4 * n) (kRec A r 0)) (479 + 4 * n + 1) x2) (479 + 4 * n + 2) u = g13 at b2 ⊢
  have b3 := rm_bey b2 (k := 2) (x := 479 + 4 * n + 3) (by decide) (by rw [hn]; show 479 + 4 * n ≤ _; omega) (by show _ < 479 + 4 * 120; omega) (A.1 14 + A.1 1)
  rw [rm_g b2 (i := 14) (Or.inl (by decide)), rm_g b2 (i := 1) (Or.inl (by decide))]
  have b4 := rm_push b3 (k := 2) (v := fun i => if i = 0 then A.1 14 + A.1 1 else if i = 1 then kRec A r 0 else if i = 2 then nI c else if i = 3 then u else A.1 14) (by decide) (by rw [hn]; exact hv) (fun c' hc' => by
    rw [hn]
    show upd g13 (479 + 4 * n + 3) _ (479 + 4 * n + c') = _
    rcases (show c' = 0 ∨ c' = 1 ∨ c' = 2 ∨ c' = 3 by have : c' < 4 := hc'; omega) with rfl | rfl | rfl | rfl
    · rw [upd_ne _ _ (by omega), ← hg, upd_ne _ _ (by omega), upd_ne _ _ (by omega), Nat.add_zero, upd_same]
      rfl
    · rw [upd_ne _ _ (by omega), ← hg, upd_ne _ _ (by omega), upd_same]
      exact hx
    · rw [upd_ne _ _ (by omega), ← hg, upd_same]
      rfl
    · rw [upd_same]
      rfl)
  refine rm_ext b4 (fun i hi => ?_) (fun _ _ => rfl)
  show (if i = 2001 + c then _ else A.1 i) = A.1 i
  rw [if_neg]
  unfold kSc at hi
  omega
theorem m_look0 (h : RM g A) (w : WI A) {r : Nat} (hr : r < (A.2 1).length) (hv : (A.2 2).length < 120) : sx4_looks g (nI r) 0 ∧ RM (fx4_looks g (nI r) 0) (aLook A r 0) := by
  obtain ⟨a1, a2⟩ := m_itemAt h (x := g 8) (i := 8) (rm_g h (Or.inl (by decide)))
  have lk := fun u => m_lk h hr hv (c := 0) (x2 := 0) rfl u
  have v8 : vp_in ((8 : Int32) + 0) 1203 := vp_in_nI (n := 8) (by decide) (by decide)
  have e8 : ((8 : Int32) + 0).toNatClampNeg = 8 := by decide
  unfold sx4_looks fx4_looks
  rw [if_neg (show ¬ (0 : Int32) = 1 by decide), if_neg (show ¬ (0 : Int32) = 1 by decide), e8]
  rw [a2]
  unfold aLook aSeen
  cases e : aItemAt A (8 + 0) with
  | none =>
    rw [bnd_q (opI none), bnd_o (opI none), show opI none = -1 from rfl, if_pos rfl, if_pos rfl]
    exact ⟨⟨v8, a1, (lk 2).1⟩, (lk 2).2⟩
  | some k =>
    have hk := aItemAt_lt e
    have hl0 := len0 h
    have ok := kItm_ok w k
    have p3 : vp_in (fx4_thing (nI k) 3) 1203 := p_th (by omega) (c := 3) rfl (by decide)
    have p2 : vp_in (fx4_thing (nI k) 2) 1203 := p_th (by omega) (c := 2) rfl (by decide)
    rw [bnd_q (opI (some k)), bnd_o (opI (some k)), show opI (some k) = nI k from rfl, if_neg (nI_ne (by omega)), if_neg (nI_ne (by omega)), g_th h hk (x := 3) (c := 3) rfl (by decide), g_th h hk (x := 2) (c := 2) rfl (by decide)]
    dsimp only
    rcases ok.2 with q3 | q3
    · rw [q3, if_neg (show ¬ (0 : Int32) = 1 by decide), if_neg (show ¬ (0 : Int32) = 1 by decide), if_pos (show (0 : Int32) = 0 from rfl)]
      exact ⟨⟨v8, a1, p3, (lk 2).1⟩, (lk 2).2⟩
    · rw [q3, if_pos (show (1 : Int32) = 1 from rfl), if_pos (show (1 : Int32) = 1 from rfl), if_neg (show ¬ (1 : Int32) = 0 by decide)]
      rcases ok.1 with q | q | q | q <;> rw [q]
      · exact ⟨⟨v8, a1, p3, p2, (lk 1).1⟩, (lk 1).2⟩
      · exact ⟨⟨v8, a1, p3, p2, (lk 2).1⟩, (lk 2).2⟩
      · exact ⟨⟨v8, a1, p3, p2, (lk 3).1⟩, (lk 3).2⟩
      · exact ⟨⟨v8, a1, p3, p2, (lk 3).1⟩, (lk 3).2⟩
theorem m_look1 (h : RM g A) (w : WI A) {r : Nat} (hr : r < (A.2 1).length) (hv : kRec A r 2 = 3 → (A.2 2).length < 120) : sx4_looks g (nI r) 1 ∧ RM (fx4_looks g (nI r) 1) (if kRec A r 2 = 3 then aLook A r 1 else A) := by
  have hl := len1 h
  have p20 : vp_in (fx4_entry (nI r) 2) 1203 := p_en (by omega) (c := 2) rfl (by decide)
  unfold sx4_looks fx4_looks
  rw [if_pos (show (1 : Int32) = 1 from rfl), if_pos (show (1 : Int32) = 1 from rfl), g_en h hr (x := 2) (c := 2) rfl (by decide)]
  by_cases q2 : kRec A r 2 = 3
  · rw [if_pos q2, if_pos q2, if_pos q2]
    obtain ⟨a1, a2⟩ := m_itemAt h (x := g 9) (i := 9) (rm_g h (Or.inl (by decide)))
    have lk := fun u => m_lk h hr (hv q2) (c := 1) (x2 := 1) rfl u
    have v8 : vp_in ((8 : Int32) + 1) 1203 := vp_in_nI (n := 9) (by decide) (by decide)
    have e8 : ((8 : Int32) + 1).toNatClampNeg = 9 := by decide
    rw [e8]
    rw [a2]
    unfold aLook aSeen
    cases e : aItemAt A (8 + 1) with
    | none =>
      rw [bnd_q (opI none), bnd_o (opI none), show opI none = -1 from rfl, if_pos rfl, if_pos rfl]
      exact ⟨⟨p20, v8, a1, (lk 2).1⟩, (lk 2).2⟩
    | some k =>
      have hk := aItemAt_lt e
      have hl0 := len0 h
      have ok := kItm_ok w k
      have p3 : vp_in (fx4_thing (nI k) 3) 1203 := p_th (by omega) (c := 3) rfl (by decide)
      have p2 : vp_in (fx4_thing (nI k) 2) 1203 := p_th (by omega) (c := 2) rfl (by decide)
      rw [bnd_q (opI (some k)), bnd_o (opI (some k)), show opI (some k) = nI k from rfl, if_neg (nI_ne (by omega)), if_neg (nI_ne (by omega)), g_th h hk (x := 3) (c := 3) rfl (by decide), g_th h hk (x := 2) (c := 2) rfl (by decide)]
      dsimp only
      rcases ok.2 with q3 | q3
      · rw [q3, if_neg (show ¬ (0 : Int32) = 1 by decide), if_neg (show ¬ (0 : Int32) = 1 by decide), if_pos (show (0 : Int32) = 0 from rfl)]
        exact ⟨⟨p20, v8, a1, p3, (lk 2).1⟩, (lk 2).2⟩
      · rw [q3, if_pos (show (1 : Int32) = 1 from rfl), if_pos (show (1 : Int32) = 1 from rfl), if_neg (show ¬ (1 : Int32) = 0 by decide)]
        rcases ok.1 with q | q | q | q <;> rw [q]
        · exact ⟨⟨p20, v8, a1, p3, p2, (lk 1).1⟩, (lk 1).2⟩
        · exact ⟨⟨p20, v8, a1, p3, p2, (lk 2).1⟩, (lk 2).2⟩
        · exact ⟨⟨p20, v8, a1, p3, p2, (lk 1).1⟩, (lk 1).2⟩
        · exact ⟨⟨p20, v8, a1, p3, p2, (lk 3).1⟩, (lk 3).2⟩
  · rw [if_neg q2, if_neg q2, if_neg q2]
    exact ⟨⟨p20, trivial⟩, h⟩
end MOD3
