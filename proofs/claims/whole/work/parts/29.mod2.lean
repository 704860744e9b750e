/-! the model does what the abstract station does: the beginning of a tick -/
def kDst (l : List kRow) : Prop := l.Pairwise fun a b => ¬ a 0 = b 0
theorem kfind_none {x : Int32} : ∀ (l : List kRow) (i : Nat), (∀ b ∈ l, ¬ b 0 = x) → kfind l i x = none := by
  intro l
  induction l with
  | nil => intro i _; rfl
  | cons r t ih =>
    intro i h
    simp only [kfind]
    rw [if_neg (h r (List.mem_cons_self ..))]
    exact ih (i + 1) fun b hb => h b (List.mem_cons_of_mem _ hb)
def opD (o : Option Nat) (a : Int32) : Int32 := match o with
  | none => a
  | some j => nI j
section MOD2
variable {g : Nat → Int32} {A : Ab}
theorem m_recOf_L (h : RM g A) (x : Int32) : ∀ (l2 : List kRow) (i k : Nat) (a : Int32), (A.2 1).drop i = l2 → i ≤ (A.2 1).length → l2.length < k → kDst l2 → sx4_recordOf_L4 g k x a (nI i) ∧ fx4_recordOf_L4 g k x a (nI i) = opD (kfind l2 i x) a := by
  have hl := len1 h
  intro l2
  induction l2 with
  | nil =>
    intro i k a e hi hk _
    have := kdropn e
    cases k with
    | zero => omega
    | succ k =>
      simp only [fx4_recordOf_L4, sx4_recordOf_L4, kfind]
      rw [cnt1 h, if_pos (nI_le (by omega) (by omega)), if_pos (nI_le (by omega) (by omega))]
      exact ⟨trivial, rfl⟩
  | cons r t ih =>
    intro i k a e hi hk hd
    obtain ⟨h1, h2, h3⟩ := kdrop e
    obtain ⟨d1, d2⟩ := List.pairwise_cons.mp hd
    cases k with
    | zero => omega
    | succ k =>
      simp only [List.length_cons] at hk
      simp only [fx4_recordOf_L4, sx4_recordOf_L4, kfind]
      rw [cnt1 h, if_neg (nI_ge (by omega) (by omega)), if_neg (nI_ge (by omega) (by omega)), g_en h h1 (x := 0) (c := 0) rfl (by decide), nI_1]
      have ev : kRec A i 0 = r 0 := by unfold kRec; rw [h2]
      rw [ev]
      by_cases q : r 0 = x
      · rw [if_pos q, if_pos q, if_pos q]
        obtain ⟨a1, a2⟩ := ih (i + 1) k (nI i) h3 (by omega) (by omega) d2
        refine ⟨⟨p_en (by omega) (c := 0) rfl (by decide), a1⟩, ?_⟩
        rw [a2, kfind_none t (i + 1) fun b hb z => d1 b hb (by rw [q, z])]
        rfl
      · rw [if_neg q, if_neg q, if_neg q]
        obtain ⟨a1, a2⟩ := ih (i + 1) k a h3 (by omega) (by omega) d2
        exact ⟨⟨p_en (by omega) (c := 0) rfl (by decide), a1⟩, a2⟩
theorem m_recOf (h : RM g A) (hd : kDst (A.2 1)) (x : Int32) : sx4_recordOf g x ∧ fx4_recordOf g x = opI (kfind (A.2 1) 0 x) := by
  have hl := len1 h
  obtain ⟨a1, a2⟩ := m_recOf_L h x (A.2 1) 0 kfu (-1) rfl (Nat.zero_le _) (by unfold kfu; omega) hd
  refine ⟨a1, a2.trans ?_⟩
  cases kfind (A.2 1) 0 x <;> rfl
theorem m_itmOf_L (h : RM g A) (x : Int32) : ∀ (l2 : List kRow) (i k : Nat) (a : Int32), (A.2 0).drop i = l2 → i ≤ (A.2 0).length → l2.length < k → kDst l2 → sx4_itemOf_L4 g k x a (nI i) ∧ fx4_itemOf_L4 g k x a (nI i) = opD (kfind l2 i x) a := by
  have hl := len0 h
  intro l2
  induction l2 with
  | nil =>
    intro i k a e hi hk _
    have := kdropn e
    cases k with
    | zero => omega
    | succ k =>
      simp only [fx4_itemOf_L4, sx4_itemOf_L4, kfind]
      rw [cnt0 h, if_pos (nI_le (by omega) (by omega)), if_pos (nI_le (by omega) (by omega))]
      exact ⟨trivial, rfl⟩
  | cons r t ih =>
    intro i k a e hi hk hd
    obtain ⟨h1, h2, h3⟩ := kdrop e
    obtain ⟨d1, d2⟩ := List.pairwise_cons.mp hd
    cases k with
    | zero => omega
    | succ k =>
      simp only [List.length_cons] at hk
      simp only [fx4_itemOf_L4, sx4_itemOf_L4, kfind]
      rw [cnt0 h, if_neg (nI_ge (by omega) (by omega)), if_neg (nI_ge (by omega) (by omega)), g_th h h1 (x := 0) (c := 0) rfl (by decide), nI_1]
      have ev : kItm A i 0 = r 0 := by unfold kItm; rw [h2]
      rw [ev]
      by_cases q : r 0 = x
      · rw [if_pos q, if_pos q, if_pos q]
        obtain ⟨a1, a2⟩ := ih (i + 1) k (nI i) h3 (by omega) (by omega) d2
        refine ⟨⟨p_th (by omega) (c := 0) rfl (by decide), a1⟩, ?_⟩
        rw [a2, kfind_none t (i + 1) fun b hb z => d1 b hb (by rw [q, z])]
        rfl
      · rw [if_neg q, if_neg q, if_neg q]
        obtain ⟨a1, a2⟩ := ih (i + 1) k a h3 (by omega) (by omega) d2
        exact ⟨⟨p_th (by omega) (c := 0) rfl (by decide), a1⟩, a2⟩
theorem m_itmOf (h : RM g A) (hd : kDst (A.2 0)) (x : Int32) : sx4_itemOf g x ∧ fx4_itemOf g x = opI (kfind (A.2 0) 0 x) := by
  have hl := len0 h
  obtain ⟨a1, a2⟩ := m_itmOf_L h x (A.2 0) 0 kfu (-1) rfl (Nat.zero_le _) (by unfold kfu; omega) hd
  refine ⟨a1, a2.trans ?_⟩
  cases kfind (A.2 0) 0 x <;> rfl
theorem m_tells (h : RM g A) (hd : kDst (A.2 1)) (n c v : Int32) : sx4_tells g n c v ∧ RM (fx4_tells g n c v) (aTells A n c v) := by
  have hl := len1 h
  obtain ⟨a1, a2⟩ := m_recOf h hd n
  obtain ⟨b1, b2⟩ := m_count h (x := 4) (i := 4) rfl (by decide)
  unfold sx4_tells fx4_tells aTells
  simp only [bnd, upd_id]
  rw [a2]
  cases e : kfind (A.2 1) 0 n with
  | none =>
    rw [show opI none = -1 from rfl, if_pos rfl, if_pos rfl]
    exact ⟨⟨a1, b1⟩, b2⟩
  | some k =>
    have hk := (kfind_0 e).1
    show _ ∧ RM _ (if kRec A k 4 = 1 then _ else _)
    rw [show opI (some k) = nI k from rfl, if_neg (nI_ne (by omega)), if_neg (nI_ne (by omega)), g_en h hk (x := 4) (c := 4) rfl (by decide), g_en h hk (x := 2) (c := 2) rfl (by decide)]
    have p4 : vp_in (fx4_entry (nI k) 4) 1203 := p_en (by omega) (c := 4) rfl (by decide)
    have p2 : vp_in (fx4_entry (nI k) 2) 1203 := p_en (by omega) (c := 2) rfl (by decide)
    have hp : ∀ u : Int32, RM (upd g (fx4_entry (nI k) 2).toNatClampNeg u) (aPutR A 1 k 2 u) := fun u => s_en h hk (x := 2) (c := 2) rfl (by decide) u
    by_cases q4 : kRec A k 4 = 1
    · rw [if_pos q4, if_pos q4, if_pos q4]
      exact ⟨⟨a1, p4, b1⟩, b2⟩
    · rw [if_neg q4, if_neg q4, if_neg q4]
      by_cases qc : c = 0
      · rw [if_pos qc, if_pos qc, if_pos qc]
        by_cases q2 : kRec A k 2 = 0
        · rw [if_pos q2, if_pos q2, if_pos q2]; exact ⟨⟨a1, p4, p2, p2⟩, hp _⟩
        · rw [if_neg q2, if_neg q2, if_neg q2]; exact ⟨⟨a1, p4, p2, p2⟩, h⟩
      · rw [if_neg qc, if_neg qc, if_neg qc]
        by_cases q1 : kRec A k 2 = 1
        · rw [if_pos q1, if_pos q1, if_pos q1]; exact ⟨⟨a1, p4, p2, p2⟩, h⟩
        · rw [if_neg q1, if_neg q1, if_neg q1]
          by_cases q2 : kRec A k 2 = 2
          · rw [if_pos q2, if_pos q2, if_pos q2]; exact ⟨⟨a1, p4, p2, p2⟩, h⟩
          · rw [if_neg q2, if_neg q2, if_neg q2]
            by_cases q3 : v = 1
            · rw [if_pos q3, if_pos q3, if_pos q3]; exact ⟨⟨a1, p4, p2, p2⟩, hp _⟩
            · rw [if_neg q3, if_neg q3, if_neg q3]; exact ⟨⟨a1, p4, p2, p2⟩, hp _⟩
theorem dst_put {l : List kRow} {r c : Nat} {v : Int32} (hc : c ≠ 0) (h : kDst l) : kDst (l.set r (upd (l.getD r kz) c v)) := by
  unfold kDst at h ⊢
  have e : ∀ l' : List kRow, l'.Pairwise (fun a b => ¬ a 0 = b 0) ↔ (l'.map fun r : kRow => r 0).Pairwise (fun a b => ¬ a = b) := fun l' => by
    rw [List.pairwise_map]
  rw [e] at h ⊢
  have e2 : (l.set r (upd (l.getD r kz) c v)).map (fun r : kRow => r 0) = l.map (fun r : kRow => r 0) := by
    refine List.ext_getElem (by rw [List.length_map, List.length_map, List.length_set]) fun i h1 h2 => ?_
    rw [List.length_map] at h2
    rw [List.getElem_map, List.getElem_map, List.getElem_set]
    by_cases q : r = i
    · subst q
      rw [if_pos rfl, upd_ne _ _ (fun z => hc z.symm), List.getD_eq_getElem?_getD, List.getElem?_eq_getElem h2]
      rfl
    · rw [if_neg q]
  rw [e2]
  exact h
theorem dst_tells {n c v : Int32} (h : kDst (A.2 1)) : kDst ((aTells A n c v).2 1) := by
  have hp : ∀ k u, kDst ((aPutR A 1 k 2 u).2 1) := fun k u => by
    unfold aPutR
    rw [aT_same]
    exact dst_put (by decide) h
  unfold aTells
  cases kfind (A.2 1) 0 n with
  | none => exact h
  | some k =>
    show kDst ((if kRec A k 4 = 1 then _ else _ : Ab).2 1)
    (repeat' split) <;> first | exact h | exact hp _ _
theorem erase_mid {pre t : List kRow} {r : kRow} : (pre ++ r :: t).eraseIdx pre.length = pre ++ t := by
  rw [List.eraseIdx_append_of_length_le (Nat.le_refl _), Nat.sub_self]
  rfl
theorem getD_mid {pre t : List kRow} {r : kRow} : (pre ++ r :: t).getD pre.length kz = r := by
  rw [List.getD_eq_getElem?_getD, List.getElem?_append_right (Nat.le_refl _), Nat.sub_self]
  rfl
theorem tells_T {n c v : Int32} {l : List kRow} : aTells (aT A 2 l) n c v = aT (aTells A n c v) 2 l := by
  unfold aTells
  show (match kfind ((aT A 2 l).2 1) 0 n with | none => _ | some k => _) = _
  rw [aT_ne _ _ (show 1 ≠ 2 by decide)]
  cases kfind (A.2 1) 0 n with
  | none => rfl
  | some k =>
    have e : kRec (aT A 2 l) k = kRec A k := by
      unfold kRec
      rw [aT_ne _ _ (show 1 ≠ 2 by decide)]
    have e2 : ∀ u, aPutR (aT A 2 l) 1 k 2 u = aT (aPutR A 1 k 2 u) 2 l := fun u => by
      unfold aPutR
      rw [aT_ne _ _ (show 1 ≠ 2 by decide)]
      unfold aT
      refine Prod.ext rfl (funext fun j => ?_)
      show va_up (va_up A.2 2 l) 1 _ j = va_up (va_up A.2 1 _) 2 l j
      unfold va_up
      by_cases q1 : j = 1
      · rw [if_pos q1, if_neg (by omega), if_pos q1]
      · rw [if_neg q1]
        by_cases q2 : j = 2
        · rw [if_pos q2, if_pos q2]
        · rw [if_neg q2, if_neg q2, if_neg q1]
    show (if kRec (aT A 2 l) k 4 = 1 then _ else _ : Ab) = aT (if kRec A k 4 = 1 then _ else _) 2 l
    rw [e, e2, e2]
    (repeat' split) <;> rfl
theorem tellL_T {l' : List kRow} : ∀ (l : List kRow) {A : Ab}, aTellL (aT A 2 l') l = aT (aTellL A l) 2 l' := by
  intro l
  induction l with
  | nil => intro A; rfl
  | cons v t ih =>
    intro A
    show aTellL (aTells (aT A 2 l') (v 1) (v 2) (v 3)) t = aT (aTellL (aTells A (v 1) (v 2) (v 3)) t) 2 l'
    rw [tells_T]
    exact ih
theorem m_del_L (T : Int32) : ∀ (l2 pre : List kRow) (k : Nat) (g : Nat → Int32) (A : Ab), RM g A → A.2 2 = pre ++ l2 → A.1 14 = T → WI A → kDst (A.2 1) → l2.length < k → sx4_delivers_L2 k (nI pre.length) g ∧ RM (fx4_delivers_L2 k (nI pre.length) g) (aT (aTellL A (l2.filter (fun r => decide (r 0 = T)))) 2 (pre ++ l2.filter (fun r => decide (¬ r 0 = T)))) := by
  intro l2
  induction l2 with
  | nil =>
    intro pre k g A h hV hT w hd hk
    have hl := len2 h
    rw [hV, List.append_nil] at hl
    cases k with
    | zero => omega
    | succ k =>
      simp only [fx4_delivers_L2, sx4_delivers_L2]
      rw [cnt2 h, hV, List.append_nil, if_pos (nI_le (by omega) (by omega)), if_pos (nI_le (by omega) (by omega))]
      refine ⟨trivial, ?_⟩
      show RM g (aT A 2 (pre ++ []))
      rw [← hV, aT_self]
      exact h
  | cons r t ih =>
    intro pre k g A h hV hT w hd hk
    have hl := len2 h
    have hlen : (A.2 2).length = pre.length + t.length + 1 := by
      rw [hV, List.length_append, List.length_cons]; omega
    have e0 : (A.2 2).getD pre.length kz = r := by rw [hV]; exact getD_mid
    cases k with
    | zero => omega
    | succ k =>
      simp only [List.length_cons] at hk
      have gx : ∀ c, c < 4 → g (479 + 4 * pre.length + c) = r (mU 2 c) := fun c hc => by
        rw [← e0]
        exact rm_get h (k := 2) (by decide) (by omega) hc
      have i0 : (479 : Int32) + (4 * nI pre.length) = nI (479 + 4 * pre.length) := by
        show nI 479 + (nI 4 * nI pre.length) = _
        rw [nI_mul, nI_add]
      have i1 : nI (479 + 4 * pre.length) + 1 = nI (479 + 4 * pre.length + 1) := nI_1 _
      have i2 : nI (479 + 4 * pre.length) + 2 = nI (479 + 4 * pre.length + 2) := nI_add _ 2
      have i3 : nI (479 + 4 * pre.length) + 3 = nI (479 + 4 * pre.length + 3) := nI_add _ 3
      have g0 := gx 0 (by decide)
      have g1 := gx 1 (by decide)
      have g2 := gx 2 (by decide)
      have g3 := gx 3 (by decide)
      rw [Nat.add_zero] at g0
      simp only [fx4_delivers_L2, sx4_delivers_L2, bnd]
      rw [cnt2 h, hlen, if_neg (nI_ge (by omega) (by omega)), if_neg (nI_ge (by omega) (by omega)), rm_g h (i := 14) (Or.inl (by decide)), hT, i0, i1, i2, i3, nI_clamp (show 479 + 4 * pre.length < 2 ^ 31 by omega), nI_clamp (show 479 + 4 * pre.length + 1 < 2 ^ 31 by omega), nI_clamp (show 479 + 4 * pre.length + 2 < 2 ^ 31 by omega), nI_clamp (show 479 + 4 * pre.length + 3 < 2 ^ 31 by omega), g0, g1, g2, g3, nI_1]
      show (_ ∧ (if r 0 = T then _ else _)) ∧ RM (if r 0 = T then _ else _) _
      have v0 : vp_in (nI (479 + 4 * pre.length)) 1203 := vp_in_nI (by omega) (by omega)
      have v1 : vp_in (nI (479 + 4 * pre.length + 1)) 1203 := vp_in_nI (by omega) (by omega)
      have v2 : vp_in (nI (479 + 4 * pre.length + 2)) 1203 := vp_in_nI (by omega) (by omega)
      have v3 : vp_in (nI (479 + 4 * pre.length + 3)) 1203 := vp_in_nI (by omega) (by omega)
      by_cases q : r 0 = T
      · rw [if_pos q, if_pos q, List.filter_cons_of_pos (by rw [decide_eq_true_eq]; exact q), List.filter_cons_of_neg (by rw [decide_eq_true_eq]; exact fun z => z q)]
        obtain ⟨t1, t2⟩ := m_tells h hd (r 1) (r 2) (r 3)
        have n2 : (aTells A (r 1) (r 2) (r 3)).2 2 = A.2 2 := tells_n (by decide)
        have okv : okV r := w.2.2.2.2.2 r (by rw [hV]; exact List.mem_append_right _ (List.mem_cons_self ..))
        have s1 := st_tells (A := A) (n := r 1) (c := r 2) okv.2
        obtain ⟨d1, d2⟩ := rm_rem2 t2 (r := pre.length) (by rw [n2]; omega)
        have e1 : aRem (aTells A (r 1) (r 2) (r 3)) 2 pre.length = aT (aTells A (r 1) (r 2) (r 3)) 2 (pre ++ t) := by
          unfold aRem
          rw [n2, hV, erase_mid]
        rw [e1] at d2
        obtain ⟨f1, f2⟩ := ih pre k _ _ d2 (aT_same _ _ _) ((s1.2 14 (by unfold kFx; omega)).trans hT) (by rw [← e1]; exact st_rem.1 (s1.1 w)) (by rw [aT_ne _ _ (by decide)]; exact dst_tells hd) (by omega)
        rw [tellL_T, aT_aT] at f2
        exact ⟨⟨v3, v0, v1, v2, t1, d1, f1⟩, f2⟩
      · rw [if_neg q, if_neg q, List.filter_cons_of_neg (by rw [decide_eq_true_eq]; exact q), List.filter_cons_of_pos (by rw [decide_eq_true_eq]; exact q)]
        obtain ⟨f1, f2⟩ := ih (pre ++ [r]) k g A h (by rw [List.append_assoc]; exact hV) hT w hd (by omega)
        rw [len_push] at f1 f2
        rw [List.append_assoc] at f2
        exact ⟨⟨v3, f1⟩, f2⟩
theorem m_delivers (h : RM g A) (w : WI A) (hd : kDst (A.2 1)) : sx4_delivers g ∧ RM (fx4_delivers g) (aDeliver A) := by
  have hl := len2 h
  exact m_del_L (A.1 14) (A.2 2) [] kfu g A h rfl rfl w hd (by unfold kfu; omega)
theorem m_ovd_L (T y1 : Int32) : ∀ (l2 pre : List kRow) (k : Nat) (g : Nat → Int32) (A : Ab), RM g A → A.2 4 = pre ++ l2 → A.1 14 = T → l2.length < k → sx4_arrives_L94 k y1 (nI pre.length) g ∧ RM (fx4_arrives_L94 k y1 (nI pre.length) g) (aT (aAlarmL A (l2.filter (fun r => decide (¬ T ≤ r 0)))) 4 (pre ++ l2.filter (fun r => decide (T ≤ r 0)))) := by
  intro l2
  induction l2 with
  | nil =>
    intro pre k g A h hV hT hk
    have hl := len4 h
    rw [hV, List.append_nil] at hl
    cases k with
    | zero => omega
    | succ k =>
      simp only [fx4_arrives_L94, sx4_arrives_L94]
      rw [cnt4 h, hV, List.append_nil, if_pos (nI_le (by omega) (by omega)), if_pos (nI_le (by omega) (by omega))]
      refine ⟨trivial, ?_⟩
      show RM g (aT A 4 (pre ++ []))
      rw [← hV, aT_self]
      exact h
  | cons r t ih =>
    intro pre k g A h hV hT hk
    have hl := len4 h
    have hlen : (A.2 4).length = pre.length + t.length + 1 := by
      rw [hV, List.length_append, List.length_cons]; omega
    have e0 : (A.2 4).getD pre.length kz = r := by rw [hV]; exact getD_mid
    cases k with
    | zero => omega
    | succ k =>
      simp only [List.length_cons] at hk
      have g0 : g (1041 + pre.length) = r 0 := by
        have := rm_get h (k := 4) (r := pre.length) (c := 0) (by decide) (by omega) (by decide)
        rw [e0] at this
        rw [← show r (mU 4 0) = r 0 from rfl, ← this]
        congr 1
        show 1041 + pre.length = 1041 + 1 * pre.length + 0
        omega
      have i0 : (1041 : Int32) + nI pre.length = nI (1041 + pre.length) := nI_add 1041 _
      simp only [fx4_arrives_L94, sx4_arrives_L94, bnd]
      rw [cnt4 h, hlen, if_neg (nI_ge (by omega) (by omega)), if_neg (nI_ge (by omega) (by omega)), rm_g h (i := 14) (Or.inl (by decide)), hT, i0, nI_clamp (show 1041 + pre.length < 2 ^ 31 by omega), g0, nI_1]
      have v0 : vp_in (nI (1041 + pre.length)) 1203 := vp_in_nI (by omega) (by omega)
      by_cases q : T ≤ r 0
      · rw [if_pos q, if_pos q, List.filter_cons_of_neg (by rw [decide_eq_true_eq]; exact fun z => z q), List.filter_cons_of_pos (by rw [decide_eq_true_eq]; exact q)]
        obtain ⟨f1, f2⟩ := ih (pre ++ [r]) k g A h (by rw [List.append_assoc]; exact hV) hT (by omega)
        rw [len_push] at f1 f2
        rw [List.append_assoc] at f2
        exact ⟨⟨v0, f1⟩, f2⟩
      · rw [if_neg q, if_neg q, List.filter_cons_of_pos (by rw [decide_eq_true_eq]; exact q), List.filter_cons_of_neg (by rw [decide_eq_true_eq]; exact q)]
        obtain ⟨d1, d2⟩ := rm_rem4 h (r := pre.length) (by omega)
        have e1 : aRem A 4 pre.length = aT A 4 (pre ++ t) := by
          unfold aRem
          rw [hV, erase_mid]
        rw [e1] at d2
        obtain ⟨b1, b2⟩ := m_alarm d2 (x := 2) (k := 2) rfl (by decide)
        rw [alarm_T] at b2
        have s1 := st_alarm (A := A) (k := 2) (by decide)
        obtain ⟨f1, f2⟩ := ih pre k _ _ b2 (aT_same _ _ _) ((s1.2 14 (by unfold kFx; omega)).trans hT) (by omega)
        have eL : ∀ (l : List kRow) {A : Ab} {l' : List kRow}, aAlarmL (aT A 4 l') l = aT (aAlarmL A l) 4 l' := by
          intro l
          induction l with
          | nil => intro A l'; rfl
          | cons v u ih2 =>
            intro A l'
            show aAlarmL (aAlarm (aT A 4 l') 2) u = aT (aAlarmL (aAlarm A 2) u) 4 l'
            rw [alarm_T]
            exact ih2
        rw [eL, aT_aT] at f2
        exact ⟨⟨v0, d1, b1, f1⟩, f2⟩
theorem conf_T {l : List kRow} : aConfirm (aT A 3 l) = aT (aConfirm A) 3 l := by
  unfold aConfirm
  rw [aT_ne _ _ (show 4 ≠ 3 by decide)]
  by_cases q : (A.2 4).length = 0
  · rw [if_pos q, if_pos q, alarm_T]
  · rw [if_neg q, if_neg q]
    unfold aCount aRem
    rw [aT_ne _ _ (show 4 ≠ 3 by decide)]
    unfold aS aT
    refine Prod.ext rfl (funext fun j => ?_)
    show va_up (va_up A.2 3 l) 4 _ j = va_up (va_up A.2 4 _) 3 l j
    unfold va_up
    by_cases q1 : j = 4
    · rw [if_pos q1, if_neg (by omega), if_pos q1]
    · rw [if_neg q1]
      by_cases q2 : j = 3
      · rw [if_pos q2, if_pos q2]
      · rw [if_neg q2, if_neg q2, if_neg q1]
theorem confL_T {l' : List kRow} : ∀ (l : List kRow) {A : Ab}, aConfL (aT A 3 l') l = aT (aConfL A l) 3 l' := by
  intro l
  induction l with
  | nil => intro A; rfl
  | cons v t ih =>
    intro A
    show aConfL (aConfirm (aT A 3 l')) t = aT (aConfL (aConfirm A) t) 3 l'
    rw [conf_T]
    exact ih
theorem m_arr_L (T : Int32) : ∀ (l2 pre : List kRow) (k : Nat) (g : Nat → Int32) (A : Ab), RM g A → A.2 3 = pre ++ l2 → A.1 14 = T → l2.length < k → sx4_arrives_L2 k (nI pre.length) g ∧ RM (fx4_arrives_L2 k (nI pre.length) g) (aOverdue (aT (aConfL A (l2.filter (fun r => decide (r 0 = T)))) 3 (pre ++ l2.filter (fun r => decide (¬ r 0 = T))))) := by
  intro l2
  induction l2 with
  | nil =>
    intro pre k g A h hV hT hk
    have hl := len3 h
    have hl4 := len4 h
    rw [hV, List.append_nil] at hl
    cases k with
    | zero => omega
    | succ k =>
      simp only [fx4_arrives_L2, sx4_arrives_L2]
      rw [cnt3 h, hV, List.append_nil, if_pos (nI_le (by omega) (by omega)), if_pos (nI_le (by omega) (by omega))]
      obtain ⟨a1, a2⟩ := m_ovd_L (A.1 14) (nI pre.length) (A.2 4) [] kfu g A h rfl rfl (by unfold kfu; omega)
      refine ⟨a1, ?_⟩
      show RM _ (aOverdue (aT A 3 (pre ++ [])))
      rw [← hV, aT_self]
      exact a2
  | cons r t ih =>
    intro pre k g A h hV hT hk
    have hl := len3 h
    have hlen : (A.2 3).length = pre.length + t.length + 1 := by
      rw [hV, List.length_append, List.length_cons]; omega
    have e0 : (A.2 3).getD pre.length kz = r := by rw [hV]; exact getD_mid
    cases k with
    | zero => omega
    | succ k =>
      simp only [List.length_cons] at hk
      have g0 : g (960 + pre.length) = r 0 := by
        have := rm_get h (k := 3) (r := pre.length) (c := 0) (by decide) (by omega) (by decide)
        rw [e0] at this
        rw [← show r (mU 3 0) = r 0 from rfl, ← this]
        congr 1
        show 960 + pre.length = 960 + 1 * pre.length + 0
        omega
      have i0 : (960 : Int32) + nI pre.length = nI (960 + pre.length) := nI_add 960 _
      simp only [fx4_arrives_L2, sx4_arrives_L2, bnd]
      rw [cnt3 h, hlen, if_neg (nI_ge (by omega) (by omega)), if_neg (nI_ge (by omega) (by omega)), rm_g h (i := 14) (Or.inl (by decide)), hT, i0, nI_clamp (show 960 + pre.length < 2 ^ 31 by omega), g0, nI_1]
      have v0 : vp_in (nI (960 + pre.length)) 1203 := vp_in_nI (by omega) (by omega)
      by_cases q : r 0 = T
      · rw [if_pos q, if_pos q, List.filter_cons_of_pos (by rw [decide_eq_true_eq]; exact q), List.filter_cons_of_neg (by rw [decide_eq_true_eq]; exact fun z => z q)]
        obtain ⟨d1, d2⟩ := rm_rem3 h (r := pre.length) (by omega)
        have e1 : aRem A 3 pre.length = aT A 3 (pre ++ t) := by
          unfold aRem
          rw [hV, erase_mid]
        rw [e1] at d2
        generalize fx4_drops g 959 960 1 (nI pre.length) = g3 at d2 ⊢
        have hl4 := len4 d2
        have ec : aConfirm (aT A 3 (pre ++ t)) = aT (aConfirm A) 3 (pre ++ t) := conf_T
        have s1 := st_confirm (A := A)
        have fin : ∀ g4, RM g4 (aConfirm (aT A 3 (pre ++ t))) → sx4_arrives_L2 k (nI pre.length) g4 ∧ RM (fx4_arrives_L2 k (nI pre.length) g4) (aOverdue (aT (aConfL A (r :: t.filter (fun r => decide (r 0 = T)))) 3 (pre ++ t.filter (fun r => decide (¬ r 0 = T))))) := fun g4 hg4 => by
          rw [ec] at hg4
          obtain ⟨f1, f2⟩ := ih pre k _ _ hg4 (aT_same _ _ _) ((s1.2 14 (by unfold kFx; omega)).trans hT) (by omega)
          rw [confL_T, aT_aT] at f2
          exact ⟨f1, f2⟩
        rw [cnt4 d2]
        by_cases q4 : ((aT A 3 (pre ++ t)).2 4).length = 0
        · rw [q4, nI_0, if_pos (by decide), if_pos (by decide)]
          obtain ⟨b1, b2⟩ := m_alarm d2 (x := 3) (k := 3) rfl (by decide)
          have eq : aConfirm (aT A 3 (pre ++ t)) = aAlarm (aT A 3 (pre ++ t)) 3 := by
            unfold aConfirm
            rw [if_pos q4]
          obtain ⟨f1, f2⟩ := fin _ (by rw [eq]; exact b2)
          exact ⟨⟨v0, d1, b1, f1⟩, f2⟩
        · rw [if_neg (nI_nle (by omega) (by omega)), if_neg (nI_nle (by omega) (by omega))]
          obtain ⟨b1, b2⟩ := rm_rem4 d2 (r := 0) (by omega)
          obtain ⟨c1, c2⟩ := m_count b2 (x := 6) (i := 6) rfl (by decide)
          have eq : aConfirm (aT A 3 (pre ++ t)) = aCount (aRem (aT A 3 (pre ++ t)) 4 0) 6 := by
            unfold aConfirm
            rw [if_neg q4]
          obtain ⟨f1, f2⟩ := fin _ (by rw [eq]; exact c2)
          exact ⟨⟨v0, d1, b1, c1, f1⟩, f2⟩
      · rw [if_neg q, if_neg q, List.filter_cons_of_neg (by rw [decide_eq_true_eq]; exact q), List.filter_cons_of_pos (by rw [decide_eq_true_eq]; exact q)]
        obtain ⟨f1, f2⟩ := ih (pre ++ [r]) k g A h (by rw [List.append_assoc]; exact hV) hT (by omega)
        rw [len_push] at f1 f2
        rw [List.append_assoc] at f2
        exact ⟨⟨v0, f1⟩, f2⟩
theorem m_arrives (h : RM g A) : sx4_arrives g ∧ RM (fx4_arrives g) (aOverdue (aArrive A)) := by
  have hl := len3 h
  exact m_arr_L (A.1 14) (A.2 3) [] kfu g A h rfl rfl (by unfold kfu; omega)
end MOD2
