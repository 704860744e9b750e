/-! the model's row as scalars and lists -/
def mN (k : Nat) : Nat := if k = 0 then 36 else if k = 1 then 117 else if k = 2 then 478 else if k = 3 then 959 else 1040
def mB (k : Nat) : Nat := if k = 0 then 37 else if k = 1 then 118 else if k = 2 then 479 else if k = 3 then 960 else 1041
def mW (k : Nat) : Nat := if k = 0 then 4 else if k = 1 then 6 else if k = 2 then 4 else 1
def mC (k : Nat) : Nat := if k = 0 then 20 else if k = 1 then 60 else if k = 2 then 120 else if k = 3 then 80 else 160
def mU (k c : Nat) : Nat := if k = 2 then (if c = 3 then 0 else c + 1) else c
def RM (g : Nat → Int32) (A : Ab) : Prop := (∀ i, kSc i → g i = A.1 i) ∧ ∀ k, k < 5 → g (mN k) = nI (A.2 k).length ∧ (A.2 k).length ≤ mC k ∧ kRw g (mB k) (mW k) (mU k) (A.2 k)
theorem k5 {k : Nat} (h : k < 5) : k = 0 ∨ k = 1 ∨ k = 2 ∨ k = 3 ∨ k = 4 := by omega
theorem mLay {k : Nat} (hk : k < 5) : mB k = mN k + 1 ∧ mB k + mW k * mC k ≤ 1201 ∧ 36 ≤ mN k ∧ mN k < 1201 ∧ 0 < mW k ∧ mW k ≤ 6 ∧ mC k ≤ 160 := by
  rcases k5 hk with rfl | rfl | rfl | rfl | rfl <;> decide
theorem mSep {k j : Nat} (hk : k < 5) (hj : j < 5) (h : j ≠ k) : mB k + mW k * mC k ≤ mN j ∨ mB j + mW j * mC j ≤ mN k := by
  rcases k5 hk with rfl | rfl | rfl | rfl | rfl <;> rcases k5 hj with rfl | rfl | rfl | rfl | rfl <;> first | exact absurd rfl h | exact Or.inl (by decide) | exact Or.inr (by decide)
theorem mU_inj {k c c' : Nat} (hk : k < 5) (hc : c < mW k) (hc' : c' < mW k) (h : mU k c' = mU k c) : c' = c := by
  unfold mU at h
  by_cases q : k = 2
  · subst q
    have e : mW 2 = 4 := rfl
    rw [if_pos rfl, if_pos rfl] at h
    by_cases q1 : c' = 3
    · rw [if_pos q1] at h
      by_cases q2 : c = 3
      · omega
      · rw [if_neg q2] at h; omega
    · rw [if_neg q1] at h
      by_cases q2 : c = 3
      · rw [if_pos q2] at h; omega
      · rw [if_neg q2] at h; omega
  · rw [if_neg q, if_neg q] at h
    exact h
section MOD
variable {g g' : Nat → Int32} {A : Ab} {k r c : Nat}
theorem rm_upd {l : List kRow} (hk : k < 5) (h : RM g A) (eo : ∀ x, (x < mN k ∨ mB k + mW k * mC k ≤ x) → g' x = g x) (hn : g' (mN k) = nI l.length) (hl : l.length ≤ mC k) (hr : kRw g' (mB k) (mW k) (mU k) l) : RM g' (aT A k l) := by
  obtain ⟨l1, l2, l3, l4, l5, l6, l7⟩ := mLay hk
  refine ⟨fun i hi => ?_, fun j hj => ?_⟩
  · rw [eo i (by unfold kSc at hi; omega)]
    exact h.1 i hi
  · by_cases q : j = k
    · subst q
      rw [aT_same]
      exact ⟨hn, hl, hr⟩
    · rw [aT_ne _ _ q]
      obtain ⟨h1, h2, h3⟩ := h.2 j hj
      obtain ⟨m1, m2, m3, m4, m5, m6, m7⟩ := mLay hj
      have hs := mSep hk hj q
      have hm : mW j * (A.2 j).length ≤ mW j * mC j := Nat.mul_le_mul_left _ h2
      exact ⟨by rw [eo _ (by omega)]; exact h1, h2, kRw_frame h3 fun x hx hx' => eo x (by omega)⟩
theorem rm_cnt (h : RM g A) (hk : k < 5) : g (mN k) = nI (A.2 k).length := (h.2 k hk).1
theorem rm_len (h : RM g A) (hk : k < 5) : (A.2 k).length ≤ mC k := (h.2 k hk).2.1
theorem rm_get (h : RM g A) (hk : k < 5) (hr : r < (A.2 k).length) (hc : c < mW k) : g (mB k + mW k * r + c) = (A.2 k).getD r kz (mU k c) := (h.2 k hk).2.2 r c hr hc
theorem rm_g (h : RM g A) {i : Nat} (hi : kSc i) : g i = A.1 i := h.1 i hi
theorem rm_put (h : RM g A) (hk : k < 5) (hr : r < (A.2 k).length) (hc : c < mW k) (v : Int32) : RM (upd g (mB k + mW k * r + c) v) (aPutR A k r (mU k c) v) := by
  obtain ⟨l1, l2, l3, l4, l5, l6, l7⟩ := mLay hk
  obtain ⟨h1, h2, h3⟩ := h.2 k hk
  have hx := idx_lt hr hc
  have hm : mW k * (A.2 k).length ≤ mW k * mC k := Nat.mul_le_mul_left _ h2
  refine rm_upd hk h (fun x hx' => upd_ne _ _ (by omega)) ?_ (by rw [List.length_set]; exact h2) (kRw_put h3 hr hc fun x hx' e => mU_inj hk hc hx' e)
  rw [upd_ne _ _ (by omega), List.length_set]
  exact h1
theorem rm_set (h : RM g A) {i : Nat} (hi : kSc i) (v : Int32) : RM (upd g i v) (aS A i v) := by
  refine ⟨fun j hj => ?_, fun j hj => ?_⟩
  · show (if j = i then v else g j) = if j = i then v else A.1 j
    by_cases q : j = i
    · rw [if_pos q, if_pos q]
    · rw [if_neg q, if_neg q]; exact h.1 j hj
  · obtain ⟨m1, m2, m3, m4, m5, m6, m7⟩ := mLay hj
    obtain ⟨h1, h2, h3⟩ := h.2 j hj
    have hm : mW j * (A.2 j).length ≤ mW j * mC j := Nat.mul_le_mul_left _ h2
    unfold kSc at hi
    exact ⟨by rw [upd_ne _ _ (by omega)]; exact h1, h2, kRw_frame h3 fun x hx hx' => by
      have hx2 : x < mB j + mW j * (A.2 j).length := hx'
      exact upd_ne _ _ (by omega)⟩
theorem rm_ext {B : Ab} (h : RM g A) (e1 : ∀ i, kSc i → B.1 i = A.1 i) (e2 : ∀ k, k < 5 → B.2 k = A.2 k) : RM g B := ⟨fun i hi => by rw [e1 i hi]; exact h.1 i hi, fun k hk => by rw [e2 k hk]; exact h.2 k hk⟩
theorem rm_bey (h : RM g A) (hk : k < 5) {x : Nat} (h1 : mB k + mW k * (A.2 k).length ≤ x) (h2 : x < mB k + mW k * mC k) (v : Int32) : RM (upd g x v) A := by
  obtain ⟨l1, l2, l3, l4, l5, l6, l7⟩ := mLay hk
  obtain ⟨a1, a2, a3⟩ := h.2 k hk
  have := rm_upd (l := A.2 k) (g' := upd g x v) hk h (fun y hy => upd_ne _ _ (by omega)) (by rw [upd_ne _ _ (by omega)]; exact a1) a2 (kRw_frame a3 fun y hy hy' => upd_ne _ _ (by omega))
  rw [aT_self] at this
  exact this
theorem rm_push (h : RM g A) (hk : k < 5) (hl : (A.2 k).length < mC k) {v : kRow} (e : ∀ c, c < mW k → g (mB k + mW k * (A.2 k).length + c) = v (mU k c)) : RM (upd g (mN k) (g (mN k) + 1)) (aPush A k v) := by
  obtain ⟨l1, l2, l3, l4, l5, l6, l7⟩ := mLay hk
  obtain ⟨a1, a2, a3⟩ := h.2 k hk
  refine rm_upd hk h (fun x hx => upd_ne _ _ (by omega)) ?_ (by rw [len_push]; omega) (kRw_frame (kRw_push a3 e) fun y hy hy' => upd_ne _ _ (by omega))
  rw [upd_same, a1, nI_1, len_push]
theorem m_rem_L {N B W m lo : Nat} {f : Nat → Int32} {x4 : Int32} (hN : N < lo) (hm : f N = nI m) (hb : B + W * m + W ≤ 1203) (hW : 0 < W) : ∀ (d j k : Nat), j + d = B + W * m → d < k → lo ≤ j → sx4_drops_L18 k (nI N) (nI B) (nI W) x4 (nI j) (kShift f lo j W) ∧ fx4_drops_L18 k (nI N) (nI B) (nI W) x4 (nI j) (kShift f lo j W) = kShift f lo (B + W * m) W := by
  have hg : ∀ j, kShift f lo j W N = nI m := fun j => by
    unfold kShift
    rw [if_neg (by omega)]
    exact hm
  intro d
  induction d with
  | zero =>
    intro j k h hn hlo
    cases k with
    | zero => omega
    | succ k =>
      simp only [fx4_drops_L18, sx4_drops_L18]
      rw [nI_clamp (show N < 2 ^ 31 by omega), hg, nI_mul, nI_add, if_pos (nI_le (by omega) (by omega)), if_pos (nI_le (by omega) (by omega)), show j = B + W * m by omega]
      exact ⟨⟨vp_in_nI (by omega) (by omega), trivial⟩, rfl⟩
  | succ d ih =>
    intro j k h hn hlo
    cases k with
    | zero => omega
    | succ k =>
      obtain ⟨a1, a2⟩ := ih (j + 1) k (by omega) (by omega) (by omega)
      have e1 := kShift_step (f := f) hlo (show j < j + 1 by omega) hW
      simp only [fx4_drops_L18, sx4_drops_L18, bnd]
      rw [nI_clamp (show N < 2 ^ 31 by omega), hg, nI_mul, nI_add, if_neg (nI_ge (by omega) (by omega)), if_neg (nI_ge (by omega) (by omega)), nI_add, nI_clamp (show j < 2 ^ 31 by omega), nI_clamp (show j + W < 2 ^ 31 by omega), e1, nI_1]
      exact ⟨⟨vp_in_nI (by omega) (by omega), vp_in_nI (by omega) (by omega), vp_in_nI (by omega) (by omega), a1⟩, a2⟩
theorem rm_rem (h : RM g A) (hk : k < 5) (hr : r < (A.2 k).length) : sx4_drops g (nI (mN k)) (nI (mB k)) (nI (mW k)) (nI r) ∧ RM (fx4_drops g (nI (mN k)) (nI (mB k)) (nI (mW k)) (nI r)) (aRem A k r) := by
  obtain ⟨l1, l2, l3, l4, l5, l6, l7⟩ := mLay hk
  obtain ⟨a1, a2, a3⟩ := h.2 k hk
  have hm : mW k * (A.2 k).length ≤ mW k * mC k := Nat.mul_le_mul_left _ a2
  have hr' : mW k * r ≤ mW k * ((A.2 k).length - 1) := Nat.mul_le_mul_left _ (by omega)
  have e3 : mW k * (A.2 k).length = mW k * ((A.2 k).length - 1) + mW k := by
    rw [← Nat.mul_succ]
    congr 1
    omega
  have e1 : g (mN k) - 1 = nI ((A.2 k).length - 1) := by
    rw [a1, show (A.2 k).length = ((A.2 k).length - 1) + 1 by omega, nI_pred]
    rfl
  have z := m_rem_L (f := upd g (mN k) (nI ((A.2 k).length - 1))) (N := mN k) (B := mB k) (W := mW k) (m := (A.2 k).length - 1) (lo := mB k + mW k * r) (x4 := nI r) (by omega) (upd_same _ _ _) (by omega) l5 (mW k * ((A.2 k).length - 1) - mW k * r) (mB k + mW k * r) kfu (by omega) (by unfold kfu; omega) (Nat.le_refl _)
  rw [kShift_0] at z
  unfold sx4_drops fx4_drops
  simp only [bnd]
  rw [nI_clamp (show mN k < 2 ^ 31 by omega), e1, nI_mul, nI_add]
  refine ⟨⟨vp_in_nI (by omega) (by omega), vp_in_nI (by omega) (by omega), z.1⟩, ?_⟩
  rw [z.2]
  refine rm_upd hk h (fun x hx => ?_) ?_ (by rw [List.length_eraseIdx, if_pos hr]; omega) ?_
  · unfold kShift
    rw [if_neg (by omega)]
    exact upd_ne _ _ (by omega)
  · unfold kShift
    rw [if_neg (by omega), upd_same, List.length_eraseIdx, if_pos hr]
  · exact kRw_erase (kRw_frame a3 fun x hx hx' => upd_ne _ _ (by omega)) hr
theorem rm_rem0 (h : RM g A) (hr : r < (A.2 0).length) : sx4_drops g 36 37 4 (nI r) ∧ RM (fx4_drops g 36 37 4 (nI r)) (aRem A 0 r) := rm_rem h (k := 0) (by decide) hr
theorem rm_rem1 (h : RM g A) (hr : r < (A.2 1).length) : sx4_drops g 117 118 6 (nI r) ∧ RM (fx4_drops g 117 118 6 (nI r)) (aRem A 1 r) := rm_rem h (k := 1) (by decide) hr
theorem rm_rem2 (h : RM g A) (hr : r < (A.2 2).length) : sx4_drops g 478 479 4 (nI r) ∧ RM (fx4_drops g 478 479 4 (nI r)) (aRem A 2 r) := rm_rem h (k := 2) (by decide) hr
theorem rm_rem3 (h : RM g A) (hr : r < (A.2 3).length) : sx4_drops g 959 960 1 (nI r) ∧ RM (fx4_drops g 959 960 1 (nI r)) (aRem A 3 r) := rm_rem h (k := 3) (by decide) hr
theorem rm_rem4 (h : RM g A) (hr : r < (A.2 4).length) : sx4_drops g 1040 1041 1 (nI r) ∧ RM (fx4_drops g 1040 1041 1 (nI r)) (aRem A 4 r) := rm_rem h (k := 4) (by decide) hr
theorem e_th (r c : Nat) : fx4_thing (nI r) (nI c) = nI (37 + 4 * r + c) := by
  unfold fx4_thing
  show (nI 37 + (nI 4 * nI r)) + nI c = _
  rw [nI_mul, nI_add, nI_add]
theorem e_en (r c : Nat) : fx4_entry (nI r) (nI c) = nI (118 + 6 * r + c) := by
  unfold fx4_entry
  show (nI 118 + (nI 6 * nI r)) + nI c = _
  rw [nI_mul, nI_add, nI_add]
theorem len0 (h : RM g A) : (A.2 0).length ≤ 20 := rm_len h (k := 0) (by decide)
theorem len1 (h : RM g A) : (A.2 1).length ≤ 60 := rm_len h (k := 1) (by decide)
theorem len2 (h : RM g A) : (A.2 2).length ≤ 120 := rm_len h (k := 2) (by decide)
theorem len3 (h : RM g A) : (A.2 3).length ≤ 80 := rm_len h (k := 3) (by decide)
theorem len4 (h : RM g A) : (A.2 4).length ≤ 160 := rm_len h (k := 4) (by decide)
theorem cnt0 (h : RM g A) : g 36 = nI (A.2 0).length := rm_cnt h (k := 0) (by decide)
theorem cnt1 (h : RM g A) : g 117 = nI (A.2 1).length := rm_cnt h (k := 1) (by decide)
theorem cnt2 (h : RM g A) : g 478 = nI (A.2 2).length := rm_cnt h (k := 2) (by decide)
theorem cnt3 (h : RM g A) : g 959 = nI (A.2 3).length := rm_cnt h (k := 3) (by decide)
theorem cnt4 (h : RM g A) : g 1040 = nI (A.2 4).length := rm_cnt h (k := 4) (by decide)
theorem p_th {x : Int32} (hr : r < 20) (hx : x = nI c) (hc : c < 4) : vp_in (fx4_thing (nI r) x) 1203 := by
  subst hx
  rw [e_th]
  exact vp_in_nI (by omega) (by omega)
theorem p_en {x : Int32} (hr : r < 60) (hx : x = nI c) (hc : c < 6) : vp_in (fx4_entry (nI r) x) 1203 := by
  subst hx
  rw [e_en]
  exact vp_in_nI (by omega) (by omega)
theorem g_th (h : RM g A) {x : Int32} (hr : r < (A.2 0).length) (hx : x = nI c) (hc : c < 4) : g (fx4_thing (nI r) x).toNatClampNeg = kItm A r c := by
  have := len0 h
  subst hx
  rw [e_th, nI_clamp (by omega)]
  exact rm_get h (k := 0) (by decide) hr hc
theorem g_en (h : RM g A) {x : Int32} (hr : r < (A.2 1).length) (hx : x = nI c) (hc : c < 6) : g (fx4_entry (nI r) x).toNatClampNeg = kRec A r c := by
  have := len1 h
  subst hx
  rw [e_en, nI_clamp (by omega)]
  exact rm_get h (k := 1) (by decide) hr hc
theorem s_th (h : RM g A) {x : Int32} (hr : r < (A.2 0).length) (hx : x = nI c) (hc : c < 4) (v : Int32) : RM (upd g (fx4_thing (nI r) x).toNatClampNeg v) (aPutR A 0 r c v) := by
  have := len0 h
  subst hx
  rw [e_th, nI_clamp (by omega)]
  exact rm_put h (k := 0) (by decide) hr hc v
theorem s_en (h : RM g A) {x : Int32} (hr : r < (A.2 1).length) (hx : x = nI c) (hc : c < 6) (v : Int32) : RM (upd g (fx4_entry (nI r) x).toNatClampNeg v) (aPutR A 1 r c v) := by
  have := len1 h
  subst hx
  rw [e_en, nI_clamp (by omega)]
  exact rm_put h (k := 1) (by decide) hr hc v
theorem upd_id (g : Nat → Int32) (x : Nat) : upd g x (g x) = g := by
  funext y
  show (if y = x then g x else g y) = g y
  by_cases q : y = x
  · rw [if_pos q, q]
  · rw [if_neg q]
theorem m_count (h : RM g A) {x : Int32} {i : Nat} (hx : x = nI i) (hi : i < 18) : sx4_counts g x ∧ RM (fx4_counts g x) (aCount A i) := by
  subst hx
  have e : (17 : Int32) + nI i = nI (17 + i) := nI_add 17 i
  unfold sx4_counts fx4_counts
  simp only [bnd]
  rw [e, nI_clamp (by omega)]
  refine ⟨⟨vp_in_nI (by omega) (by omega), vp_in_nI (by omega) (by omega)⟩, ?_⟩
  have hs : kSc (17 + i) := Or.inl (by omega)
  rw [rm_g h hs]
  exact rm_set h hs _
theorem m_alarm (h : RM g A) {x : Int32} {k : Nat} (hx : x = nI k) (hk : k < 5) : sx4_alarms g x ∧ RM (fx4_alarms g x) (aAlarm A k) := by
  subst hx
  have e : (13 : Int32) + nI k = nI (13 + k) := nI_add 13 k
  obtain ⟨a1, a2⟩ := m_count h (x := (13 : Int32) + nI k) (i := 13 + k) e (by omega)
  have e16 : (aCount A (13 + k)).1 16 = A.1 16 := upd_ne _ _ (by omega)
  unfold sx4_alarms fx4_alarms aAlarm
  simp only [bnd]
  rw [upd_id]
  generalize fx4_counts g (13 + nI k) = g1 at a2 ⊢
  refine ⟨a1, ?_⟩
  rw [rm_g a2 (i := 16) (Or.inl (by decide)), e16]
  by_cases q : A.1 16 = 0
  · rw [if_pos q, if_pos q]
    exact rm_set (rm_set a2 (i := 16) (Or.inl (by decide)) _) (i := 15) (Or.inl (by decide)) _
  · rw [if_neg q, if_neg q]
    exact rm_set a2 (i := 15) (Or.inl (by decide)) _
end MOD
