/-! the pure side: lists of rows, and the tables as lists -/
abbrev kRow : Type := Nat → Int32
def kz : kRow := fun _ => 0
theorem nI_mul (a b : Nat) : nI a * nI b = nI (a * b) := (Int32.ofNat_mul a b).symm
theorem nI_sub {a b : Nat} (h : b ≤ a) : nI a - nI b = nI (a - b) := by
  have e : nI a = nI (a - b) + nI b := by rw [nI_add, Nat.sub_add_cancel h]
  rw [e, Int32.add_sub_cancel]
theorem nI_m1 (a : Nat) : nI (a + 1) + (-1) = nI a := by
  rw [← nI_1 a, Int32.add_assoc, show (1 : Int32) + (-1) = 0 by decide, Int32.add_zero]
theorem nI_neg1 : nI 0 - 1 = -1 := by decide
theorem nI_ne {a : Nat} (h : a < 2 ^ 31) : nI a ≠ -1 := fun e => by
  have h1 := nI_toInt h
  rw [e] at h1
  have h2 : (-1 : Int32).toInt = -1 := by decide
  omega
theorem kdrop {l : List kRow} {i : Nat} {r : kRow} {t : List kRow} (h : l.drop i = r :: t) : i < l.length ∧ l.getD i kz = r ∧ l.drop (i + 1) = t := by
  have hi : i < l.length := Nat.not_le.mp fun q => by
    rw [List.drop_eq_nil_of_le q] at h
    cases h
  have h1 := List.drop_eq_getElem_cons hi
  rw [h] at h1
  injection h1 with h2 h3
  refine ⟨hi, ?_, h3.symm⟩
  rw [List.getD_eq_getElem?_getD, List.getElem?_eq_getElem hi, h2]
  rfl
theorem kdropn {l : List kRow} {i : Nat} (h : l.drop i = []) : l.length ≤ i := List.drop_eq_nil_iff.mp h
theorem idx_inj {W r r' c c' : Nat} (hc : c < W) (hc' : c' < W) (h : W * r + c = W * r' + c') : r = r' ∧ c = c' := by
  have h1 : (W * r + c) / W = r := by rw [Nat.mul_add_div (by omega), Nat.div_eq_of_lt hc, Nat.add_zero]
  have h2 : (W * r' + c') / W = r' := by rw [Nat.mul_add_div (by omega), Nat.div_eq_of_lt hc', Nat.add_zero]
  have h3 : r = r' := by rw [← h1, h, h2]
  subst h3
  exact ⟨rfl, by omega⟩
theorem idx_lt {W r n c : Nat} (hr : r < n) (hc : c < W) : W * r + c < W * n := by
  have h : W * (r + 1) ≤ W * n := Nat.mul_le_mul_left W hr
  rw [Nat.mul_succ] at h
  omega
/-- rows of W cells from b on, the columns named by u -/
def kRw (f : Nat → Int32) (b W : Nat) (u : Nat → Nat) (l : List kRow) : Prop := ∀ r c, r < l.length → c < W → f (b + W * r + c) = l.getD r kz (u c)
theorem kRw_frame {f g : Nat → Int32} {b W : Nat} {u : Nat → Nat} {l : List kRow} (h : kRw f b W u l) (e : ∀ x, b ≤ x → x < b + W * l.length → g x = f x) : kRw g b W u l := fun r c hr hc => by
  have := idx_lt hr hc
  rw [e _ (by omega) (by omega)]
  exact h r c hr hc
theorem getD_set {l : List kRow} {r r' : Nat} {v : kRow} (h : r < l.length) : (l.set r v).getD r' kz = if r' = r then v else l.getD r' kz := by
  rw [List.getD_eq_getElem?_getD, List.getD_eq_getElem?_getD, List.getElem?_set]
  by_cases q : r = r'
  · subst q
    rw [if_pos rfl, if_pos h, if_pos rfl]
    rfl
  · rw [if_neg q, if_neg fun z => q z.symm]
theorem getD_erase {l : List kRow} {k r : Nat} : (l.eraseIdx k).getD r kz = if r < k then l.getD r kz else l.getD (r + 1) kz := by
  rw [List.getD_eq_getElem?_getD, List.getD_eq_getElem?_getD, List.getD_eq_getElem?_getD, List.getElem?_eraseIdx]
  by_cases q : r < k
  · rw [if_pos q, if_pos q]
  · rw [if_neg q, if_neg q]
theorem getD_push {l : List kRow} {v : kRow} {r : Nat} : (l ++ [v]).getD r kz = if r < l.length then l.getD r kz else if r = l.length then v else kz := by
  rw [List.getD_eq_getElem?_getD, List.getD_eq_getElem?_getD, List.getElem?_append]
  by_cases q : r < l.length
  · rw [if_pos q, if_pos q]
  · rw [if_neg q, if_neg q]
    by_cases q2 : r = l.length
    · subst q2
      rw [if_pos rfl, Nat.sub_self]
      rfl
    · rw [if_neg q2, List.getElem?_eq_none (by simp only [List.length_cons, List.length_nil]; omega)]
      rfl
theorem kRw_put {f : Nat → Int32} {b W : Nat} {u : Nat → Nat} {l : List kRow} (h : kRw f b W u l) {r c : Nat} {v : Int32} (hr : r < l.length) (hc : c < W) (hu : ∀ x, x < W → u x = u c → x = c) : kRw (upd f (b + W * r + c) v) b W u (l.set r (upd (l.getD r kz) (u c) v)) := fun r' c' hr' hc' => by
  rw [List.length_set] at hr'
  rw [getD_set hr]
  show (if b + W * r' + c' = b + W * r + c then v else f (b + W * r' + c')) = _
  by_cases q : r' = r
  · subst q
    rw [if_pos rfl]
    show _ = if u c' = u c then v else l.getD r' kz (u c')
    by_cases q2 : c' = c
    · subst q2
      rw [if_pos rfl, if_pos rfl]
    · rw [if_neg (by omega), if_neg fun z => q2 (hu c' hc' z)]
      exact h r' c' hr' hc'
  · rw [if_neg q, if_neg fun z => q (idx_inj hc' hc (by omega)).1]
    exact h r' c' hr' hc'
theorem kRw_push {f : Nat → Int32} {b W : Nat} {u : Nat → Nat} {l : List kRow} {v : kRow} (h : kRw f b W u l) (e : ∀ c, c < W → f (b + W * l.length + c) = v (u c)) : kRw f b W u (l ++ [v]) := fun r c hr hc => by
  rw [List.length_append, List.length_cons, List.length_nil] at hr
  rw [getD_push]
  by_cases q : r < l.length
  · rw [if_pos q]
    exact h r c q hc
  · rw [if_neg q, if_pos (by omega), show r = l.length by omega]
    exact e c hc
/-- the rows behind one move up -/
def kShift (f : Nat → Int32) (lo hi W : Nat) : Nat → Int32 := fun x => if lo ≤ x ∧ x < hi then f (x + W) else f x
theorem kRw_erase {f : Nat → Int32} {b W : Nat} {u : Nat → Nat} {l : List kRow} {k : Nat} (h : kRw f b W u l) (hk : k < l.length) : kRw (kShift f (b + W * k) (b + W * (l.length - 1)) W) b W u (l.eraseIdx k) := fun r c hr hc => by
  rw [List.length_eraseIdx, if_pos hk] at hr
  rw [getD_erase]
  unfold kShift
  have h1 : W * r + c < W * (l.length - 1) := idx_lt hr hc
  by_cases q : r < k
  · have h2 : W * r + c < W * k := idx_lt q hc
    rw [if_pos q, if_neg (by omega)]
    exact h r c (by omega) hc
  · have h2 : W * k ≤ W * r := Nat.mul_le_mul_left W (by omega)
    rw [if_neg q, if_pos (by omega)]
    have h3 := h (r + 1) c (by omega) hc
    rw [Nat.mul_succ] at h3
    rw [← h3]
    congr 1
    omega
theorem kShift_step {f : Nat → Int32} {lo hi W j : Nat} (h1 : lo ≤ j) (h2 : j < hi) (hW : 0 < W) : upd (kShift f lo j W) j (kShift f lo j W (j + W)) = kShift f lo (j + 1) W := by
  funext x
  show (if x = j then kShift f lo j W (j + W) else kShift f lo j W x) = _
  unfold kShift
  by_cases q : x = j
  · subst q
    rw [if_pos rfl, if_neg (by omega), if_pos (by omega)]
  · rw [if_neg q]
    by_cases q2 : lo ≤ x ∧ x < j
    · rw [if_pos q2, if_pos (by omega)]
    · rw [if_neg q2, if_neg (by omega)]
theorem kShift_0 {f : Nat → Int32} {lo W : Nat} : kShift f lo lo W = f := by
  funext x
  unfold kShift
  rw [if_neg (by omega)]
