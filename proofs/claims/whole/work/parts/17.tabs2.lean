/-! the class's tables as lists: rows that come and go -/
section KTU
variable {w rm : Int32} {n W C : Nat} {T : Tb} {l : List kRow}
theorem kRw_congr {f : Nat → Int32} {b W : Nat} {u : Nat → Nat} {l l' : List kRow} (h : kRw f b W u l) (hl : l'.length = l.length) (e : ∀ r c, r < l.length → c < W → l'.getD r kz (u c) = l.getD r kz (u c)) : kRw f b W u l' := fun r c hr hc => by
  rw [e r c (by omega) hc]
  exact h r c (by omega) hc
theorem kTT_congr {l' : List kRow} (h : kTT W C T l) (hl : l'.length = l.length) (e : ∀ r c, r < l.length → c < W → l'.getD r kz c = l.getD r kz c) : kTT W C T l' := ⟨by rw [hl]; exact h.1, by rw [hl]; exact h.2.1, kRw_congr h.2.2 hl e⟩
theorem len_push (l : List kRow) (v : kRow) : (l ++ [v]).length = l.length + 1 := by
  rw [List.length_append, List.length_cons, List.length_nil]
theorem set_push {l : List kRow} {v v' : kRow} : (l ++ [v]).set l.length v' = l ++ [v'] := by
  rw [List.set_append_right _ _ (Nat.le_refl _), Nat.sub_self]
  rfl
theorem get_push {l : List kRow} {v : kRow} : (l ++ [v]).getD l.length kz = v := by
  rw [getD_push, if_neg (Nat.lt_irrefl _), if_pos rfl]
theorem g2_add_L (hk : kTab w rm n W C) {x : Int32} : ∀ (d i k : Nat) (T : Tb) (v : kRow), i + d = W → d < k → kTT W C T (l ++ [v]) → sx2_addRow_L37 w rm n k x (nI l.length) (nI i) T ∧ (fx2_addRow_L37 w rm n k x (nI l.length) (nI i) T).1 = nI l.length ∧ kTT W C (fx2_addRow_L37 w rm n k x (nI l.length) (nI i) T).2 (l ++ [fun c => if i ≤ c then 0 else v c]) := by
  have hC := hk.2.2.2.2.2.2
  have hW := hk.2.2.2.2.2.1
  have hw := hk.1
  intro d
  induction d with
  | zero =>
    intro i k T v h hn hT
    cases k with
    | zero => omega
    | succ k =>
      simp only [fx2_addRow_L37, sx2_addRow_L37]
      rw [hw, if_pos (nI_le (by omega) (by omega)), if_pos (nI_le (by omega) (by omega))]
      refine ⟨trivial, rfl, kTT_congr hT (by rw [len_push, len_push]) fun r c hr hc => ?_⟩
      rw [getD_push, getD_push]
      by_cases q : r < l.length
      · rw [if_pos q, if_pos q]
      · rw [if_neg q, if_neg q]
        by_cases q2 : r = l.length
        · rw [if_pos q2, if_pos q2, if_neg (by omega)]
        · rw [if_neg q2, if_neg q2]
  | succ d ih =>
    intro i k T v h hn hT
    cases k with
    | zero => omega
    | succ k =>
      simp only [fx2_addRow_L37, sx2_addRow_L37, bnd]
      rw [if_neg (by rw [hw]; exact nI_ge (by omega) (by omega)), if_neg (by rw [hw]; exact nI_ge (by omega) (by omega)), nI_1]
      have h5 := g2_put hk hT (r := l.length) (by rw [len_push]; omega) (x := nI i) (c := i) rfl (by omega) 0
      rw [get_push, set_push] at h5
      obtain ⟨a1, a2, a3⟩ := ih (i + 1) k _ _ (by omega) (by omega) h5
      refine ⟨a1, a2, kTT_congr a3 (by rw [len_push, len_push]) fun r c hr hc => ?_⟩
      rw [getD_push, getD_push]
      by_cases q : r < l.length
      · rw [if_pos q, if_pos q]
      · rw [if_neg q, if_neg q]
        by_cases q2 : r = l.length
        · rw [if_pos q2, if_pos q2]
          show (if i ≤ c then 0 else v c) = if i + 1 ≤ c then 0 else if c = i then 0 else v c
          by_cases q3 : i ≤ c
          · rw [if_pos q3]
            by_cases q4 : c = i
            · rw [if_neg (by omega), if_pos q4]
            · rw [if_pos (by omega)]
          · rw [if_neg q3, if_neg (by omega), if_neg (by omega)]
        · rw [if_neg q2, if_neg q2]
theorem g2_add (hk : kTab w rm n W C) (hT : kTT W C T l) (hl : l.length < C) (x : Int32) : sx2_addRow w rm n T x ∧ (fx2_addRow w rm n T x).1 = nI l.length ∧ kTT W C (fx2_addRow w rm n T x).2 (l ++ [upd kz 0 x]) := by
  have hC := hk.2.2.2.2.2.2
  have hW := hk.2.2.2.2.2.1
  have hW0 := hk.2.2.2.2.1
  have hrm := hk.2.1
  have h1 : T.1 < rm := by rw [hT.1, hrm]; exact nI_lt hl (by omega)
  have h2 : kTT W C (T.1 + 1, T.2) (l ++ [fun c => T.2 (0 + W * l.length + c)]) := by
    refine ⟨by rw [len_push]; show T.1 + 1 = _; rw [hT.1, nI_1], by rw [len_push]; omega, kRw_push hT.2.2 fun c hc => rfl⟩
  unfold fx2_addRow sx2_addRow
  rw [if_pos h1, if_pos h1]
  have h5 := g2_put hk h2 (r := l.length) (by rw [len_push]; omega) (x := 0) (c := 0) rfl hW0 x
  rw [get_push, set_push] at h5
  simp only [bnd]
  rw [show nI l.length = T.1 from hT.1.symm] at h5
  have h6 := g2_add_L hk (x := x) (l := l) (W - 1) 1 kfu _ _ (by omega) (by unfold kfu; omega) h5
  rw [← hT.1] at h6
  obtain ⟨a1, a2, a3⟩ := h6
  rw [show nI 1 = (1 : Int32) from rfl] at a1 a2 a3
  refine ⟨a1, by rw [← hT.1]; exact a2, kTT_congr a3 (by rw [len_push, len_push]) fun r c hr hc => ?_⟩
  rw [getD_push, getD_push]
  by_cases q : r < l.length
  · rw [if_pos q, if_pos q]
  · rw [if_neg q, if_neg q]
    by_cases q2 : r = l.length
    · rw [if_pos q2, if_pos q2]
      show (if c = 0 then x else 0) = if 1 ≤ c then 0 else if c = 0 then x else _
      by_cases q3 : c = 0
      · rw [if_pos q3, if_neg (by omega), if_pos q3]
      · rw [if_neg q3, if_pos (by omega)]
    · rw [if_neg q2, if_neg q2]
theorem g2_rem_L (hk : kTab w rm n W C) {x : Int32} {m lo : Nat} {f : Nat → Int32} (hm : m < C) : ∀ (d j k : Nat), j + d = W * m → d < k → lo ≤ j → sx2_removeRow_L30 w rm n k x (nI j) (nI m, kShift f lo j W) ∧ fx2_removeRow_L30 w rm n k x (nI j) (nI m, kShift f lo j W) = (nI m, kShift f lo (W * m) W) := by
  obtain ⟨rfl, rfl, hn, h9, h0, h10, h11⟩ := hk
  have h8 : W * (m + 1) ≤ W * C := Nat.mul_le_mul_left W hm
  rw [Nat.mul_succ] at h8
  have h7 : m * W = W * m := Nat.mul_comm m W
  intro d
  induction d with
  | zero =>
    intro j k h hn hlo
    cases k with
    | zero => omega
    | succ k =>
      simp only [fx2_removeRow_L30, sx2_removeRow_L30]
      rw [nI_mul, h7, if_pos (nI_le (by omega) (by omega)), if_pos (nI_le (by omega) (by omega)), show j = W * m by omega]
      exact ⟨trivial, rfl⟩
  | succ d ih =>
    intro j k h hn hlo
    cases k with
    | zero => omega
    | succ k =>
      obtain ⟨a1, a2⟩ := ih (j + 1) k (by omega) (by omega) (by omega)
      have e1 := kShift_step (f := f) hlo (show j < j + 1 by omega) h0
      simp only [fx2_removeRow_L30, sx2_removeRow_L30]
      rw [nI_mul, h7, if_neg (nI_ge (by omega) (by omega)), if_neg (nI_ge (by omega) (by omega)), nI_add, if_neg (nI_ge (by omega) (by omega)), if_neg (nI_ge (by omega) (by omega)), nI_clamp (by omega), nI_clamp (by omega), e1, nI_1]
      exact ⟨⟨vp_in_nI (by omega) (by omega), vp_in_nI (by omega) (by omega), a1⟩, a2⟩
theorem g2_rem (hk : kTab w rm n W C) (hT : kTT W C T l) {r : Nat} (hr : r < l.length) : sx2_removeRow w rm n T (nI r) ∧ kTT W C (fx2_removeRow w rm n T (nI r)) (l.eraseIdx r) := by
  have hC := hk.2.2.2.2.2.2
  have hW := hk.2.2.2.2.2.1
  have hw := hk.1
  have hn := hk.2.2.1
  have h9 := hk.2.2.2.1
  have hl := hT.2.1
  have h1 : W * r ≤ W * (l.length - 1) := Nat.mul_le_mul_left W (by omega)
  have h2 : W * (l.length - 1) ≤ W * C := Nat.mul_le_mul_left W (by omega)
  have e1 : T.1 - 1 = nI (l.length - 1) := by
    rw [hT.1, show l.length = (l.length - 1) + 1 by omega, nI_pred]
    rfl
  have e2 : (T.1 - 1, T.2) = (nI (l.length - 1), kShift T.2 (W * r) (W * r) W) := by rw [e1, kShift_0]
  unfold fx2_removeRow sx2_removeRow
  have h3 : nI r < T.1 := by rw [hT.1]; exact nI_lt hr (by omega)
  rw [if_neg (nI_pos (by omega)), if_neg (nI_pos (by omega)), if_pos h3, if_pos h3, hw, nI_mul, Nat.mul_comm r W, e2]
  obtain ⟨a1, a2⟩ := g2_rem_L hk (x := nI r) (f := T.2) (lo := W * r) (m := l.length - 1) (by omega) (W * (l.length - 1) - W * r) (W * r) kfu (by omega) (by unfold kfu; omega) (Nat.le_refl _)
  rw [hw] at a1 a2
  refine ⟨a1, ?_⟩
  rw [a2]
  refine ⟨by rw [List.length_eraseIdx, if_pos hr], by rw [List.length_eraseIdx, if_pos hr]; omega, ?_⟩
  have h4 := kRw_erase hT.2.2 hr
  rw [Nat.zero_add, Nat.zero_add] at h4
  exact h4
theorem take_erase {l t : List kRow} {i : Nat} (h : i < l.length) : (l.take (i + 1) ++ t).eraseIdx i = l.take i ++ t := by
  have e : (l.take i).length = i := by rw [List.length_take]; omega
  rw [List.take_succ_eq_append_getElem h, List.append_assoc, List.eraseIdx_append_of_length_le (by omega), e, Nat.sub_self]
  rfl
theorem take_getD {l t : List kRow} {i : Nat} (h : i < l.length) : (l.take (i + 1) ++ t).getD i kz = l.getD i kz := by
  rw [List.getD_eq_getElem?_getD, List.getD_eq_getElem?_getD, List.getElem?_append_left (by rw [List.length_take]; omega), List.getElem?_take, if_pos (by omega)]
theorem g2_remof_L (hk : kTab w rm n W C) {x : Int32} (hl : l.length ≤ C) : ∀ (i k : Nat) (T : Tb) (t : List kRow), i ≤ l.length → i < k → kTT W C T (l.take i ++ t) → sx2_removeRowsOf_L7 w rm n k x (nI i - 1) T ∧ kTT W C (fx2_removeRowsOf_L7 w rm n k x (nI i - 1) T) ((l.take i).filter (fun r => decide (¬ r 0 = x)) ++ t) := by
  have hC := hk.2.2.2.2.2.2
  have hW0 := hk.2.2.2.2.1
  intro i
  induction i with
  | zero =>
    intro k T t hi hn hT
    cases k with
    | zero => omega
    | succ k =>
      simp only [fx2_removeRowsOf_L7, sx2_removeRowsOf_L7]
      rw [nI_neg1, if_pos (by decide), if_pos (by decide)]
      exact ⟨trivial, hT⟩
  | succ i ih =>
    intro k T t hi hn hT
    cases k with
    | zero => omega
    | succ k =>
      have hlen : i < (l.take (i + 1) ++ t).length := by rw [List.length_append, List.length_take]; omega
      have e1 : l.getD i kz = l[i] := by rw [List.getD_eq_getElem?_getD, List.getElem?_eq_getElem (by omega)]; rfl
      simp only [fx2_removeRowsOf_L7, sx2_removeRowsOf_L7, bnd]
      rw [nI_pred, if_neg (nI_pos (by omega)), if_neg (nI_pos (by omega)), g2_get hk hT hlen (x := 0) (c := 0) rfl hW0, take_getD (by omega), show nI i + (-1) = nI i - 1 from (Int32.sub_eq_add_neg _ _).symm]
      rw [List.take_succ_eq_append_getElem (show i < l.length by omega), List.filter_append, List.append_assoc]
      by_cases q : l.getD i kz 0 = x
      · rw [if_pos q, if_pos q]
        obtain ⟨b1, b2⟩ := g2_rem hk hT hlen
        rw [take_erase (by omega)] at b2
        obtain ⟨a1, a2⟩ := ih k _ t (by omega) (by omega) b2
        rw [e1] at q
        refine ⟨⟨b1, a1⟩, ?_⟩
        rw [List.filter_cons_of_neg (by rw [decide_eq_true_eq]; exact fun z => z q)]
        exact a2
      · rw [if_neg q, if_neg q]
        rw [List.take_succ_eq_append_getElem (show i < l.length by omega), List.append_assoc] at hT
        obtain ⟨a1, a2⟩ := ih k _ _ (by omega) (by omega) hT
        rw [e1] at q
        refine ⟨a1, ?_⟩
        rw [List.filter_cons_of_pos (by rw [decide_eq_true_eq]; exact q)]
        exact a2
theorem g2_remof (hk : kTab w rm n W C) (hT : kTT W C T l) (x : Int32) : sx2_removeRowsOf w rm n T x ∧ kTT W C (fx2_removeRowsOf w rm n T x) (l.filter (fun r => decide (¬ r 0 = x))) := by
  have hC := hk.2.2.2.2.2.2
  have hl := hT.2.1
  have h := g2_remof_L hk (x := x) hl l.length kfu T [] (Nat.le_refl _) (by unfold kfu; omega) (by rw [List.take_length, List.append_nil]; exact hT)
  rw [List.take_length, List.append_nil, ← hT.1] at h
  exact h
end KTU
