/-! the class's tables as lists -/
def kTab (w rm : Int32) (n W C : Nat) : Prop := w = nI W ∧ rm = nI C ∧ n = W * C ∧ n ≤ 900 ∧ 0 < W ∧ W ≤ 10 ∧ C ≤ 300
theorem kTab0 : kTab 4 20 80 4 20 := ⟨rfl, rfl, rfl, by decide, by decide, by decide, by decide⟩
theorem kTab1 : kTab 6 35 210 6 35 := ⟨rfl, rfl, rfl, by decide, by decide, by decide, by decide⟩
theorem kTab2 : kTab 4 200 800 4 200 := ⟨rfl, rfl, rfl, by decide, by decide, by decide, by decide⟩
theorem kTab3 : kTab 1 50 50 1 50 := ⟨rfl, rfl, rfl, by decide, by decide, by decide, by decide⟩
theorem kTab4 : kTab 1 101 101 1 101 := ⟨rfl, rfl, rfl, by decide, by decide, by decide, by decide⟩
def kTT (W C : Nat) (T : Tb) (l : List kRow) : Prop := T.1 = nI l.length ∧ l.length ≤ C ∧ kRw T.2 0 W id l
section KTT
variable {w rm : Int32} {n W C : Nat} {T : Tb} {l : List kRow}
theorem g2_count (hT : kTT W C T l) : fx2_count w rm n T = nI l.length := hT.1
theorem g2_get (hk : kTab w rm n W C) (hT : kTT W C T l) {r : Nat} (hr : r < l.length) {x : Int32} {c : Nat} (hx : x = nI c) (hc : c < W) : fx2_get w rm n T (nI r) x = l.getD r kz c := by
  obtain ⟨rfl, rfl, hn, h9, h0, h10, h11⟩ := hk
  subst hx
  have h1 : W * r + c < W * C := idx_lt (Nat.lt_of_lt_of_le hr hT.2.1) hc
  have h2 : r * W + c = W * r + c := by rw [Nat.mul_comm]
  unfold fx2_get
  rw [nI_mul, nI_add, h2, if_neg (nI_pos (by omega)), if_neg (nI_ge (by omega) (by omega)), nI_clamp (by omega)]
  have h3 := hT.2.2 r c hr hc
  rw [Nat.zero_add] at h3
  exact h3
theorem g2_put (hk : kTab w rm n W C) (hT : kTT W C T l) {r : Nat} (hr : r < l.length) {x : Int32} {c : Nat} (hx : x = nI c) (hc : c < W) (v : Int32) : kTT W C (fx2_put w rm n T (nI r) x v) (l.set r (upd (l.getD r kz) c v)) := by
  obtain ⟨rfl, rfl, hn, h9, h0, h10, h11⟩ := hk
  subst hx
  have h1 : W * r + c < W * C := idx_lt (Nat.lt_of_lt_of_le hr hT.2.1) hc
  have h2 : r * W + c = W * r + c := by rw [Nat.mul_comm]
  unfold fx2_put
  rw [nI_mul, nI_add, h2, if_neg (nI_pos (by omega)), if_neg (nI_ge (by omega) (by omega)), nI_clamp (by omega)]
  refine ⟨by rw [List.length_set]; exact hT.1, by rw [List.length_set]; exact hT.2.1, ?_⟩
  have h3 := kRw_put (v := v) hT.2.2 hr hc (fun x _ e => e)
  rw [Nat.zero_add] at h3
  exact h3
/-- the first row with this first cell, from i on -/
def kff : List kRow → Nat → Int32 → Int32
  | [], _, _ => -1
  | r :: t, i, x => if r 0 = x then nI i else kff t (i + 1) x
theorem g2_find_L (hk : kTab w rm n W C) (hT : kTT W C T l) (x : Int32) : ∀ (l2 : List kRow) (i k : Nat), l.drop i = l2 → i ≤ l.length → l2.length < k → sx2_find_L2 w rm n T k x (nI i) ∧ fx2_find_L2 w rm n T k x (nI i) = kff l2 i x := by
  have hC := hk.2.2.2.2.2.2
  have hl := hT.2.1
  intro l2
  induction l2 with
  | nil =>
    intro i k h hi hn
    have := kdropn h
    cases k with
    | zero => omega
    | succ k =>
      simp only [fx2_find_L2, sx2_find_L2]
      rw [hT.1, if_pos (nI_le (by omega) (by omega)), if_pos (nI_le (by omega) (by omega))]
      exact ⟨trivial, rfl⟩
  | cons r t ih =>
    intro i k h hi hn
    obtain ⟨h1, h2, h3⟩ := kdrop h
    cases k with
    | zero => omega
    | succ k =>
      simp only [List.length_cons] at hn
      have ih := ih (i + 1) k h3 (by omega) (by omega)
      simp only [fx2_find_L2, sx2_find_L2, kff]
      rw [hT.1, if_neg (nI_ge (by omega) (by omega)), if_neg (nI_ge (by omega) (by omega)), g2_get hk hT h1 (x := 0) (c := 0) rfl hk.2.2.2.2.1, h2, nI_1]
      by_cases q : r 0 = x
      · rw [if_pos q, if_pos q, if_pos q]
        exact ⟨trivial, rfl⟩
      · rw [if_neg q, if_neg q, if_neg q]
        exact ih
theorem g2_find (hk : kTab w rm n W C) (hT : kTT W C T l) (x : Int32) : sx2_find w rm n T x ∧ fx2_find w rm n T x = kff l 0 x := by
  have hC := hk.2.2.2.2.2.2
  have hl := hT.2.1
  exact g2_find_L hk hT x l 0 kfu rfl (Nat.zero_le _) (by unfold kfu; omega)
/-- whether a row is below in a column -/
def kbel : List kRow → Nat → Int32 → Int32
  | [], _, _ => 0
  | r :: t, c, b => if b ≤ r c then kbel t c b else 1
theorem g2_below_L (hk : kTab w rm n W C) (hT : kTT W C T l) {x : Int32} {c : Nat} (hx : x = nI c) (hc : c < W) (b : Int32) : ∀ (l2 : List kRow) (i k : Nat), l.drop i = l2 → i ≤ l.length → l2.length < k → sx2_hasBelow_L2 w rm n T k x b (nI i) ∧ fx2_hasBelow_L2 w rm n T k x b (nI i) = kbel l2 c b := by
  have hC := hk.2.2.2.2.2.2
  have hl := hT.2.1
  intro l2
  induction l2 with
  | nil =>
    intro i k h hi hn
    have := kdropn h
    cases k with
    | zero => omega
    | succ k =>
      simp only [fx2_hasBelow_L2, sx2_hasBelow_L2]
      rw [hT.1, if_pos (nI_le (by omega) (by omega)), if_pos (nI_le (by omega) (by omega))]
      exact ⟨trivial, rfl⟩
  | cons r t ih =>
    intro i k h hi hn
    obtain ⟨h1, h2, h3⟩ := kdrop h
    cases k with
    | zero => omega
    | succ k =>
      simp only [List.length_cons] at hn
      have ih := ih (i + 1) k h3 (by omega) (by omega)
      simp only [fx2_hasBelow_L2, sx2_hasBelow_L2, kbel]
      rw [hT.1, if_neg (nI_ge (by omega) (by omega)), if_neg (nI_ge (by omega) (by omega)), g2_get hk hT h1 hx hc, h2, nI_1]
      by_cases q : b ≤ r c
      · rw [if_pos q, if_pos q, if_pos q]
        exact ih
      · rw [if_neg q, if_neg q, if_neg q]
        exact ⟨trivial, rfl⟩
theorem g2_below (hk : kTab w rm n W C) (hT : kTT W C T l) {x : Int32} {c : Nat} (hx : x = nI c) (hc : c < W) (b : Int32) : sx2_hasBelow w rm n T x b ∧ fx2_hasBelow w rm n T x b = kbel l c b := by
  have hC := hk.2.2.2.2.2.2
  have hl := hT.2.1
  exact g2_below_L hk hT hx hc b l 0 kfu rfl (Nat.zero_le _) (by unfold kfu; omega)
theorem set_map {f : kRow → kRow} {i : Nat} {l : List kRow} (h : i < l.length) : ((l.take i).map f ++ l.drop i).set i (f (((l.take i).map f ++ l.drop i).getD i kz)) = (l.take (i + 1)).map f ++ l.drop (i + 1) := by
  have e1 : ((l.take i).map f).length = i := by rw [List.length_map, List.length_take]; omega
  have e2 := List.drop_eq_getElem_cons h
  rw [List.set_append_right _ _ (by omega), e1, Nat.sub_self, e2, List.set_cons_zero, List.getD_eq_getElem?_getD, List.getElem?_append_right (by omega), e1, Nat.sub_self, List.take_succ_eq_append_getElem h, List.map_append, List.append_assoc]
  rfl
theorem g2_incr_L (hk : kTab w rm n W C) {x : Int32} {c : Nat} (hx : x = nI c) (hc : c < W) (hl : l.length ≤ C) : ∀ (d i k : Nat) (T : Tb), i + d = l.length → d < k → kTT W C T ((l.take i).map (fun r => upd r c (r c + 1)) ++ l.drop i) → sx2_increase_L2 w rm n k x (nI i) T ∧ kTT W C (fx2_increase_L2 w rm n k x (nI i) T) (l.map (fun r => upd r c (r c + 1))) := by
  have hC := hk.2.2.2.2.2.2
  intro d
  induction d with
  | zero =>
    intro i k T h hn hT
    have e1 : l.take i = l := List.take_of_length_le (by omega)
    have e2 : l.drop i = [] := List.drop_eq_nil_of_le (by omega)
    rw [e1, e2, List.append_nil] at hT
    have e3 : T.1 = nI l.length := by rw [hT.1, List.length_map]
    cases k with
    | zero => omega
    | succ k =>
      simp only [fx2_increase_L2, sx2_increase_L2]
      rw [e3, if_pos (nI_le (by omega) (by omega)), if_pos (nI_le (by omega) (by omega))]
      exact ⟨trivial, hT⟩
  | succ d ih =>
    intro i k T h hn hT
    have e4 : ((l.take i).map (fun r => upd r c (r c + 1)) ++ l.drop i).length = l.length := by
      rw [List.length_append, List.length_map, List.length_take, List.length_drop]; omega
    have e3 : T.1 = nI l.length := by rw [hT.1, e4]
    cases k with
    | zero => omega
    | succ k =>
      simp only [fx2_increase_L2, sx2_increase_L2, bnd]
      rw [e3, if_neg (nI_ge (by omega) (by omega)), if_neg (nI_ge (by omega) (by omega)), g2_get hk hT (r := i) (by omega) hx hc, nI_1]
      have h5 := g2_put hk hT (r := i) (by omega) hx hc ((((l.take i).map (fun r => upd r c (r c + 1)) ++ l.drop i).getD i kz) c + 1)
      rw [set_map (f := fun r => upd r c (r c + 1)) (by omega)] at h5
      exact ih (i + 1) k _ (by omega) (by omega) h5
theorem g2_incr (hk : kTab w rm n W C) (hT : kTT W C T l) {x : Int32} {c : Nat} (hx : x = nI c) (hc : c < W) : sx2_increase w rm n T x ∧ kTT W C (fx2_increase w rm n T x) (l.map (fun r => upd r c (r c + 1))) := by
  have hC := hk.2.2.2.2.2.2
  have hl := hT.2.1
  exact g2_incr_L hk hx hc hl l.length 0 kfu T (by omega) (by unfold kfu; omega) (by rw [List.take_zero]; exact hT)
end KTT
