/-! the abstract station: scalars by the model's numbers, five lists of rows; how class and model show it -/
abbrev Ab : Type := (Nat → Int32) × (Nat → List kRow)
def aS (A : Ab) (i : Nat) (v : Int32) : Ab := (upd A.1 i v, A.2)
def aT (A : Ab) (k : Nat) (l : List kRow) : Ab := (A.1, va_up A.2 k l)
def aCount (A : Ab) (i : Nat) : Ab := aS A (17 + i) (A.1 (17 + i) + 1)
def aPutR (A : Ab) (k r c : Nat) (v : Int32) : Ab := aT A k ((A.2 k).set r (upd ((A.2 k).getD r kz) c v))
def aRem (A : Ab) (k r : Nat) : Ab := aT A k ((A.2 k).eraseIdx r)
def aPush (A : Ab) (k : Nat) (v : kRow) : Ab := aT A k (A.2 k ++ [v])
def kSc (i : Nat) : Prop := i < 36 ∨ i = 1201 ∨ i = 1202
/-- the class's scalars by the model's numbers -/
def scl (S : St) (i : Nat) : Int32 := if i < 7 then S 0 i else if i < 12 then S 1 (i - 7) else if i = 12 then S 3 4 else if i = 13 then S 3 3 else if i = 14 then S 3 0 else if i = 15 then S 3 1 else if i = 16 then S 3 2 else if i < 35 then S 2 (i - 17) else if i = 35 then S 3 5 else if i = 1201 then S 3 7 else S 3 6
def cW (k : Nat) : Nat := if k = 0 then 4 else if k = 1 then 6 else if k = 2 then 4 else 1
def cC (k : Nat) : Nat := if k = 0 then 20 else if k = 1 then 35 else if k = 2 then 200 else if k = 3 then 50 else 101
def RC (S : St) (A : Ab) : Prop := (∀ i, kSc i → scl S i = A.1 i) ∧ ∀ k, k < 5 → kTT (cW k) (cC k) (stT S k) (A.2 k)
theorem aT_same (A : Ab) (k : Nat) (l : List kRow) : (aT A k l).2 k = l := va_up_self _ _ _
theorem aT_ne (A : Ab) {k j : Nat} (l : List kRow) (h : j ≠ k) : (aT A k l).2 j = A.2 j := va_up_ne _ _ h
theorem upd_same (f : Nat → Int32) (k : Nat) (v : Int32) : upd f k v k = v := if_pos rfl
theorem upd_ne (f : Nat → Int32) {k j : Nat} (v : Int32) (h : j ≠ k) : upd f k v j = f j := if_neg h
theorem stT_va {S : St} {a k : Nat} {f : Nat → Int32} (ha : a < 3) : stT (va_up S a f) k = stT S k := by
  unfold stT
  rw [va_up_ne _ _ (show 3 ≠ a by omega), va_up_ne _ _ (show 4 + k ≠ a by omega)]
theorem stT_s3 {S : St} {i k : Nat} {v : Int32} (hi : i < 8) : stT (sset S 3 i v) k = stT S k := by
  unfold stT sset
  rw [va_up_self, va_up_ne _ _ (show 4 + k ≠ 3 by omega), upd_ne _ _ (show 8 + k ≠ i by omega)]
theorem stT_P {S : St} {k j : Nat} {T : Tb} : stT (stP S j T) k = if k = j then T else stT S k := by
  unfold stT stP sset
  by_cases q : k = j
  · subst q
    rw [if_pos rfl, va_up_self, va_up_ne _ _ (show 3 ≠ 4 + k by omega), va_up_self, upd_same]
  · rw [if_neg q, va_up_ne _ _ (show 3 ≠ 4 + j by omega), va_up_self, upd_ne _ _ (show 8 + k ≠ 8 + j by omega), va_up_ne _ _ (show 4 + k ≠ 4 + j by omega), va_up_ne _ _ (show 4 + k ≠ 3 by omega)]
theorem scl_P {S : St} {j : Nat} {T : Tb} {i : Nat} : scl (stP S j T) i = scl S i := by
  have h3 : ∀ a, a < 8 → stP S j T 3 a = S 3 a := fun a ha => by
    unfold stP sset
    rw [va_up_ne _ _ (show 3 ≠ 4 + j by omega), va_up_self, upd_ne _ _ (show a ≠ 8 + j by omega)]
  have h0 : ∀ a, a < 3 → stP S j T a = S a := fun a ha => by
    unfold stP sset
    rw [va_up_ne _ _ (show a ≠ 4 + j by omega), va_up_ne _ _ (show a ≠ 3 by omega)]
  unfold scl
  rw [h0 0 (by omega), h0 1 (by omega), h0 2 (by omega), h3 0 (by omega), h3 1 (by omega), h3 2 (by omega), h3 3 (by omega), h3 4 (by omega), h3 5 (by omega), h3 6 (by omega), h3 7 (by omega)]
theorem rc_tab {S : St} {A : Ab} (h : RC S A) {j : Nat} (hj : j < 5) {T : Tb} {l : List kRow} (hT : kTT (cW j) (cC j) T l) : RC (stP S j T) (aT A j l) := ⟨fun i hi => by rw [scl_P]; exact h.1 i hi, fun k hk => by
  rw [stT_P]
  by_cases q : k = j
  · subst q
    rw [if_pos rfl, aT_same]
    exact hT
  · rw [if_neg q, aT_ne _ _ q]
    exact h.2 k hk⟩
/-- which scalar of the class a number is -/
def s3n (a : Nat) : Nat := if a = 0 then 14 else if a = 1 then 15 else if a = 2 then 16 else if a = 3 then 13 else if a = 4 then 12 else if a = 5 then 35 else if a = 6 then 1202 else 1201
theorem scl_0 (S : St) {i : Nat} (h : i < 7) : scl S i = S 0 i := if_pos h
theorem scl_1 (S : St) {i : Nat} (h : i < 5) : scl S (7 + i) = S 1 i := by
  unfold scl
  rw [if_neg (by omega), if_pos (by omega), Nat.add_sub_cancel_left]
theorem scl_2 (S : St) {i : Nat} (h : i < 18) : scl S (17 + i) = S 2 i := by
  unfold scl
  rw [if_neg (by omega), if_neg (by omega), if_neg (by omega), if_neg (by omega), if_neg (by omega), if_neg (by omega), if_neg (by omega), if_pos (by omega), Nat.add_sub_cancel_left]
theorem a8 {a : Nat} (ha : a < 8) : a = 0 ∨ a = 1 ∨ a = 2 ∨ a = 3 ∨ a = 4 ∨ a = 5 ∨ a = 6 ∨ a = 7 := by omega
theorem scl_3 (S : St) {a : Nat} (h : a < 8) : scl S (s3n a) = S 3 a := by
  rcases a8 h with rfl | rfl | rfl | rfl | rfl | rfl | rfl | rfl <;> rfl
theorem s3n_ge {a : Nat} (h : a < 8) : (12 ≤ s3n a ∧ s3n a < 17) ∨ 35 ≤ s3n a := by
  rcases a8 h with rfl | rfl | rfl | rfl | rfl | rfl | rfl | rfl <;> decide
theorem s3n_sc {a : Nat} (h : a < 8) : kSc (s3n a) := by
  unfold kSc
  rcases a8 h with rfl | rfl | rfl | rfl | rfl | rfl | rfl | rfl <;> decide
theorem s3n_inj : ∀ a, a < 8 → ∀ b, b < 8 → s3n a = s3n b → a = b := by decide
theorem kSc_cases {i : Nat} (h : kSc i) : i < 7 ∨ (∃ j, j < 5 ∧ i = 7 + j) ∨ (∃ j, j < 18 ∧ i = 17 + j) ∨ ∃ a, a < 8 ∧ i = s3n a := by
  unfold kSc at h
  by_cases h1 : i < 7
  · exact Or.inl h1
  by_cases h2 : i < 12
  · exact Or.inr (Or.inl ⟨i - 7, by omega, by omega⟩)
  by_cases h3 : 17 ≤ i ∧ i < 35
  · exact Or.inr (Or.inr (Or.inl ⟨i - 17, by omega, by omega⟩))
  refine Or.inr (Or.inr (Or.inr ?_))
  rcases (show i = 14 ∨ i = 15 ∨ i = 16 ∨ i = 13 ∨ i = 12 ∨ i = 35 ∨ i = 1202 ∨ i = 1201 by omega) with rfl | rfl | rfl | rfl | rfl | rfl | rfl | rfl
  · exact ⟨0, by decide, rfl⟩
  · exact ⟨1, by decide, rfl⟩
  · exact ⟨2, by decide, rfl⟩
  · exact ⟨3, by decide, rfl⟩
  · exact ⟨4, by decide, rfl⟩
  · exact ⟨5, by decide, rfl⟩
  · exact ⟨6, by decide, rfl⟩
  · exact ⟨7, by decide, rfl⟩
theorem scl_s3 {S : St} {a : Nat} {v : Int32} (ha : a < 8) {i : Nat} (hi : kSc i) : scl (sset S 3 a v) i = upd (scl S) (s3n a) v i := by
  have g := s3n_ge ha
  have e0 : ∀ b, b < 3 → sset S 3 a v b = S b := fun b hb => va_up_ne _ _ (by omega)
  rcases kSc_cases hi with h | ⟨j, h, rfl⟩ | ⟨j, h, rfl⟩ | ⟨b, h, rfl⟩
  · rw [upd_ne _ _ (by omega), scl_0 _ h, scl_0 _ h, e0 0 (by omega)]
  · rw [upd_ne _ _ (by omega), scl_1 _ h, scl_1 _ h, e0 1 (by omega)]
  · rw [upd_ne _ _ (by omega), scl_2 _ h, scl_2 _ h, e0 2 (by omega)]
  · rw [scl_3 _ h]
    show va_up S 3 (upd (S 3) a v) 3 b = if s3n b = s3n a then v else scl S (s3n b)
    rw [va_up_self, scl_3 _ h]
    show (if b = a then v else S 3 b) = _
    by_cases q : b = a
    · rw [if_pos q, if_pos (by rw [q])]
    · rw [if_neg q, if_neg fun z => q (s3n_inj b h a ha z)]
theorem rc_s3 {S : St} {A : Ab} (h : RC S A) {a : Nat} (ha : a < 8) (v : Int32) : RC (sset S 3 a v) (aS A (s3n a) v) := ⟨fun i hi => by
  rw [scl_s3 ha hi]
  show (if i = s3n a then v else scl S i) = if i = s3n a then v else A.1 i
  by_cases q : i = s3n a
  · rw [if_pos q, if_pos q]
  · rw [if_neg q, if_neg q]
    exact h.1 i hi, fun k hk => by rw [stT_s3 ha]; exact h.2 k hk⟩
theorem rc_s3g {S : St} {A : Ab} (h : RC S A) {a : Nat} (ha : a < 8) : S 3 a = A.1 (s3n a) := by
  rw [← h.1 (s3n a) (s3n_sc ha), scl_3 _ ha]
theorem scl_v0 {S : St} {f : Nat → Int32} {i : Nat} (hi : kSc i) : scl (va_up S 0 f) i = if i < 7 then f i else scl S i := by
  rcases kSc_cases hi with h | ⟨j, h, rfl⟩ | ⟨j, h, rfl⟩ | ⟨b, h, rfl⟩
  · rw [if_pos h, scl_0 _ h, va_up_self]
  · rw [if_neg (by omega), scl_1 _ h, scl_1 _ h, va_up_ne _ _ (by omega)]
  · rw [if_neg (by omega), scl_2 _ h, scl_2 _ h, va_up_ne _ _ (by omega)]
  · have g := s3n_ge h
    rw [if_neg (by omega), scl_3 _ h, scl_3 _ h, va_up_ne _ _ (by omega)]
theorem scl_v1 {S : St} {f : Nat → Int32} {i : Nat} (hi : kSc i) : scl (va_up S 1 f) i = if 7 ≤ i ∧ i < 12 then f (i - 7) else scl S i := by
  rcases kSc_cases hi with h | ⟨j, h, rfl⟩ | ⟨j, h, rfl⟩ | ⟨b, h, rfl⟩
  · rw [if_neg (by omega), scl_0 _ h, scl_0 _ h, va_up_ne _ _ (by omega)]
  · rw [if_pos (by omega), scl_1 _ h, va_up_self, Nat.add_sub_cancel_left]
  · rw [if_neg (by omega), scl_2 _ h, scl_2 _ h, va_up_ne _ _ (by omega)]
  · have g := s3n_ge h
    rw [if_neg (by omega), scl_3 _ h, scl_3 _ h, va_up_ne _ _ (by omega)]
theorem scl_v2 {S : St} {f : Nat → Int32} {i : Nat} (hi : kSc i) : scl (va_up S 2 f) i = if 17 ≤ i ∧ i < 35 then f (i - 17) else scl S i := by
  rcases kSc_cases hi with h | ⟨j, h, rfl⟩ | ⟨j, h, rfl⟩ | ⟨b, h, rfl⟩
  · rw [if_neg (by omega), scl_0 _ h, scl_0 _ h, va_up_ne _ _ (by omega)]
  · rw [if_neg (by omega), scl_1 _ h, scl_1 _ h, va_up_ne _ _ (by omega)]
  · rw [if_pos (by omega), scl_2 _ h, va_up_self, Nat.add_sub_cancel_left]
  · have g := s3n_ge h
    rw [if_neg (by omega), scl_3 _ h, scl_3 _ h, va_up_ne _ _ (by omega)]
theorem rc_setg {S : St} {A : Ab} (h : RC S A) {x : Int32} {i : Nat} (hx : x = nI i) (hi : i < 7) : fx1_setting S x = A.1 i := by
  subst hx
  unfold fx1_setting
  rw [if_neg (nI_pos (by omega)), if_neg (nI_ge hi (by omega)), nI_clamp (by omega), ← h.1 i (Or.inl (by omega))]
  unfold scl
  rw [if_pos hi]
theorem rc_placeg {S : St} {A : Ab} (h : RC S A) {x : Int32} {i : Nat} (hx : x = nI i) (hi : i < 5) : fx1_place S x = A.1 (7 + i) := by
  subst hx
  unfold fx1_place
  rw [if_neg (nI_pos (by omega)), if_neg (nI_ge hi (by omega)), nI_clamp (by omega), ← h.1 (7 + i) (Or.inl (by omega))]
  unfold scl
  rw [if_neg (by omega), if_pos (by omega), Nat.add_sub_cancel_left]
theorem rc_counted {S : St} {A : Ab} (h : RC S A) {x : Int32} {i : Nat} (hx : x = nI i) (hi : i < 18) : fx1_counted S x = A.1 (17 + i) := by
  subst hx
  unfold fx1_counted
  rw [if_neg (nI_pos (by omega)), if_neg (nI_ge hi (by omega)), nI_clamp (by omega), ← h.1 (17 + i) (Or.inl (by omega))]
  unfold scl
  rw [if_neg (by omega), if_neg (by omega), if_neg (by omega), if_neg (by omega), if_neg (by omega), if_neg (by omega), if_neg (by omega), if_pos (by omega), Nat.add_sub_cancel_left]
theorem rc_set {S : St} {A : Ab} (h : RC S A) {x : Int32} {i : Nat} (hx : x = nI i) (hi : i < 7) (v : Int32) : RC (fx1_putSetting S x v) (aS A i v) := by
  subst hx
  have e := h.1
  unfold fx1_putSetting
  rw [if_neg (nI_pos (by omega)), if_neg (nI_ge hi (by omega)), nI_clamp (by omega)]
  refine ⟨fun j hj => ?_, fun k hk => by rw [stT_va (by omega)]; exact h.2 k hk⟩
  rw [scl_v0 hj]
  show _ = if j = i then v else A.1 j
  rw [← e j hj]
  show (if j < 7 then (if j = i then v else S 0 j) else scl S j) = _
  by_cases q : j < 7
  · rw [if_pos q]
    by_cases q2 : j = i
    · rw [if_pos q2, if_pos q2]
    · rw [if_neg q2, if_neg q2]
      unfold scl
      rw [if_pos q]
  · rw [if_neg q, if_neg (by omega)]
theorem rc_place {S : St} {A : Ab} (h : RC S A) {x : Int32} {i : Nat} (hx : x = nI i) (hi : i < 5) (v : Int32) : RC (fx1_putPlace S x v) (aS A (7 + i) v) := by
  subst hx
  have e := h.1
  unfold fx1_putPlace
  rw [if_neg (nI_pos (by omega)), if_neg (nI_ge hi (by omega)), nI_clamp (by omega)]
  refine ⟨fun j hj => ?_, fun k hk => by rw [stT_va (by omega)]; exact h.2 k hk⟩
  rw [scl_v1 hj]
  show _ = if j = 7 + i then v else A.1 j
  rw [← e j hj]
  show (if 7 ≤ j ∧ j < 12 then (if j - 7 = i then v else S 1 (j - 7)) else scl S j) = _
  by_cases q : 7 ≤ j ∧ j < 12
  · rw [if_pos q]
    by_cases q2 : j = 7 + i
    · rw [if_pos q2, if_pos (by omega)]
    · rw [if_neg q2, if_neg (by omega)]
      unfold scl
      rw [if_neg (by omega), if_pos q.2]
  · rw [if_neg q, if_neg (by omega)]
theorem rc_count {S : St} {A : Ab} (h : RC S A) {x : Int32} {i : Nat} (hx : x = nI i) (hi : i < 18) : RC (fx1_count S x) (aCount A i) := by
  have e9 := rc_counted h hx hi
  subst hx
  have e := h.1
  unfold fx1_counted at e9
  unfold fx1_count
  rw [if_neg (nI_pos (by omega)), if_neg (nI_ge hi (by omega)), nI_clamp (by omega)] at e9
  rw [if_neg (nI_pos (by omega)), if_neg (nI_ge hi (by omega)), nI_clamp (by omega), e9]
  refine ⟨fun j hj => ?_, fun k hk => by rw [stT_va (by omega)]; exact h.2 k hk⟩
  rw [scl_v2 hj]
  show _ = if j = 17 + i then A.1 (17 + i) + 1 else A.1 j
  rw [← e j hj]
  show (if 17 ≤ j ∧ j < 35 then (if j - 17 = i then A.1 (17 + i) + 1 else S 2 (j - 17)) else scl S j) = _
  by_cases q : 17 ≤ j ∧ j < 35
  · rw [if_pos q]
    by_cases q2 : j = 17 + i
    · rw [if_pos q2, if_pos (by omega)]
    · rw [if_neg q2, if_neg (by omega)]
      unfold scl
      rw [if_neg (by omega), if_neg (by omega), if_neg (by omega), if_neg (by omega), if_neg (by omega), if_neg (by omega), if_neg (by omega), if_pos q.2]
  · rw [if_neg q, if_neg (by omega)]
