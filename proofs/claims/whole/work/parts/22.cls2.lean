/-! the class does what the abstract station does: the beginning of a tick -/
section CLS2
variable {S : St} {A : Ab}
theorem c_delV_L (V : List kRow) (T : Int32) : ∀ (l2 : List kRow) (i k : Nat) (S : St) (A : Ab), RC S A → A.2 2 = V → A.1 14 = T → WI A → V.drop i = l2 → i ≤ V.length → l2.length < k → sx1_deliverVerdicts_L2 k (nI i) S ∧ RC (fx1_deliverVerdicts_L2 k (nI i) S) (aT (aTellL A (l2.filter (fun r => decide (r 0 = T)))) 2 (V.filter (fun r => decide (¬ r 0 = T)))) := by
  intro l2
  induction l2 with
  | nil =>
    intro i k S A h hV hT w e hi hk
    subst hV
    have h0 := rc_t2 h
    have hl := h0.2.1
    have := kdropn e
    cases k with
    | zero => omega
    | succ k =>
      simp only [fx1_deliverVerdicts_L2, sx1_deliverVerdicts_L2, bnd]
      rw [g2_count h0, if_pos (nI_le (by omega) (by omega)), if_pos (nI_le (by omega) (by omega)), rc_tick h, hT]
      obtain ⟨a1, a2⟩ := g2_remof kTab2 h0 T
      exact ⟨a1, rc_p2 h a2⟩
  | cons r t ih =>
    intro i k S A h hV hT w e hi hk
    subst hV
    have h0 := rc_t2 h
    have hl := h0.2.1
    obtain ⟨h1, h2, h3⟩ := kdrop e
    cases k with
    | zero => omega
    | succ k =>
      simp only [List.length_cons] at hk
      simp only [fx1_deliverVerdicts_L2, sx1_deliverVerdicts_L2, bnd]
      rw [g2_count h0, if_neg (nI_ge (by omega) (by omega)), if_neg (nI_ge (by omega) (by omega)), g2_get kTab2 h0 h1 (x := 0) (c := 0) rfl (by decide), rc_tick h, hT, nI_1, h2]
      have okv := w.2.2.2.2.2 _ (getD_mem h1)
      by_cases q : r 0 = T
      · rw [if_pos q, if_pos q, List.filter_cons_of_pos (by rw [decide_eq_true_eq]; exact q)]
        obtain ⟨a1, a2⟩ := c_deliver h h1 w.2.2.2.2.1 okv
        rw [h2] at a2 okv
        have s1 := st_tells (A := A) (n := r 1) (c := r 2) okv.2
        obtain ⟨b1, b2⟩ := ih (i + 1) k _ _ a2 (tells_n (by decide)) ((s1.2 14 (by unfold kFx; omega)).trans hT) (s1.1 w) h3 (by omega) (by omega)
        exact ⟨⟨a1, b1⟩, b2⟩
      · rw [if_neg q, if_neg q, List.filter_cons_of_neg (by rw [decide_eq_true_eq]; exact q)]
        exact ih (i + 1) k S A h rfl hT w h3 (by omega) (by omega)
theorem c_delV (h : RC S A) (w : WI A) : sx1_deliverVerdicts S ∧ RC (fx1_deliverVerdicts S) (aDeliver A) := by
  have hl := (rc_t2 h).2.1
  exact c_delV_L (A.2 2) (A.1 14) (A.2 2) 0 kfu S A h rfl rfl w rfl (Nat.zero_le _) (by unfold kfu; omega)
theorem nI_z {n : Nat} (h : n < 2 ^ 31) : nI n = 0 ↔ n = 0 := by
  rw [← nI_0, nI_eq h (by decide)]
theorem c_confirm (h : RC S A) (w : WI A) : sx1_confirmOldest S ∧ RC (fx1_confirmOldest S) (aConfirm A) := by
  have h0 := rc_t4 h
  have hl := h0.2.1
  unfold sx1_confirmOldest fx1_confirmOldest aConfirm
  simp only [bnd]
  rw [g2_count h0]
  by_cases q : (A.2 4).length = 0
  · rw [if_pos q, q, nI_0, if_pos rfl, if_pos rfl]
    exact ⟨trivial, c_raise h (k := 3) rfl (by decide) w.2.2.1⟩
  · rw [if_neg q, if_neg fun z => q ((nI_z (by omega)).mp z), if_neg fun z => q ((nI_z (by omega)).mp z)]
    obtain ⟨a1, a2⟩ := g2_rem kTab4 h0 (r := 0) (by omega)
    exact ⟨a1, rc_count (rc_p4 h a2) (x := 6) (i := 6) rfl (by decide)⟩
theorem c_fill_L (V : List kRow) (T : Int32) : ∀ (l2 : List kRow) (i k : Nat) (S : St) (A : Ab), RC S A → A.2 3 = V → A.1 14 = T → WI A → V.drop i = l2 → i ≤ V.length → l2.length < k → sx1_fillBin_L2 k (nI i) S ∧ RC (fx1_fillBin_L2 k (nI i) S) (aT (aConfL A (l2.filter (fun r => decide (r 0 = T)))) 3 (V.filter (fun r => decide (¬ r 0 = T)))) := by
  intro l2
  induction l2 with
  | nil =>
    intro i k S A h hV hT w e hi hk
    subst hV
    have h0 := rc_t3 h
    have hl := h0.2.1
    have := kdropn e
    cases k with
    | zero => omega
    | succ k =>
      simp only [fx1_fillBin_L2, sx1_fillBin_L2, bnd]
      rw [g2_count h0, if_pos (nI_le (by omega) (by omega)), if_pos (nI_le (by omega) (by omega)), rc_tick h, hT]
      obtain ⟨a1, a2⟩ := g2_remof kTab3 h0 T
      exact ⟨a1, rc_p3 h a2⟩
  | cons r t ih =>
    intro i k S A h hV hT w e hi hk
    subst hV
    have h0 := rc_t3 h
    have hl := h0.2.1
    obtain ⟨h1, h2, h3⟩ := kdrop e
    cases k with
    | zero => omega
    | succ k =>
      simp only [List.length_cons] at hk
      simp only [fx1_fillBin_L2, sx1_fillBin_L2, bnd]
      rw [g2_count h0, if_neg (nI_ge (by omega) (by omega)), if_neg (nI_ge (by omega) (by omega)), g2_get kTab3 h0 h1 (x := 0) (c := 0) rfl (by decide), rc_tick h, hT, nI_1, h2]
      by_cases q : r 0 = T
      · rw [if_pos q, if_pos q, List.filter_cons_of_pos (by rw [decide_eq_true_eq]; exact q)]
        obtain ⟨a1, a2⟩ := c_confirm h w
        have s1 := st_confirm (A := A)
        obtain ⟨b1, b2⟩ := ih (i + 1) k _ _ a2 (confirm_n (by decide)) ((s1.2 14 (by unfold kFx; omega)).trans hT) (s1.1 w) h3 (by omega) (by omega)
        exact ⟨⟨a1, b1⟩, b2⟩
      · rw [if_neg q, if_neg q, List.filter_cons_of_neg (by rw [decide_eq_true_eq]; exact q)]
        exact ih (i + 1) k S A h rfl hT w h3 (by omega) (by omega)
theorem c_fill (h : RC S A) (w : WI A) : sx1_fillBin S ∧ RC (fx1_fillBin S) (aArrive A) := by
  have hl := (rc_t3 h).2.1
  exact c_fill_L (A.2 3) (A.1 14) (A.2 3) 0 kfu S A h rfl rfl w rfl (Nat.zero_le _) (by unfold kfu; omega)
theorem alarmL_len : ∀ (x y : List kRow) {A : Ab}, x.length = y.length → aAlarmL A x = aAlarmL A y := by
  intro x
  induction x with
  | nil =>
    intro y A h
    cases y with
    | nil => rfl
    | cons b t => cases h
  | cons a x ih =>
    intro y A h
    cases y with
    | nil => cases h
    | cons b t => exact ih t (by simpa using h)
theorem alarm_T {l : List kRow} {j k : Nat} : aAlarm (aT A j l) k = aT (aAlarm A k) j l := by
  unfold aAlarm
  show (if A.1 16 = 0 then _ else _) = aT (if A.1 16 = 0 then _ else _) j l
  split <;> rfl
theorem aT_aT {l l' : List kRow} {j : Nat} : aT (aT A j l) j l' = aT A j l' := by
  unfold aT
  refine Prod.ext rfl (funext fun k => ?_)
  show va_up (va_up A.2 j l) j l' k = va_up A.2 j l' k
  unfold va_up
  split <;> rfl
theorem aT_self {j : Nat} : aT A j (A.2 j) = A := by
  unfold aT
  refine Prod.ext rfl (funext fun k => ?_)
  show va_up A.2 j (A.2 j) k = A.2 k
  unfold va_up
  split
  · rename_i q; rw [q]
  · rfl
theorem c_close_L (l : List kRow) (T : Int32) (hC : l.length ≤ 101) : ∀ (i k : Nat) (S : St) (A : Ab) (t : List kRow), RC S (aT A 4 (l.take i ++ t)) → A.1 14 = T → WI A → i ≤ l.length → i < k → sx1_closeOverdueExpectations_L10 k (nI i - 1) S ∧ RC (fx1_closeOverdueExpectations_L10 k (nI i - 1) S) (aT (aAlarmL A ((l.take i).filter (fun r => decide (¬ T ≤ r 0)))) 4 ((l.take i).filter (fun r => decide (T ≤ r 0)) ++ t)) := by
  intro i
  induction i with
  | zero =>
    intro k S A t h hT w hi hk
    cases k with
    | zero => omega
    | succ k =>
      simp only [fx1_closeOverdueExpectations_L10, sx1_closeOverdueExpectations_L10, bnd]
      rw [nI_neg1, if_pos (by decide), if_pos (by decide)]
      exact ⟨trivial, h⟩
  | succ i ih =>
    intro k S A t h hT w hi hk
    have h0 := rc_t4 h
    rw [aT_same] at h0
    have hlen : i < (l.take (i + 1) ++ t).length := by rw [List.length_append, List.length_take]; omega
    have e1 : l.getD i kz = l[i] := by rw [List.getD_eq_getElem?_getD, List.getElem?_eq_getElem (by omega)]; rfl
    cases k with
    | zero => omega
    | succ k =>
      simp only [fx1_closeOverdueExpectations_L10, sx1_closeOverdueExpectations_L10, bnd]
      rw [nI_pred, if_neg (nI_pos (by omega)), if_neg (nI_pos (by omega)), rc_tick h, show (aT A 4 (l.take (i + 1) ++ t)).1 14 = A.1 14 from rfl, hT, g2_get kTab4 h0 hlen (x := 0) (c := 0) rfl (by decide), take_getD (by omega), e1, show nI i + (-1) = nI i - 1 from (Int32.sub_eq_add_neg _ _).symm]
      rw [List.take_succ_eq_append_getElem (show i < l.length by omega), List.filter_append, List.filter_append, List.append_assoc]
      by_cases q : T ≤ l[i] 0
      · rw [if_pos q, if_pos q, List.filter_cons_of_neg (l := []) (p := fun r : kRow => decide (¬ T ≤ r 0)) (by rw [decide_eq_true_eq]; exact fun z => z q), List.filter_nil, List.append_nil, List.filter_cons_of_pos (l := []) (p := fun r : kRow => decide (T ≤ r 0)) (by rw [decide_eq_true_eq]; exact q)]
        rw [List.take_succ_eq_append_getElem (show i < l.length by omega), List.append_assoc] at h
        exact ih k S A _ h hT w (by omega) (by omega)
      · rw [if_neg q, if_neg q, List.filter_cons_of_pos (l := []) (p := fun r : kRow => decide (¬ T ≤ r 0)) (by rw [decide_eq_true_eq]; exact q), List.filter_nil, List.filter_cons_of_neg (l := []) (p := fun r : kRow => decide (T ≤ r 0)) (by rw [decide_eq_true_eq]; exact q), List.filter_nil, List.nil_append]
        obtain ⟨a1, a2⟩ := g2_rem kTab4 h0 hlen
        rw [take_erase (by omega)] at a2
        have b1 := rc_p4 h a2
        rw [aT_aT] at b1
        have b2 := c_raise b1 (x := 2) (k := 2) rfl (by decide) w.2.2.1
        rw [alarm_T] at b2
        have s1 := st_alarm (A := A) (k := 2) (by decide)
        obtain ⟨d1, d2⟩ := ih k _ _ t b2 ((s1.2 14 (by unfold kFx; omega)).trans hT) (s1.1 w) (by omega) (by omega)
        refine ⟨⟨a1, d1⟩, ?_⟩
        rw [alarmL_len (_ ++ [_]) (l[i] :: (l.take i).filter (fun r => decide (¬ T ≤ r 0))) (by rw [List.length_append, List.length_cons, List.length_nil, List.length_cons])]
        exact d2
theorem c_close (h : RC S A) (w : WI A) : sx1_closeOverdueExpectations S ∧ RC (fx1_closeOverdueExpectations S) (aOverdue A) := by
  have h0 := rc_t4 h
  have hl := h0.2.1
  have z := c_close_L (A.2 4) (A.1 14) hl (A.2 4).length kfu S A [] (by rw [List.take_length, List.append_nil, aT_self]; exact h) rfl w (Nat.le_refl _) (by unfold kfu; omega)
  rw [List.take_length, List.append_nil, ← g2_count (w := 1) (rm := 101) (n := 101) h0] at z
  exact z
end CLS2
