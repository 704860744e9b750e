/-! the model's saved rows -/
def HM (M : Md) (H : List Ab) : Prop := M.1 4 0 = nI H.length ∧ H.length ≤ 4 ∧ ∀ j A, H[j]? = some A → RM (fun x => M.1 1 (1203 * j + x)) A
theorem rm_cong {g g' : Nat → Int32} {A : Ab} (h : RM g A) (e : ∀ x, x < 1203 → g' x = g x) : RM g' A := by
  refine ⟨fun i hi => ?_, fun k hk => ?_⟩
  · rw [e i (by unfold kSc at hi; omega)]
    exact h.1 i hi
  · obtain ⟨m1, m2, m3, m4, m5, m6, m7⟩ := mLay hk
    obtain ⟨h1, h2, h3⟩ := h.2 k hk
    have hm : mW k * (A.2 k).length ≤ mW k * mC k := Nat.mul_le_mul_left _ h2
    exact ⟨by rw [e _ (by omega)]; exact h1, h2, kRw_frame h3 fun x hx hx' => e x (by omega)⟩
theorem up_up {α : Type} (f : Nat → α) (k : Nat) (u v : α) : va_up (va_up f k u) k v = va_up f k v := by
  funext j
  unfold va_up
  split <;> rfl
theorem up_id {α : Type} (f : Nat → α) (k : Nat) : va_up f k (f k) = f := by
  funext j
  unfold va_up
  split
  · rename_i q; rw [q]
  · rfl
theorem up_comm {α : Type} (f : Nat → α) {i j : Nat} (h : i ≠ j) (u v : α) : va_up (va_up f i u) j v = va_up (va_up f j v) i u := by
  funext k
  unfold va_up
  by_cases q : k = j
  · rw [if_pos q, if_neg (by omega), if_pos q]
  · rw [if_neg q, if_neg q]
theorem upd_upd (f : Nat → Int32) (k : Nat) (u v : Int32) : upd (upd f k u) k v = upd f k v := by
  funext j
  unfold upd
  split <;> rfl
section HMS
variable {M : Md}
theorem sv51 {n : Nat} (hn : n < 4) (h4 : M.1 4 0 = nI n) : ∀ (d i k : Nat) (P : Nat → Int32), i + d = 1203 → d < k → sx4_saves_L51 k (nI i) (va_up M.1 1 P, M.2) ∧ fx4_saves_L51 k (nI i) (va_up M.1 1 P, M.2) = (sset (va_up M.1 1 (fun x => if 1203 * n + i ≤ x ∧ x < 1203 * n + 1203 then M.1 0 (x - 1203 * n) else P x)) 4 0 (nI (n + 1)), M.2) := by
  have e4 : ∀ P, va_up M.1 1 P 4 0 = nI n := fun P => by rw [va_up_ne _ _ (by decide)]; exact h4
  intro d
  induction d with
  | zero =>
    intro i k P h hk
    cases k with
    | zero => omega
    | succ k =>
      have ep : (fun x => if 1203 * n + i ≤ x ∧ x < 1203 * n + 1203 then M.1 0 (x - 1203 * n) else P x) = P := by
        funext x
        rw [if_neg (by omega)]
      rw [ep, fx4_saves_L51, sx4_saves_L51, if_pos (show (1203 : Int32) ≤ nI i from nI_le (a := 1203) (by omega) (by omega)), if_pos (show (1203 : Int32) ≤ nI i from nI_le (a := 1203) (by omega) (by omega))]
      dsimp only
      rw [e4, nI_1]
      exact ⟨trivial, rfl⟩
  | succ d ih =>
    intro i k P h hk
    cases k with
    | zero => omega
    | succ k =>
      have ei : (1203 : Int32) * nI n + nI i = nI (1203 * n + i) := by
        show nI 1203 * nI n + nI i = _
        rw [nI_mul, nI_add]
      have e0 : va_up M.1 1 P 0 = M.1 0 := va_up_ne _ _ (by decide)
      have e1 : va_up M.1 1 P 1 = P := va_up_self _ _ _
      obtain ⟨a1, a2⟩ := ih (i + 1) k (upd P (1203 * n + i) (M.1 0 i)) (by omega) (by omega)
      rw [fx4_saves_L51, sx4_saves_L51, if_neg (show ¬ (1203 : Int32) ≤ nI i from nI_ge (b := 1203) (by omega) (by omega)), if_neg (show ¬ (1203 : Int32) ≤ nI i from nI_ge (b := 1203) (by omega) (by omega))]
      dsimp only
      rw [e4, e0, e1, ei, nI_clamp (show 1203 * n + i < 2 ^ 31 by omega), nI_clamp (show i < 2 ^ 31 by omega), nI_1, bnd_o (upd P (1203 * n + i) (M.1 0 i)), bnd_o (upd P (1203 * n + i) (M.1 0 i)), up_up]
      refine ⟨⟨vp_in_nI (by omega) (by omega), vp_in_nI (by omega) (by omega), a1⟩, a2.trans ?_⟩
      have ep : (fun x => if 1203 * n + (i + 1) ≤ x ∧ x < 1203 * n + 1203 then M.1 0 (x - 1203 * n) else upd P (1203 * n + i) (M.1 0 i) x) = (fun x => if 1203 * n + i ≤ x ∧ x < 1203 * n + 1203 then M.1 0 (x - 1203 * n) else P x) := by
        funext x
        by_cases q : x = 1203 * n + i
        · rw [if_neg (by omega), if_pos (by omega), q, upd_same, Nat.add_sub_cancel_left]
        · rw [upd_ne _ _ q]
          by_cases q2 : 1203 * n + i ≤ x ∧ x < 1203 * n + 1203
          · rw [if_pos q2, if_pos (by omega)]
          · rw [if_neg q2, if_neg (by omega)]
      rw [ep]
theorem sv10 (h4 : M.1 4 0 = nI 4) : ∀ (d i k : Nat) (P : Nat → Int32), i + d = 3609 → d < k → sx4_saves_L10 k (nI i) (va_up M.1 1 P, M.2) ∧ fx4_saves_L10 k (nI i) (va_up M.1 1 P, M.2) = (sset (va_up M.1 1 (fun x => if 3609 ≤ x ∧ x < 4812 then M.1 0 (x - 3609) else if i ≤ x ∧ x < 3609 then P (x + 1203) else P x)) 4 0 (nI 4), M.2) := by
  have e4 : ∀ P, va_up M.1 1 P 4 0 = nI 4 := fun P => by rw [va_up_ne _ _ (by decide)]; exact h4
  intro d
  induction d with
  | zero =>
    intro i k P h hk
    cases k with
    | zero => omega
    | succ k =>
      have ep : (fun x => if 3609 ≤ x ∧ x < 4812 then M.1 0 (x - 3609) else if i ≤ x ∧ x < 3609 then P (x + 1203) else P x) = (fun x => if 1203 * 3 + 0 ≤ x ∧ x < 1203 * 3 + 1203 then M.1 0 (x - 1203 * 3) else P x) := by
        funext x
        by_cases q : 3609 ≤ x ∧ x < 4812
        · rw [if_pos q, if_pos (by omega)]
        · rw [if_neg q, if_neg (by omega), if_neg (by omega)]
      rw [ep, fx4_saves_L10, sx4_saves_L10, if_pos (show (3609 : Int32) ≤ nI i from nI_le (a := 3609) (by omega) (by omega)), if_pos (show (3609 : Int32) ≤ nI i from nI_le (a := 3609) (by omega) (by omega))]
      dsimp only
      rw [e4]
      have em : sset (va_up M.1 1 P) 4 0 (nI 4 - 1) = va_up (sset M.1 4 0 (nI 3)) 1 P := by
        unfold sset
        rw [va_up_ne M.1 P (show 4 ≠ 1 by decide), up_comm _ (by decide), show nI 4 - 1 = nI 3 from nI_pred 3]
      rw [em]
      obtain ⟨a1, a2⟩ := sv51 (M := (sset M.1 4 0 (nI 3), M.2)) (n := 3) (by decide) (by show va_up M.1 4 (upd (M.1 4) 0 (nI 3)) 4 0 = _; rw [va_up_self, upd_same]) 1203 0 kfu P (by decide) (by unfold kfu; omega)
      refine ⟨a1, a2.trans ?_⟩
      have e0 : (sset M.1 4 0 (nI 3)) 0 = M.1 0 := va_up_ne _ _ (by decide)
      dsimp only
      rw [e0]
      refine Prod.ext ?_ rfl
      dsimp only
      unfold sset
      rw [up_comm _ (show 4 ≠ 1 by decide), up_up, va_up_self, va_up_ne M.1 _ (show 4 ≠ 1 by decide)]
      rw [upd_upd]
  | succ d ih =>
    intro i k P h hk
    cases k with
    | zero => omega
    | succ k =>
      have ei : nI i + 1203 = nI (i + 1203) := nI_add i 1203
      have e1 : va_up M.1 1 P 1 = P := va_up_self _ _ _
      obtain ⟨a1, a2⟩ := ih (i + 1) k (upd P i (P (i + 1203))) (by omega) (by omega)
      rw [fx4_saves_L10, sx4_saves_L10, if_neg (show ¬ (3609 : Int32) ≤ nI i from nI_ge (b := 3609) (by omega) (by omega)), if_neg (show ¬ (3609 : Int32) ≤ nI i from nI_ge (b := 3609) (by omega) (by omega))]
      dsimp only
      rw [e1, ei, nI_clamp (show i + 1203 < 2 ^ 31 by omega), nI_clamp (show i < 2 ^ 31 by omega), nI_1, bnd_o (upd P i (P (i + 1203))), bnd_o (upd P i (P (i + 1203))), up_up]
      refine ⟨⟨vp_in_nI (by omega) (by omega), vp_in_nI (by omega) (by omega), a1⟩, a2.trans ?_⟩
      have ep : (fun x => if 3609 ≤ x ∧ x < 4812 then M.1 0 (x - 3609) else if i + 1 ≤ x ∧ x < 3609 then upd P i (P (i + 1203)) (x + 1203) else upd P i (P (i + 1203)) x) = (fun x => if 3609 ≤ x ∧ x < 4812 then M.1 0 (x - 3609) else if i ≤ x ∧ x < 3609 then P (x + 1203) else P x) := by
        funext x
        by_cases q0 : 3609 ≤ x ∧ x < 4812
        · rw [if_pos q0, if_pos q0]
        · rw [if_neg q0, if_neg q0]
          by_cases q : x = i
          · rw [if_neg (by omega), if_pos (by omega), q, upd_same]
          · by_cases q2 : i ≤ x ∧ x < 3609
            · rw [if_pos q2, if_pos (by omega), upd_ne _ _ (by omega)]
            · rw [if_neg q2, if_neg (by omega), upd_ne _ _ q]
      rw [ep]
/-- what a change of the row past and of the number saved leaves -/
theorem m_saves {H : List Ab} {A : Ab} (hM : HM M H) (h0 : RM (M.1 0) A) : sx4_saves M ∧ HM (fx4_saves M) (kPush H A) ∧ (fx4_saves M).1 0 = M.1 0 ∧ (fx4_saves M).1 2 = M.1 2 ∧ (fx4_saves M).1 3 = M.1 3 ∧ (fx4_saves M).1 4 1 = M.1 4 1 ∧ (fx4_saves M).1 4 2 = M.1 4 2 := by
  obtain ⟨h1, h2, h3⟩ := hM
  have pid : (va_up M.1 1 (M.1 1), M.2) = M := by rw [up_id]
  have fin : ∀ (P : Nat → Int32) (v : Int32), (sset (va_up M.1 1 P) 4 0 v) 0 = M.1 0 ∧ (sset (va_up M.1 1 P) 4 0 v) 2 = M.1 2 ∧ (sset (va_up M.1 1 P) 4 0 v) 3 = M.1 3 ∧ (sset (va_up M.1 1 P) 4 0 v) 4 1 = M.1 4 1 ∧ (sset (va_up M.1 1 P) 4 0 v) 4 2 = M.1 4 2 := fun P v => ⟨rfl, rfl, rfl, rfl, rfl⟩
  unfold sx4_saves fx4_saves kPush
  by_cases q : H.length = 4
  · have q4 : M.1 4 0 = 4 := by rw [h1, q]; rfl
    rw [if_pos q4, if_pos q4, if_pos q]
    obtain ⟨a1, a2⟩ := sv10 (M := M) (by rw [q4]; rfl) 3609 0 kfu (M.1 1) (by decide) (by unfold kfu; omega)
    rw [pid] at a1 a2
    rw [show (0 : Int32) = nI 0 from rfl, a2]
    have hl : (H.drop 1 ++ [A]).length = 4 := by rw [List.length_append, List.length_drop, q]; rfl
    refine ⟨a1, ⟨by rw [hl]; rfl, by omega, fun j A' hj => ?_⟩, rfl, rfl, rfl, rfl, rfl⟩
    show RM (fun x => if 3609 ≤ 1203 * j + x ∧ 1203 * j + x < 4812 then M.1 0 (1203 * j + x - 3609) else if 0 ≤ 1203 * j + x ∧ 1203 * j + x < 3609 then M.1 1 (1203 * j + x + 1203) else M.1 1 (1203 * j + x)) A'
    by_cases q2 : j < 3
    · rw [List.getElem?_append_left (by rw [List.length_drop, q]; omega), List.getElem?_drop] at hj
      refine rm_cong (h3 _ A' hj) fun x hx => ?_
      rw [if_neg (by omega), if_pos (by omega)]
      exact congrArg (M.1 1) (by omega)
    · rw [List.getElem?_append_right (by rw [List.length_drop, q]; omega), List.length_drop, q] at hj
      have hj3 : j - (4 - 1) < 1 := (List.getElem?_eq_some_iff.mp hj).1
      rw [show j - (4 - 1) = 0 by omega] at hj
      cases hj
      refine rm_cong h0 fun x hx => ?_
      rw [if_pos (by omega)]
      exact congrArg (M.1 0) (by omega)
  · have q4 : ¬ M.1 4 0 = 4 := fun z => q ((nI_eq (a := H.length) (b := 4) (by omega) (by decide)).mp (by rw [← h1, z]; rfl))
    rw [if_neg q4, if_neg q4, if_neg q]
    obtain ⟨a1, a2⟩ := sv51 (M := M) (n := H.length) (by omega) h1 1203 0 kfu (M.1 1) (by decide) (by unfold kfu; omega)
    rw [pid] at a1 a2
    rw [show (0 : Int32) = nI 0 from rfl, a2]
    have hl : (H ++ [A]).length = H.length + 1 := by rw [List.length_append]; rfl
    refine ⟨a1, ⟨by rw [hl]; rfl, by omega, fun j A' hj => ?_⟩, rfl, rfl, rfl, rfl, rfl⟩
    show RM (fun x => if 1203 * H.length + 0 ≤ 1203 * j + x ∧ 1203 * j + x < 1203 * H.length + 1203 then M.1 0 (1203 * j + x - 1203 * H.length) else M.1 1 (1203 * j + x)) A'
    by_cases q2 : j < H.length
    · rw [List.getElem?_append_left q2] at hj
      refine rm_cong (h3 _ A' hj) fun x hx => ?_
      rw [if_neg (by omega)]
    · rw [List.getElem?_append_right (by omega)] at hj
      have hj3 : j - H.length < 1 := (List.getElem?_eq_some_iff.mp hj).1
      rw [show j - H.length = 0 by omega] at hj
      cases hj
      have ej : j = H.length := by omega
      refine rm_cong h0 fun x hx => ?_
      rw [if_pos (by rw [ej]; omega)]
      exact congrArg (M.1 0) (by rw [ej]; omega)
theorem la_L : ∀ (d i k : Nat) (P : Nat → Int32), i + d = 1203 → d < k → sx4_laysAside_L2 k (nI i) (va_up M.1 2 P, M.2) ∧ fx4_laysAside_L2 k (nI i) (va_up M.1 2 P, M.2) = (va_up M.1 2 (fun x => if i ≤ x ∧ x < 1203 then M.1 0 x else P x), M.2) := by
  intro d
  induction d with
  | zero =>
    intro i k P h hk
    cases k with
    | zero => omega
    | succ k =>
      have ep : (fun x => if i ≤ x ∧ x < 1203 then M.1 0 x else P x) = P := by
        funext x
        rw [if_neg (by omega)]
      rw [ep, fx4_laysAside_L2, sx4_laysAside_L2, if_pos (show (1203 : Int32) ≤ nI i from nI_le (a := 1203) (by omega) (by omega)), if_pos (show (1203 : Int32) ≤ nI i from nI_le (a := 1203) (by omega) (by omega))]
      exact ⟨trivial, rfl⟩
  | succ d ih =>
    intro i k P h hk
    cases k with
    | zero => omega
    | succ k =>
      have e0 : va_up M.1 2 P 0 = M.1 0 := va_up_ne _ _ (by decide)
      have e1 : va_up M.1 2 P 2 = P := va_up_self _ _ _
      obtain ⟨a1, a2⟩ := ih (i + 1) k (upd P i (M.1 0 i)) (by omega) (by omega)
      rw [fx4_laysAside_L2, sx4_laysAside_L2, if_neg (show ¬ (1203 : Int32) ≤ nI i from nI_ge (b := 1203) (by omega) (by omega)), if_neg (show ¬ (1203 : Int32) ≤ nI i from nI_ge (b := 1203) (by omega) (by omega))]
      dsimp only
      rw [e0, e1, nI_clamp (show i < 2 ^ 31 by omega), nI_1, bnd_o (upd P i (M.1 0 i)), bnd_o (upd P i (M.1 0 i)), up_up]
      refine ⟨⟨vp_in_nI (by omega) (by omega), vp_in_nI (by omega) (by omega), a1⟩, a2.trans ?_⟩
      have ep : (fun x => if i + 1 ≤ x ∧ x < 1203 then M.1 0 x else upd P i (M.1 0 i) x) = (fun x => if i ≤ x ∧ x < 1203 then M.1 0 x else P x) := by
        funext x
        by_cases q : x = i
        · rw [if_neg (by omega), if_pos (by omega), q, upd_same]
        · rw [upd_ne _ _ q]
          by_cases q2 : i ≤ x ∧ x < 1203
          · rw [if_pos q2, if_pos (by omega)]
          · rw [if_neg q2, if_neg (by omega)]
      rw [ep]
theorem m_lays : sx4_laysAside M ∧ ∃ P, fx4_laysAside M = (va_up M.1 2 P, M.2) ∧ ∀ x, x < 1203 → P x = M.1 0 x := by
  obtain ⟨a1, a2⟩ := la_L (M := M) 1203 0 kfu (M.1 2) (by decide) (by unfold kfu; omega)
  rw [show (va_up M.1 2 (M.1 2), M.2) = M by rw [up_id]] at a1 a2
  exact ⟨a1, _, a2, fun x hx => if_pos ⟨Nat.zero_le _, hx⟩⟩
theorem tb_L : ∀ (d i k : Nat) (P : Nat → Int32), i + d = 1203 → d < k → sx4_takesBack_L2 k (nI i) (va_up M.1 0 P, M.2) ∧ fx4_takesBack_L2 k (nI i) (va_up M.1 0 P, M.2) = (va_up M.1 0 (fun x => if i ≤ x ∧ x < 1203 then M.1 2 x else P x), M.2) := by
  intro d
  induction d with
  | zero =>
    intro i k P h hk
    cases k with
    | zero => omega
    | succ k =>
      have ep : (fun x => if i ≤ x ∧ x < 1203 then M.1 2 x else P x) = P := by
        funext x
        rw [if_neg (by omega)]
      rw [ep, fx4_takesBack_L2, sx4_takesBack_L2, if_pos (show (1203 : Int32) ≤ nI i from nI_le (a := 1203) (by omega) (by omega)), if_pos (show (1203 : Int32) ≤ nI i from nI_le (a := 1203) (by omega) (by omega))]
      exact ⟨trivial, rfl⟩
  | succ d ih =>
    intro i k P h hk
    cases k with
    | zero => omega
    | succ k =>
      have e0 : va_up M.1 0 P 2 = M.1 2 := va_up_ne _ _ (by decide)
      have e1 : va_up M.1 0 P 0 = P := va_up_self _ _ _
      obtain ⟨a1, a2⟩ := ih (i + 1) k (upd P i (M.1 2 i)) (by omega) (by omega)
      rw [fx4_takesBack_L2, sx4_takesBack_L2, if_neg (show ¬ (1203 : Int32) ≤ nI i from nI_ge (b := 1203) (by omega) (by omega)), if_neg (show ¬ (1203 : Int32) ≤ nI i from nI_ge (b := 1203) (by omega) (by omega))]
      dsimp only
      rw [e0, e1, nI_clamp (show i < 2 ^ 31 by omega), nI_1, bnd_o (upd P i (M.1 2 i)), bnd_o (upd P i (M.1 2 i)), up_up]
      refine ⟨⟨vp_in_nI (by omega) (by omega), vp_in_nI (by omega) (by omega), a1⟩, a2.trans ?_⟩
      have ep : (fun x => if i + 1 ≤ x ∧ x < 1203 then M.1 2 x else upd P i (M.1 2 i) x) = (fun x => if i ≤ x ∧ x < 1203 then M.1 2 x else P x) := by
        funext x
        by_cases q : x = i
        · rw [if_neg (by omega), if_pos (by omega), q, upd_same]
        · rw [upd_ne _ _ q]
          by_cases q2 : i ≤ x ∧ x < 1203
          · rw [if_pos q2, if_pos (by omega)]
          · rw [if_neg q2, if_neg (by omega)]
      rw [ep]
theorem m_tback : sx4_takesBack M ∧ ∃ P, fx4_takesBack M = (va_up M.1 0 P, M.2) ∧ ∀ x, x < 1203 → P x = M.1 2 x := by
  obtain ⟨a1, a2⟩ := tb_L (M := M) 1203 0 kfu (M.1 0) (by decide) (by unfold kfu; omega)
  rw [show (va_up M.1 0 (M.1 0), M.2) = M by rw [up_id]] at a1 a2
  exact ⟨a1, _, a2, fun x hx => if_pos ⟨Nat.zero_le _, hx⟩⟩
theorem un_L {n : Nat} (hn : n < 4) (h4 : M.1 4 0 = nI n) : ∀ (d i k : Nat) (P : Nat → Int32), i + d = 1203 → d < k → sx4_undo_L33 k (nI i) (va_up M.1 0 P, M.2) ∧ fx4_undo_L33 k (nI i) (va_up M.1 0 P, M.2) = (nI n, (va_up M.1 0 (fun x => if i ≤ x ∧ x < 1203 then M.1 1 (1203 * n + x) else P x), M.2)) := by
  have e4 : ∀ P, va_up M.1 0 P 4 0 = nI n := fun P => by rw [va_up_ne _ _ (by decide)]; exact h4
  intro d
  induction d with
  | zero =>
    intro i k P h hk
    cases k with
    | zero => omega
    | succ k =>
      have ep : (fun x => if i ≤ x ∧ x < 1203 then M.1 1 (1203 * n + x) else P x) = P := by
        funext x
        rw [if_neg (by omega)]
      rw [ep, fx4_undo_L33, sx4_undo_L33, if_pos (show (1203 : Int32) ≤ nI i from nI_le (a := 1203) (by omega) (by omega)), if_pos (show (1203 : Int32) ≤ nI i from nI_le (a := 1203) (by omega) (by omega))]
      dsimp only
      rw [e4]
      exact ⟨trivial, rfl⟩
  | succ d ih =>
    intro i k P h hk
    cases k with
    | zero => omega
    | succ k =>
      have ei : (1203 : Int32) * nI n + nI i = nI (1203 * n + i) := by
        show nI 1203 * nI n + nI i = _
        rw [nI_mul, nI_add]
      have e0 : va_up M.1 0 P 1 = M.1 1 := va_up_ne _ _ (by decide)
      have e1 : va_up M.1 0 P 0 = P := va_up_self _ _ _
      obtain ⟨a1, a2⟩ := ih (i + 1) k (upd P i (M.1 1 (1203 * n + i))) (by omega) (by omega)
      rw [fx4_undo_L33, sx4_undo_L33, if_neg (show ¬ (1203 : Int32) ≤ nI i from nI_ge (b := 1203) (by omega) (by omega)), if_neg (show ¬ (1203 : Int32) ≤ nI i from nI_ge (b := 1203) (by omega) (by omega))]
      dsimp only
      rw [e4, e0, e1, ei, nI_clamp (show 1203 * n + i < 2 ^ 31 by omega), nI_clamp (show i < 2 ^ 31 by omega), nI_1, bnd_o (upd P i (M.1 1 (1203 * n + i))), bnd_o (upd P i (M.1 1 (1203 * n + i))), up_up]
      refine ⟨⟨vp_in_nI (by omega) (by omega), vp_in_nI (by omega) (by omega), a1⟩, a2.trans ?_⟩
      have ep : (fun x => if i + 1 ≤ x ∧ x < 1203 then M.1 1 (1203 * n + x) else upd P i (M.1 1 (1203 * n + i)) x) = (fun x => if i ≤ x ∧ x < 1203 then M.1 1 (1203 * n + x) else P x) := by
        funext x
        by_cases q : x = i
        · rw [if_neg (by omega), if_pos (by omega), q, upd_same]
        · rw [upd_ne _ _ q]
          by_cases q2 : i ≤ x ∧ x < 1203
          · rw [if_pos q2, if_pos (by omega)]
          · rw [if_neg q2, if_neg (by omega)]
      rw [ep]
theorem sw_L : ∀ (d i k : Nat) (P Q : Nat → Int32), i + d = 1203 → d < k → ∃ P' Q' : Nat → Int32, (∀ x, P' x = if i ≤ x ∧ x < 1203 then Q x else P x) ∧ (∀ x, Q' x = if i ≤ x ∧ x < 1203 then P x else Q x) ∧ (sx4_saves (va_up (va_up M.1 0 P') 2 Q', M.2) ∧ sx4_takesBack (fx4_saves (va_up (va_up M.1 0 P') 2 Q', M.2)) → sx4_carryOut_L109 k (nI i) (va_up (va_up M.1 0 P) 2 Q, M.2)) ∧ fx4_carryOut_L109 k (nI i) (va_up (va_up M.1 0 P) 2 Q, M.2) = ((fx4_takesBack (fx4_saves (va_up (va_up M.1 0 P') 2 Q', M.2))).1 4 2, fx4_takesBack (fx4_saves (va_up (va_up M.1 0 P') 2 Q', M.2))) := by
  intro d
  induction d with
  | zero =>
    intro i k P Q h hk
    cases k with
    | zero => omega
    | succ k =>
      refine ⟨P, Q, fun x => (if_neg (by omega)).symm, fun x => (if_neg (by omega)).symm, fun z => ?_, ?_⟩
      · rw [sx4_carryOut_L109, if_pos (show (1203 : Int32) ≤ nI i from nI_le (a := 1203) (by omega) (by omega)), bnd_o]
        exact z
      · rw [fx4_carryOut_L109, if_pos (show (1203 : Int32) ≤ nI i from nI_le (a := 1203) (by omega) (by omega)), bnd_o, bnd_o]
  | succ d ih =>
    intro i k P Q h hk
    cases k with
    | zero => omega
    | succ k =>
      have e0 : ∀ P Q, va_up (va_up M.1 0 P) 2 Q 0 = P := fun P Q => by rw [va_up_ne _ _ (by decide), va_up_self]
      have e2 : ∀ P Q, va_up (va_up M.1 0 P) 2 Q 2 = Q := fun P Q => va_up_self _ _ _
      have es : ∀ P Q P' Q' : Nat → Int32, va_up (va_up (va_up (va_up M.1 0 P) 2 Q) 0 P') 2 Q' = va_up (va_up M.1 0 P') 2 Q' := fun P Q P' Q' => by
        rw [up_comm (va_up M.1 0 P) (show 2 ≠ 0 by decide) Q P', up_up, up_up]
      obtain ⟨P', Q', b1, b2, b3, b4⟩ := ih (i + 1) k (upd P i (Q i)) (upd Q i (P i)) (by omega) (by omega)
      refine ⟨P', Q', fun x => (b1 x).trans ?_, fun x => (b2 x).trans ?_, fun z => ?_, ?_⟩
      · by_cases q : x = i
        · rw [if_neg (by omega), if_pos (by omega), q, upd_same]
        · rw [upd_ne _ _ q, upd_ne _ _ q]
          by_cases q2 : i ≤ x ∧ x < 1203
          · rw [if_pos q2, if_pos (by omega)]
          · rw [if_neg q2, if_neg (by omega)]
      · by_cases q : x = i
        · rw [if_neg (by omega), if_pos (by omega), q, upd_same]
        · rw [upd_ne _ _ q, upd_ne _ _ q]
          by_cases q2 : i ≤ x ∧ x < 1203
          · rw [if_pos q2, if_pos (by omega)]
          · rw [if_neg q2, if_neg (by omega)]
      · rw [sx4_carryOut_L109, if_neg (show ¬ (1203 : Int32) ≤ nI i from nI_ge (b := 1203) (by omega) (by omega))]
        dsimp only
        rw [e0, e2, nI_clamp (show i < 2 ^ 31 by omega), nI_1, bnd_o (upd P i (Q i)), bnd_o (upd Q i (P i)), es]
        exact ⟨vp_in_nI (by omega) (by omega), vp_in_nI (by omega) (by omega), vp_in_nI (by omega) (by omega), vp_in_nI (by omega) (by omega), b3 z⟩
      · rw [fx4_carryOut_L109, if_neg (show ¬ (1203 : Int32) ≤ nI i from nI_ge (b := 1203) (by omega) (by omega))]
        dsimp only
        rw [e0, e2, nI_clamp (show i < 2 ^ 31 by omega), nI_1, bnd_o (upd P i (Q i)), bnd_o (upd Q i (P i)), es]
        exact b4
end HMS
