/-! what a call leaves when it throws -/
def T3 (L : Nat → St) (y : Int32 × Int32 × (Nat → St)) : Prop := y.1 ≠ 0 → y.2.2 = L
theorem t3_t {L : Nat → St} {ec r : Int32} : T3 L (ec, r, L) := fun _ => rfl
theorem t3_o {L L' : Nat → St} {r : Int32} : T3 L (0, r, L') := fun h => absurd rfl h
theorem t3_i {L : Nat → St} {P : Prop} [Decidable P] {a b : Int32 × Int32 × (Nat → St)} (ha : T3 L a) (hb : T3 L b) : T3 L (if P then a else b) := by
  split
  · exact ha
  · exact hb
theorem t3_b {α : Type} {L : Nat → St} (a : α) {f : α → Int32 × Int32 × (Nat → St)} (h : ∀ x, T3 L (f x)) : T3 L (bnd a f) := h a
theorem t3_runL (L0 : Nat → St) : ∀ (k : Nat) (y1 y2 : Int32) (L : Nat → St), T3 L0 (fx3_run_L34 k y1 y2 L) := by
  intro k
  induction k with
  | zero => intro y1 y2 L; exact t3_o
  | succ k ih =>
    intro y1 y2 L
    rw [fx3_run_L34]
    exact t3_i t3_o (t3_b _ fun L2 => ih _ _ _)
theorem t3_fateL (L0 : Nat → St) : ∀ (k : Nat) (y1 y2 : Int32) (L : Nat → St), T3 L0 (fx3_fate_L68 k y1 y2 L) := by
  intro k
  induction k with
  | zero => intro y1 y2 L; exact t3_o
  | succ k ih =>
    intro y1 y2 L
    rw [fx3_fate_L68]
    exact t3_i t3_o (t3_i t3_o (t3_i (t3_b _ fun L2 => ih _ _ _) t3_o))

theorem t3_setPlaces (L : Nat → St) (x1 x2 x3 x4 x5 : Int32) : T3 L (fx3_setPlaces L x1 x2 x3 x4 x5) := by
  unfold fx3_setPlaces
  repeat with_reducible first
    | exact t3_runL _ _ _ _ _
    | exact t3_fateL _ _ _ _ _
    | exact t3_o
    | exact t3_t
    | refine t3_i ?_ ?_
    | refine t3_b _ fun _ => ?_

theorem t3_set (L : Nat → St) (x1 x2 : Int32) : T3 L (fx3_set L x1 x2) := by
  unfold fx3_set
  repeat with_reducible first
    | exact t3_runL _ _ _ _ _
    | exact t3_fateL _ _ _ _ _
    | exact t3_o
    | exact t3_t
    | refine t3_i ?_ ?_
    | refine t3_b _ fun _ => ?_

theorem t3_start (L : Nat → St) : T3 L (fx3_start L ) := by
  unfold fx3_start
  repeat with_reducible first
    | exact t3_runL _ _ _ _ _
    | exact t3_fateL _ _ _ _ _
    | exact t3_o
    | exact t3_t
    | refine t3_i ?_ ?_
    | refine t3_b _ fun _ => ?_

theorem t3_stop (L : Nat → St) : T3 L (fx3_stop L ) := by
  unfold fx3_stop
  repeat with_reducible first
    | exact t3_runL _ _ _ _ _
    | exact t3_fateL _ _ _ _ _
    | exact t3_o
    | exact t3_t
    | refine t3_i ?_ ?_
    | refine t3_b _ fun _ => ?_

theorem t3_reset (L : Nat → St) : T3 L (fx3_reset L ) := by
  unfold fx3_reset
  repeat with_reducible first
    | exact t3_runL _ _ _ _ _
    | exact t3_fateL _ _ _ _ _
    | exact t3_o
    | exact t3_t
    | refine t3_i ?_ ?_
    | refine t3_b _ fun _ => ?_

theorem t3_feed (L : Nat → St) (x1 : Int32) : T3 L (fx3_feed L x1) := by
  unfold fx3_feed
  repeat with_reducible first
    | exact t3_runL _ _ _ _ _
    | exact t3_fateL _ _ _ _ _
    | exact t3_o
    | exact t3_t
    | refine t3_i ?_ ?_
    | refine t3_b _ fun _ => ?_

theorem t3_slip (L : Nat → St) (x1 x2 : Int32) : T3 L (fx3_slip L x1 x2) := by
  unfold fx3_slip
  repeat with_reducible first
    | exact t3_runL _ _ _ _ _
    | exact t3_fateL _ _ _ _ _
    | exact t3_o
    | exact t3_t
    | refine t3_i ?_ ?_
    | refine t3_b _ fun _ => ?_

theorem t3_take (L : Nat → St) (x1 : Int32) : T3 L (fx3_take L x1) := by
  unfold fx3_take
  repeat with_reducible first
    | exact t3_runL _ _ _ _ _
    | exact t3_fateL _ _ _ _ _
    | exact t3_o
    | exact t3_t
    | refine t3_i ?_ ?_
    | refine t3_b _ fun _ => ?_

theorem t3_run (L : Nat → St) (x1 : Int32) : T3 L (fx3_run L x1) := by
  unfold fx3_run
  repeat with_reducible first
    | exact t3_runL _ _ _ _ _
    | exact t3_fateL _ _ _ _ _
    | exact t3_o
    | exact t3_t
    | refine t3_i ?_ ?_
    | refine t3_b _ fun _ => ?_

theorem t3_append (L : Nat → St) (x1 : Int32) : T3 L (fx3_append L x1) := by
  unfold fx3_append
  repeat with_reducible first
    | exact t3_runL _ _ _ _ _
    | exact t3_fateL _ _ _ _ _
    | exact t3_o
    | exact t3_t
    | refine t3_i ?_ ?_
    | refine t3_b _ fun _ => ?_

theorem t3_undo (L : Nat → St) : T3 L (fx3_undo L ) := by
  unfold fx3_undo
  repeat with_reducible first
    | exact t3_runL _ _ _ _ _
    | exact t3_fateL _ _ _ _ _
    | exact t3_o
    | exact t3_t
    | refine t3_i ?_ ?_
    | refine t3_b _ fun _ => ?_

theorem t3_fate (L : Nat → St) (x1 : Int32) : T3 L (fx3_fate L x1) := by
  unfold fx3_fate
  repeat with_reducible first
    | exact t3_runL _ _ _ _ _
    | exact t3_fateL _ _ _ _ _
    | exact t3_o
    | exact t3_t
    | refine t3_i ?_ ?_
    | refine t3_b _ fun _ => ?_
