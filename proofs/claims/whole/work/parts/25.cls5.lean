/-! the class does what the abstract station does: a pulse, a tick -/
section CLS5
variable {S : St} {A : Ab}
def okAct (A : Ab) (r : Nat) : Prop := (kRec A r 1 = A.1 8 → (A.2 2).length < 120) ∧ (kRec A r 1 = A.1 9 → (A.2 2).length < 120) ∧ (kRec A r 1 = A.1 10 → (A.2 3).length < 50 ∧ (A.2 4).length < 101)
def okRecs : Nat → Nat → Ab → Prop
  | 0, _, _ => True
  | m + 1, i, A => okAct A i ∧ if (aAct A i).1 = true then okRecs m (i + 1) (aAct A i).2 else okRecs m i (aAct A i).2
def okPulse (A : Ab) : Prop := okRecs (A.2 1).length 0 (aInc A)
def okPulses : Nat → Ab → Prop
  | 0, _ => True
  | m + 1, A => if A.1 15 = 0 then True else okPulse A ∧ okPulses m (aPulse A)
def okTick (A : Ab) : Prop := okPulses ((aPre A).1 0).toNatClampNeg (aPre A) ∧ (aPre A).1 0 = nI ((aPre A).1 0).toNatClampNeg ∧ ((aPre A).1 0).toNatClampNeg ≤ 10
theorem kw_b {b : Bool} : (if b = true then (1 : Int32) else 0) = 0 ↔ b = false := by cases b <;> decide
theorem rc_put1 (h : RC S A) {r : Nat} (hr : r < (A.2 1).length) {x : Int32} {c : Nat} (hx : x = nI c) (hc : c < 6) (v : Int32) : RC (stP S 1 (fx2_put 6 35 210 (stT S 1) (nI r) x v)) (aPutR A 1 r c v) := rc_p1 h (g2_put kTab1 (rc_t1 h) hr hx hc v)
theorem c_act (h : RC S A) (w : WI A) {r : Nat} (hr : r < (A.2 1).length) (ok : okAct A r) : sx1_staysInRegister S (nI r) ∧ (fx1_staysInRegister S (nI r)).1 = (if (aAct A r).1 = true then 1 else 0) ∧ RC (fx1_staysInRegister S (nI r)).2 (aAct A r).2 := by
  unfold sx1_staysInRegister fx1_staysInRegister aAct
  simp only [bnd]
  rw [g2_get kTab1 (rc_t1 h) hr (x := 1) (c := 1) rfl (by decide), g2_get kTab1 (rc_t1 h) hr (x := 2) (c := 2) rfl (by decide), g2_get kTab1 (rc_t1 h) hr (x := 5) (c := 5) rfl (by decide), rc_placeg h (x := 0) (i := 0) rfl (by decide), rc_placeg h (x := 1) (i := 1) rfl (by decide), rc_placeg h (x := 2) (i := 2) rfl (by decide), rc_placeg h (x := 3) (i := 3) rfl (by decide), rc_placeg h (x := 4) (i := 4) rfl (by decide), rc_setg h (x := 5) (i := 5) rfl (by decide)]
  show (if kRec A r 1 = A.1 7 then _ else _) ∧ (if kRec A r 1 = A.1 7 then _ else _ : Int32 × St).1 = _ ∧ RC (if kRec A r 1 = A.1 7 then _ else _ : Int32 × St).2 _
  by_cases q7 : kRec A r 1 = A.1 7
  · rw [if_pos q7, if_pos q7, if_pos q7]
    obtain ⟨a1, a2⟩ := c_label h hr
    exact ⟨a1, rfl, by dsimp only; exact a2⟩
  rw [if_neg q7, if_neg q7, if_neg q7]
  show (if kRec A r 1 = A.1 8 then _ else _) ∧ (if kRec A r 1 = A.1 8 then _ else _ : Int32 × St).1 = _ ∧ RC (if kRec A r 1 = A.1 8 then _ else _ : Int32 × St).2 _
  by_cases q8 : kRec A r 1 = A.1 8
  · rw [if_pos q8, if_pos q8, if_pos q8]
    have hv := ok.1 q8
    obtain ⟨a1, a2⟩ := c_look h w hr (by omega) (x2 := 0) (c := 0) rfl (by decide)
    exact ⟨a1, rfl, by dsimp only; exact a2⟩
  rw [if_neg q8, if_neg q8, if_neg q8]
  show (if kRec A r 1 = A.1 9 then _ else _) ∧ (if kRec A r 1 = A.1 9 then _ else _ : Int32 × St).1 = _ ∧ RC (if kRec A r 1 = A.1 9 then _ else _ : Int32 × St).2 _
  by_cases q9 : kRec A r 1 = A.1 9
  · rw [if_pos q9, if_pos q9, if_pos q9]
    have hv := ok.2.1 q9
    show (if kRec A r 2 = 3 then _ else _) ∧ (if kRec A r 2 = 3 then _ else _ : Int32 × St).1 = _ ∧ RC (if kRec A r 2 = 3 then _ else _ : Int32 × St).2 _
    by_cases q3 : kRec A r 2 = 3
    · rw [if_pos q3, if_pos q3, if_pos q3]
      obtain ⟨a1, a2⟩ := c_look h w hr (by omega) (x2 := 1) (c := 1) rfl (by decide)
      exact ⟨a1, rfl, by dsimp only; exact a2⟩
    · rw [if_neg q3, if_neg q3, if_neg q3]
      exact ⟨trivial, rfl, by dsimp only; exact h⟩
  rw [if_neg q9, if_neg q9, if_neg q9]
  show (if kRec A r 1 = A.1 10 then _ else _) ∧ (if kRec A r 1 = A.1 10 then _ else _ : Int32 × St).1 = _ ∧ RC (if kRec A r 1 = A.1 10 then _ else _ : Int32 × St).2 _
  by_cases q10 : kRec A r 1 = A.1 10
  · rw [if_pos q10, if_pos q10, if_pos q10]
    obtain ⟨hv3, hv4⟩ := ok.2.2 q10
    obtain ⟨a1, a2⟩ := c_reject h w hr hv3 hv4
    have hp : RC (sset (stP S 1 (fx2_put 6 35 210 (stT S 1) (nI r) 4 1)) 3 4 0) (aS (aPutR A 1 r 4 1) 12 0) := rc_s3 (rc_p1 h (g2_put kTab1 (rc_t1 h) hr (x := 4) (c := 4) rfl (by decide) 1)) (a := 4) (by decide) 0
    have em : fx1_mayPass S (nI r) = if kRec A r 2 = 1 then (if kRec A r 3 = 0 then 1 else 0) else 0 := by
      unfold fx1_mayPass
      rw [g2_get kTab1 (rc_t1 h) hr (x := 2) (c := 2) rfl (by decide), g2_get kTab1 (rc_t1 h) hr (x := 3) (c := 3) rfl (by decide)]
      rfl
    rw [em]
    unfold aGate
    by_cases q2 : kRec A r 2 = 1
    · rw [if_pos q2]
      by_cases q3 : kRec A r 3 = 0
      · rw [if_pos q3, if_neg (show ¬ (1 : Int32) = 0 by decide), if_neg (show ¬ (1 : Int32) = 0 by decide), if_pos (⟨q2, q3⟩ : _ ∧ _)]
        exact ⟨trivial, rfl, by dsimp only; exact hp⟩
      · rw [if_neg q3, if_pos (show (0 : Int32) = 0 from rfl), if_pos (show (0 : Int32) = 0 from rfl), if_neg (fun z : _ ∧ _ => q3 z.2)]
        exact ⟨a1, rfl, by dsimp only; exact a2⟩
    · rw [if_neg q2, if_pos (show (0 : Int32) = 0 from rfl), if_pos (show (0 : Int32) = 0 from rfl), if_neg (fun z : _ ∧ _ => q2 z.1)]
      exact ⟨a1, rfl, by dsimp only; exact a2⟩
  rw [if_neg q10, if_neg q10, if_neg q10]
  show (if kRec A r 1 ≤ A.1 11 + A.1 5 then _ else _) ∧ (if kRec A r 1 ≤ A.1 11 + A.1 5 then _ else _ : Int32 × St).1 = _ ∧ RC (if kRec A r 1 ≤ A.1 11 + A.1 5 then _ else _ : Int32 × St).2 _
  by_cases q11 : kRec A r 1 ≤ A.1 11 + A.1 5
  · rw [if_pos q11, if_pos q11, if_pos q11]
    exact ⟨trivial, rfl, by dsimp only; exact h⟩
  rw [if_neg q11, if_neg q11, if_neg q11]
  show (if kRec A r 5 = 1 then _ else _) ∧ (if kRec A r 5 = 1 then _ else _ : Int32 × St).1 = _ ∧ RC (if kRec A r 5 = 1 then _ else _ : Int32 × St).2 _
  by_cases q5 : kRec A r 5 = 1
  · rw [if_pos q5, if_pos q5, if_pos q5]
    obtain ⟨a1, a2⟩ := c_leave h hr (x := 1) (how := 1) rfl (by decide)
    exact ⟨a1, rfl, by dsimp only; exact a2⟩
  · rw [if_neg q5, if_neg q5, if_neg q5]
    obtain ⟨a1, a2⟩ := c_leave h hr (x := 3) (how := 3) rfl (by decide)
    exact ⟨a1, rfl, by dsimp only; exact a2⟩
theorem leave_1 {r how : Nat} : (aLeave A r how).2 1 = (A.2 1).eraseIdx r := by
  unfold aLeave
  split
  · exact aT_same _ _ _
  · exact aT_same _ _ _
theorem reject_1 {r : Nat} : (aReject A r).2 1 = (A.2 1).eraseIdx r := by
  have e : ∀ B : Ab, (aLimit (aExpect (aDivert B))).2 1 = B.2 1 := fun B => by
    have e1 : ∀ D : Ab, (aLimit D).2 1 = D.2 1 := fun D => by
      unfold aLimit
      split
      · rfl
      · exact alarm_n
    have e2 : ∀ D : Ab, (aExpect D).2 1 = D.2 1 := fun D => by
      rfl
    rw [e1, e2, divert_n (by decide) (by decide)]
  unfold aReject
  rw [e, leave_1]
  rfl
theorem act_len {r : Nat} (hr : r < (A.2 1).length) : ((aAct A r).2.2 1).length = if (aAct A r).1 = true then (A.2 1).length else (A.2 1).length - 1 := by
  have el : (((A.2 1).eraseIdx r).length = (A.2 1).length - 1) := by rw [List.length_eraseIdx, if_pos hr]
  have elab_ : ((aLabel A r).2 1).length = (A.2 1).length := by
    unfold aLabel
    split
    · split
      · show ((aPutR A 1 r 3 1).2 1).length = _
        unfold aPutR
        rw [aT_same, List.length_set]
      · cases aItemAt (aS A 6 (A.1 6 - 1)) 7 with
        | none => rfl
        | some k => exact congrArg List.length (aT_ne _ _ (by decide))
    · unfold aPutR
      rw [aT_same, List.length_set]
  have elook : ∀ c, ((aLook A r c).2 1).length = (A.2 1).length := fun c => congrArg List.length (aT_ne _ _ (by decide))
  unfold aAct
  split
  · exact elab_
  · split
    · exact elook 0
    · split
      · show ((if kRec A r 2 = 3 then aLook A r 1 else A : Ab).2 1).length = _
        split
        · exact elook 1
        · rfl
      · split
        · unfold aGate
          split
          · show ((aPutR A 1 r 4 1).2 1).length = _
            unfold aPutR
            rw [aT_same, List.length_set]
            rfl
          · show ((aReject A r).2 1).length = _
            rw [reject_1, el]
            rfl
        · split
          · rfl
          · show ((aLeave A r _).2 1).length = _
            rw [leave_1, el]
            rfl
theorem c_exit (h : RC S A) (w : WI A) {i : Nat} (hi : i < (A.2 0).length) : sx1_leaveBelt S (nI i) ∧ RC (fx1_leaveBelt S (nI i)) (aExit A i) := by
  obtain ⟨a1, a2⟩ := g2_rem kTab0 (rc_t0 h) hi
  have b1 := rc_count (rc_p0 h a2) (x := 8) (i := 8) rfl (by decide)
  have w1 := (st_count (A := aRem A 0 i) (i := 8) (by decide)).1 ((st_rem (A := A) (k := 0) (r := i)).1 w)
  obtain ⟨d1, d2⟩ := c_recFor b1
  unfold sx1_leaveBelt fx1_leaveBelt aExit
  simp only [bnd]
  refine ⟨⟨a1, d1⟩, ?_⟩
  rw [d2, show aCount (aT A 0 ((A.2 0).eraseIdx i)) 8 = aCount (aRem A 0 i) 8 from rfl]
  have b2 : RC (fx1_count (stP S 0 (fx2_removeRow 4 20 80 (stT S 0) (nI i))) 8) (aCount (aRem A 0 i) 8) := b1
  show RC (if opI (aRecFor (aCount (aRem A 0 i) 8)) = -1 then _ else _) (aExit1 (aCount (aRem A 0 i) 8))
  generalize fx1_count (stP S 0 (fx2_removeRow 4 20 80 (stT S 0) (nI i))) 8 = S2 at b2 ⊢
  generalize aCount (aRem A 0 i) 8 = B at b2 w1 ⊢
  unfold aExit1
  cases e : aRecFor B with
  | none =>
    rw [show opI none = -1 from rfl, if_pos rfl]
    have b3 := rc_count b2 (x := 9) (i := 9) rfl (by decide)
    exact c_raise b3 (x := 4) (k := 4) rfl (by decide) ((st_count (A := B) (i := 9) (by decide)).1 w1).2.2.1
  | some r =>
    have hk := aRecFor_lt e
    have hl := (rc_t1 b2).2.1
    rw [show opI (some r) = nI r from rfl, if_neg (nI_ne (by omega))]
    have z := rc_put1 b2 hk (x := 5) (c := 5) rfl (by decide) 1
    dsimp only
    exact z
theorem exit_0 {i : Nat} : (aExit A i).2 0 = (A.2 0).eraseIdx i := by
  have e : ∀ B : Ab, (aExit1 B).2 0 = B.2 0 := fun B => by
    unfold aExit1
    cases aRecFor B with
    | none => exact alarm_n
    | some r => exact aT_ne _ _ (by decide)
  unfold aExit
  rw [e]
  exact aT_same A 0 ((A.2 0).eraseIdx i)
theorem c_items (y1 : Int32) : ∀ (m i k : Nat) (S : St) (A : Ab), RC S A → WI A → i + m = (A.2 0).length → m < k → sx1_pulse_L57 k y1 (nI i) (nI m) S ∧ RC (fx1_pulse_L57 k y1 (nI i) (nI m) S) (aItems m i A) := by
  intro m
  induction m with
  | zero =>
    intro i k S A h w hi hk
    cases k with
    | zero => omega
    | succ k =>
      simp only [fx1_pulse_L57, sx1_pulse_L57, aItems]
      rw [nI_0, if_pos (by decide), if_pos (by decide)]
      exact ⟨trivial, h⟩
  | succ m ih =>
    intro i k S A h w hi hk
    have hl := (rc_t0 h).2.1
    cases k with
    | zero => omega
    | succ k =>
      simp only [fx1_pulse_L57, sx1_pulse_L57, aItems, bnd]
      rw [if_neg (nI_nle (by omega) (by omega)), if_neg (nI_nle (by omega) (by omega)), g2_get kTab0 (rc_t0 h) (r := i) (by omega) (x := 1) (c := 1) rfl (by decide), rc_placeg h (x := 4) (i := 4) rfl (by decide), nI_m1, nI_1]
      show (if kItm A i 1 = A.1 11 then _ else _) ∧ RC (if kItm A i 1 = A.1 11 then _ else _) _
      by_cases q : kItm A i 1 = A.1 11
      · rw [if_pos q, if_pos q, if_pos q]
        obtain ⟨a1, a2⟩ := c_exit h w (i := i) (by omega)
        obtain ⟨b1, b2⟩ := ih i k _ _ a2 (st_exit.1 w) (by rw [exit_0, List.length_eraseIdx, if_pos (by omega)]; omega) (by omega)
        exact ⟨⟨a1, b1⟩, b2⟩
      · rw [if_neg q, if_neg q, if_neg q]
        exact ih (i + 1) k S A h w (by omega) (by omega)
theorem c_recs : ∀ (m i k : Nat) (S : St) (A : Ab), RC S A → WI A → i + m = (A.2 1).length → m < k → okRecs m i A → sx1_pulse_L26 k (nI i) (nI m) S ∧ RC (fx1_pulse_L26 k (nI i) (nI m) S) (aItems ((aRecs m i A).2 0).length 0 (aRecs m i A)) := by
  intro m
  induction m with
  | zero =>
    intro i k S A h w hi hk ok
    have hl := (rc_t0 h).2.1
    cases k with
    | zero => omega
    | succ k =>
      simp only [fx1_pulse_L26, sx1_pulse_L26, aRecs]
      rw [nI_0, if_pos (by decide), if_pos (by decide), g2_count (rc_t0 h)]
      exact c_items (nI i) (A.2 0).length 0 kfu S A h w (by omega) (by unfold kfu; omega)
  | succ m ih =>
    intro i k S A h w hi hk ok
    have hl := (rc_t1 h).2.1
    cases k with
    | zero => omega
    | succ k =>
      obtain ⟨ok1, ok2⟩ := ok
      obtain ⟨a1, a2, a3⟩ := c_act h w (r := i) (by omega) ok1
      have el := act_len (A := A) (r := i) (by omega)
      simp only [fx1_pulse_L26, sx1_pulse_L26, aRecs, bnd]
      rw [if_neg (nI_nle (by omega) (by omega)), if_neg (nI_nle (by omega) (by omega)), a2, nI_m1, nI_1]
      by_cases q : (aAct A i).1 = true
      · rw [if_pos q] at ok2 el
        rw [if_pos q, if_neg (show ¬ (1 : Int32) = 0 by decide), if_neg (show ¬ (1 : Int32) = 0 by decide), if_pos q]
        obtain ⟨b1, b2⟩ := ih (i + 1) k _ _ a3 (st_act.1 w) (by omega) (by omega) ok2
        exact ⟨⟨a1, b1⟩, b2⟩
      · rw [if_neg q] at ok2 el
        rw [if_neg q, if_pos (show (0 : Int32) = 0 from rfl), if_pos (show (0 : Int32) = 0 from rfl), if_neg q]
        obtain ⟨b1, b2⟩ := ih i k _ _ a3 (st_act.1 w) (by omega) (by omega) ok2
        exact ⟨⟨a1, b1⟩, b2⟩
theorem c_pulse (h : RC S A) (w : WI A) (ok : okPulse A) : sx1_pulse S ∧ RC (fx1_pulse S) (aPulse A) := by
  obtain ⟨a1, a2⟩ := g2_incr kTab0 (rc_t0 h) (x := 1) (c := 1) rfl (by decide)
  have b1 := rc_p0 h a2
  obtain ⟨d1, d2⟩ := g2_incr kTab1 (rc_t1 b1) (x := 1) (c := 1) rfl (by decide)
  have b2 := rc_p1 b1 d2
  have b3 : RC (stP (stP S 0 (fx2_increase 4 20 80 (stT S 0) 1)) 1 (fx2_increase 6 35 210 (stT (stP S 0 (fx2_increase 4 20 80 (stT S 0) 1)) 1) 1)) (aInc A) := by
    rw [aT_ne _ _ (by decide)] at b2
    exact b2
  have el : ((aInc A).2 1).length = (A.2 1).length := by
    unfold aInc
    rw [aT_same, List.length_map]
  unfold sx1_pulse fx1_pulse
  simp only [bnd]
  rw [g2_count (rc_t1 b3), el]
  have hl := (rc_t1 h).2.1
  obtain ⟨e1, e2⟩ := c_recs (A.2 1).length 0 kfu _ _ b3 (st_inc.1 w) (by omega) (by unfold kfu; omega) ok
  exact ⟨⟨a1, d1, e1⟩, e2⟩
end CLS5
