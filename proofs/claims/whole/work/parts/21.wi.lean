/-! what every step within a tick keeps -/
def WI (A : Ab) : Prop := (A.1 13 = 0 ∨ A.1 13 = 1) ∧ (A.1 15 = 0 ∨ A.1 15 = 1) ∧ (A.1 16 ≠ 0 → A.1 15 = 0) ∧ (∀ z ∈ A.2 0, okI z) ∧ (∀ z ∈ A.2 1, okR z) ∧ (∀ z ∈ A.2 2, okV z)
def kFx (i : Nat) : Prop := i < 6 ∨ (7 ≤ i ∧ i < 12) ∨ i = 13 ∨ i = 14 ∨ i = 17 ∨ i = 1202
def Step (A B : Ab) : Prop := (WI A → WI B) ∧ ∀ i, kFx i → B.1 i = A.1 i
theorem Step.rf {A : Ab} : Step A A := ⟨fun h => h, fun _ _ => rfl⟩
theorem Step.tr {A B C : Ab} (h : Step A B) (h' : Step B C) : Step A C := ⟨fun z => h'.1 (h.1 z), fun i hi => (h'.2 i hi).trans (h.2 i hi)⟩
theorem aS_eq (A : Ab) (i : Nat) (v : Int32) : (aS A i v).1 i = v := if_pos rfl
theorem aS_ne (A : Ab) {i j : Nat} (v : Int32) (h : j ≠ i) : (aS A i v).1 j = A.1 j := if_neg h
section STEP
variable {A : Ab}
theorem st_s {i : Nat} {v : Int32} (h : ¬ kFx i) (h15 : i ≠ 15) (h16 : i ≠ 16) : Step A (aS A i v) := by
  have h13 : i ≠ 13 := fun z => h (by subst z; unfold kFx; omega)
  refine ⟨fun w => ?_, fun j hj => upd_ne _ _ fun z => h (by rw [← z]; exact hj)⟩
  have e13 : (aS A i v).1 13 = A.1 13 := upd_ne _ _ fun z => h13 z.symm
  have e15 : (aS A i v).1 15 = A.1 15 := upd_ne _ _ fun z => h15 z.symm
  have e16 : (aS A i v).1 16 = A.1 16 := upd_ne _ _ fun z => h16 z.symm
  unfold WI
  rw [e13, e15, e16]
  exact w
theorem st_count {i : Nat} (hi : 0 < i ∧ i < 18) : Step A (aCount A i) := st_s (by unfold kFx; omega) (by omega) (by omega)
theorem st_alarm {k : Nat} (hk : k < 5) : Step A (aAlarm A k) := by
  have h := st_count (A := A) (i := 13 + k) (by omega)
  have e13 : ∀ u v : Int32, (aS (aS (aCount A (13 + k)) 16 u) 15 v).1 13 = A.1 13 := fun u v => by
    show upd (upd (aCount A (13 + k)).1 16 u) 15 v 13 = _
    rw [upd_ne _ _ (by omega), upd_ne _ _ (by omega)]
    exact h.2 13 (by unfold kFx; omega)
  unfold aAlarm
  by_cases q : A.1 16 = 0
  · rw [if_pos q]
    refine ⟨fun w => ⟨by rw [e13]; exact w.1, Or.inl (aS_eq _ _ _), fun _ => aS_eq _ _ _, w.2.2.2⟩, fun j hj => ?_⟩
    unfold kFx at hj
    show upd (upd (aCount A (13 + k)).1 16 _) 15 _ j = _
    rw [upd_ne _ _ (by omega), upd_ne _ _ (by omega)]
    exact h.2 j hj
  · rw [if_neg q]
    have f13 : (aS (aCount A (13 + k)) 15 0).1 13 = A.1 13 := by
      show upd (aCount A (13 + k)).1 15 0 13 = _
      rw [upd_ne _ _ (by omega)]
      exact h.2 13 (by unfold kFx; omega)
    refine ⟨fun w => ⟨by rw [f13]; exact w.1, Or.inl (aS_eq _ _ _), fun _ => aS_eq _ _ _, w.2.2.2⟩, fun j hj => ?_⟩
    unfold kFx at hj
    show upd (aCount A (13 + k)).1 15 _ j = _
    rw [upd_ne _ _ (by omega)]
    exact h.2 j hj
theorem st_t0 {l : List kRow} (h : WI A → ∀ z ∈ l, okI z) : Step A (aT A 0 l) := ⟨fun w => ⟨w.1, w.2.1, w.2.2.1, by rw [aT_same]; exact h w, by rw [aT_ne _ _ (by decide)]; exact w.2.2.2.2.1, by rw [aT_ne _ _ (by decide)]; exact w.2.2.2.2.2⟩, fun _ _ => rfl⟩
theorem st_t1 {l : List kRow} (h : WI A → ∀ z ∈ l, okR z) : Step A (aT A 1 l) := ⟨fun w => ⟨w.1, w.2.1, w.2.2.1, by rw [aT_ne _ _ (by decide)]; exact w.2.2.2.1, by rw [aT_same]; exact h w, by rw [aT_ne _ _ (by decide)]; exact w.2.2.2.2.2⟩, fun _ _ => rfl⟩
theorem st_t2 {l : List kRow} (h : WI A → ∀ z ∈ l, okV z) : Step A (aT A 2 l) := ⟨fun w => ⟨w.1, w.2.1, w.2.2.1, by rw [aT_ne _ _ (by decide)]; exact w.2.2.2.1, by rw [aT_ne _ _ (by decide)]; exact w.2.2.2.2.1, by rw [aT_same]; exact h w⟩, fun _ _ => rfl⟩
theorem st_t34 {k : Nat} {l : List kRow} (hk : 3 ≤ k) : Step A (aT A k l) := ⟨fun w => ⟨w.1, w.2.1, w.2.2.1, by rw [aT_ne _ _ (by omega)]; exact w.2.2.2.1, by rw [aT_ne _ _ (by omega)]; exact w.2.2.2.2.1, by rw [aT_ne _ _ (by omega)]; exact w.2.2.2.2.2⟩, fun _ _ => rfl⟩
theorem st_rem {k r : Nat} : Step A (aRem A k r) := by
  rcases (show k = 0 ∨ k = 1 ∨ k = 2 ∨ 3 ≤ k by omega) with rfl | rfl | rfl | h
  · exact st_t0 fun w z hz => w.2.2.2.1 z (List.mem_of_mem_eraseIdx hz)
  · exact st_t1 fun w z hz => w.2.2.2.2.1 z (List.mem_of_mem_eraseIdx hz)
  · exact st_t2 fun w z hz => w.2.2.2.2.2 z (List.mem_of_mem_eraseIdx hz)
  · exact st_t34 h
theorem getD_out {l : List kRow} {k : Nat} (h : l.length ≤ k) : l.getD k kz = kz := by
  rw [List.getD_eq_getElem?_getD, List.getElem?_eq_none h]
  rfl
theorem kRec_ok (w : WI A) (r : Nat) : okR (kRec A r) := by
  by_cases q : r < (A.2 1).length
  · exact w.2.2.2.2.1 _ (getD_mem q)
  · unfold kRec
    rw [getD_out (by omega)]
    exact ⟨Or.inl rfl, Or.inl rfl, Or.inl rfl, Or.inl rfl⟩
theorem kItm_ok (w : WI A) (r : Nat) : okI (kItm A r) := by
  by_cases q : r < (A.2 0).length
  · exact w.2.2.2.1 _ (getD_mem q)
  · unfold kItm
    rw [getD_out (by omega)]
    exact ⟨Or.inl rfl, Or.inl rfl⟩
theorem st_put1 {k c : Nat} {v : Int32} (h : okR (kRec A k) → okR (upd (kRec A k) c v)) : Step A (aPutR A 1 k c v) := st_t1 fun w z hz => by
  rcases List.mem_or_eq_of_mem_set hz with q | q
  · exact w.2.2.2.2.1 z q
  · rw [q]
    exact h (kRec_ok w k)
theorem st_put0 {k c : Nat} {v : Int32} (h : okI (kItm A k) → okI (upd (kItm A k) c v)) : Step A (aPutR A 0 k c v) := st_t0 fun w z hz => by
  rcases List.mem_or_eq_of_mem_set hz with q | q
  · exact w.2.2.2.1 z q
  · rw [q]
    exact h (kItm_ok w k)
theorem okR_2 {r : kRow} {v : Int32} (hv : v = 0 ∨ v = 1 ∨ v = 2 ∨ v = 3) (h : okR r) : okR (upd r 2 v) := ⟨by rw [upd_same]; exact hv, by rw [upd_ne _ _ (by decide)]; exact h.2.1, by rw [upd_ne _ _ (by decide)]; exact h.2.2.1, by rw [upd_ne _ _ (by decide)]; exact h.2.2.2⟩
theorem okR_3 {r : kRow} (h : okR r) : okR (upd r 3 1) := ⟨by rw [upd_ne _ _ (by decide)]; exact h.1, by rw [upd_same]; exact Or.inr rfl, by rw [upd_ne _ _ (by decide)]; exact h.2.2.1, by rw [upd_ne _ _ (by decide)]; exact h.2.2.2⟩
theorem okR_4 {r : kRow} (h : okR r) : okR (upd r 4 1) := ⟨by rw [upd_ne _ _ (by decide)]; exact h.1, by rw [upd_ne _ _ (by decide)]; exact h.2.1, by rw [upd_same]; exact Or.inr rfl, by rw [upd_ne _ _ (by decide)]; exact h.2.2.2⟩
theorem okR_5 {r : kRow} (h : okR r) : okR (upd r 5 1) := ⟨by rw [upd_ne _ _ (by decide)]; exact h.1, by rw [upd_ne _ _ (by decide)]; exact h.2.1, by rw [upd_ne _ _ (by decide)]; exact h.2.2.1, by rw [upd_same]; exact Or.inr rfl⟩
theorem okR_1 {r : kRow} {v : Int32} (h : okR r) : okR (upd r 1 v) := ⟨by rw [upd_ne _ _ (by decide)]; exact h.1, by rw [upd_ne _ _ (by decide)]; exact h.2.1, by rw [upd_ne _ _ (by decide)]; exact h.2.2.1, by rw [upd_ne _ _ (by decide)]; exact h.2.2.2⟩
theorem okI_3 {r : kRow} (h : okI r) : okI (upd r 3 1) := ⟨by rw [upd_ne _ _ (by decide)]; exact h.1, by rw [upd_same]; exact Or.inr rfl⟩
theorem okI_1 {r : kRow} {v : Int32} (h : okI r) : okI (upd r 1 v) := ⟨by rw [upd_ne _ _ (by decide)]; exact h.1, by rw [upd_ne _ _ (by decide)]; exact h.2⟩
theorem st_tells {n c v : Int32} (hv : v = 1 ∨ v = 2 ∨ v = 3) : Step A (aTells A n c v) := by
  unfold aTells
  cases kfind (A.2 1) 0 n with
  | none => exact st_count (by decide)
  | some k =>
    show Step A (if kRec A k 4 = 1 then _ else _)
    (repeat' split) <;> first | exact st_count (by decide) | exact Step.rf | exact st_put1 (okR_2 (Or.inr hv)) | exact st_put1 (okR_2 (Or.inr (Or.inl rfl))) | exact st_put1 (okR_2 (Or.inr (Or.inr (Or.inl rfl))))
theorem tells_n {n c v : Int32} {k : Nat} (hk : k ≠ 1) : (aTells A n c v).2 k = A.2 k := by
  unfold aTells
  cases kfind (A.2 1) 0 n with
  | none => rfl
  | some j =>
    show (if kRec A j 4 = 1 then _ else _ : Ab).2 k = _
    (repeat' split) <;> first | rfl | exact aT_ne _ _ hk
theorem st_tellL : ∀ (l : List kRow) {A : Ab}, (∀ z ∈ l, okV z) → Step A (aTellL A l) := by
  intro l
  induction l with
  | nil => intro A _; exact Step.rf
  | cons v t ih =>
    intro A h
    exact (st_tells (h v (List.mem_cons_self ..)).2).tr (ih fun z hz => h z (List.mem_cons_of_mem _ hz))
theorem tellL_n {k : Nat} (hk : k ≠ 1) : ∀ (l : List kRow) {A : Ab}, (aTellL A l).2 k = A.2 k := by
  intro l
  induction l with
  | nil => intro A; rfl
  | cons v t ih => intro A; exact (ih (A := aTells A (v 1) (v 2) (v 3))).trans (tells_n hk)
theorem Step.mk' {A B : Ab} (h : WI A → Step A B) (h' : ∀ i, kFx i → B.1 i = A.1 i) : Step A B := ⟨fun w => (h w).1 w, h'⟩
theorem alarm_n {k j : Nat} : (aAlarm A k).2 j = A.2 j := by
  unfold aAlarm
  split <;> rfl
theorem st_confirm : Step A (aConfirm A) := by
  unfold aConfirm
  split
  · exact st_alarm (by decide)
  · exact st_rem.tr (st_count (by decide))
theorem confirm_n {k : Nat} (hk : k ≠ 4) : (aConfirm A).2 k = A.2 k := by
  unfold aConfirm
  split
  · exact alarm_n
  · exact aT_ne _ _ hk
theorem st_confL : ∀ (l : List kRow) {A : Ab}, Step A (aConfL A l) := by
  intro l
  induction l with
  | nil => intro A; exact Step.rf
  | cons v t ih => intro A; exact st_confirm.tr ih
theorem confL_n {k : Nat} (hk : k ≠ 4) : ∀ (l : List kRow) {A : Ab}, (aConfL A l).2 k = A.2 k := by
  intro l
  induction l with
  | nil => intro A; rfl
  | cons v t ih => intro A; exact (ih (A := aConfirm A)).trans (confirm_n hk)
theorem st_alarmL : ∀ (l : List kRow) {A : Ab}, Step A (aAlarmL A l) := by
  intro l
  induction l with
  | nil => intro A; exact Step.rf
  | cons v t ih => intro A; exact (st_alarm (by decide)).tr ih
theorem alarmL_n {k : Nat} : ∀ (l : List kRow) {A : Ab}, (aAlarmL A l).2 k = A.2 k := by
  intro l
  induction l with
  | nil => intro A; rfl
  | cons v t ih => intro A; exact (ih (A := aAlarm A 2)).trans alarm_n
theorem st_deliver (w : WI A) : Step A (aDeliver A) := by
  unfold aDeliver
  refine (st_tellL _ fun z hz => w.2.2.2.2.2 z (List.mem_filter.mp hz).1).tr (st_t2 fun _ z hz => w.2.2.2.2.2 z (List.mem_filter.mp hz).1)
theorem st_arrive : Step A (aArrive A) := (st_confL _).tr (st_t34 (by decide))
theorem st_overdue : Step A (aOverdue A) := (st_alarmL _).tr (st_t34 (by decide))
theorem st_label {r : Nat} : Step A (aLabel A r) := by
  have h6 : ∀ v, Step A (aS A 6 v) := fun v => st_s (by unfold kFx; omega) (by omega) (by omega)
  unfold aLabel
  split
  · split
    · exact st_put1 okR_3
    · cases aItemAt (aS A 6 (A.1 6 - 1)) 7 with
      | none => exact (h6 _).tr (st_count (by decide))
      | some k => exact (h6 _).tr (st_put0 okI_3)
  · exact st_put1 okR_3
theorem seen_ok {o : Option Nat} {c : Int32} : aSeen A o c = 1 ∨ aSeen A o c = 2 ∨ aSeen A o c = 3 := by
  unfold aSeen
  cases o with
  | none => exact Or.inr (Or.inl rfl)
  | some k =>
    show (if kItm A k 3 = 0 then (2 : Int32) else _) = 1 ∨ (if kItm A k 3 = 0 then (2 : Int32) else _) = 2 ∨ (if kItm A k 3 = 0 then (2 : Int32) else _) = 3
    (repeat' split) <;> first | exact Or.inl rfl | exact Or.inr (Or.inl rfl) | exact Or.inr (Or.inr rfl)
theorem st_look {r c : Nat} (hc : c < 2) : Step A (aLook A r c) := by
  unfold aLook
  refine (st_s (i := 2001 + c) (by unfold kFx; omega) (by omega) (by omega)).tr (st_t2 fun w z hz => ?_)
  rcases List.mem_append.mp hz with q | q
  · exact w.2.2.2.2.2 z q
  · rw [List.mem_singleton.mp q]
    refine ⟨?_, seen_ok⟩
    rcases (show c = 0 ∨ c = 1 by omega) with rfl | rfl
    · exact Or.inl rfl
    · exact Or.inr rfl
theorem st_leave {r how : Nat} (hh : 0 < how ∧ how < 18) : Step A (aLeave A r how) := by
  unfold aLeave
  refine Step.tr (B := if kRec A r 0 = A.1 1202 then aS A 1201 (nI how) else A) ?_ ((st_count hh).tr st_rem)
  split
  · exact st_s (by unfold kFx; omega) (by omega) (by omega)
  · exact Step.rf
theorem st_divert : Step A (aDivert A) := by
  unfold aDivert
  cases aItemAt A 10 with
  | none => exact Step.rf
  | some k => exact (st_rem.tr (st_t34 (by decide))).tr (st_s (by unfold kFx; omega) (by omega) (by omega))
theorem st_expect : Step A (aExpect A) := (st_t34 (by decide)).tr (st_s (by unfold kFx; omega) (by omega) (by omega))
theorem st_limit : Step A (aLimit A) := by
  unfold aLimit
  split
  · exact Step.rf
  · exact (st_alarm (by decide)).tr (st_s (by unfold kFx; omega) (by omega) (by omega))
theorem cause_lt {r : Nat} : aCause A r < 18 := by
  unfold aCause
  (repeat' split) <;> decide
theorem cause_ok {r : Nat} : 0 < aCause A r ∧ aCause A r < 18 := by
  unfold aCause
  (repeat' split) <;> decide
theorem st_reject {r : Nat} : Step A (aReject A r) := (st_count cause_ok).tr ((st_leave (by decide)).tr (st_divert.tr (st_expect.tr st_limit)))
theorem st_gate {r : Nat} : Step A (aGate A r).2 := by
  unfold aGate
  split
  · exact (st_put1 okR_4).tr (st_s (by unfold kFx; omega) (by omega) (by omega))
  · exact st_reject
theorem st_act {r : Nat} : Step A (aAct A r).2 := by
  unfold aAct
  split
  · exact st_label
  · split
    · exact st_look (by decide)
    · split
      · show Step A (if kRec A r 2 = 3 then aLook A r 1 else A)
        split
        · exact st_look (by decide)
        · exact Step.rf
      · split
        · exact st_gate
        · split
          · exact Step.rf
          · exact st_leave (by split <;> decide)
theorem st_recs : ∀ (m i : Nat) {A : Ab}, Step A (aRecs m i A) := by
  intro m
  induction m with
  | zero => intro i A; exact Step.rf
  | succ m ih =>
    intro i A
    unfold aRecs
    split
    · exact st_act.tr (ih _)
    · exact st_act.tr (ih _)
theorem st_exit1 : Step A (aExit1 A) := by
  unfold aExit1
  cases aRecFor A with
  | none => exact (st_count (by decide)).tr (st_alarm (by decide))
  | some r => exact st_put1 okR_5
theorem st_exit {k : Nat} : Step A (aExit A k) := st_rem.tr ((st_count (by decide)).tr st_exit1)
theorem st_items : ∀ (m i : Nat) {A : Ab}, Step A (aItems m i A) := by
  intro m
  induction m with
  | zero => intro i A; exact Step.rf
  | succ m ih =>
    intro i A
    unfold aItems
    split
    · exact st_exit.tr (ih _)
    · exact ih _
theorem st_inc : Step A (aInc A) := by
  unfold aInc
  refine (st_t0 fun w z hz => ?_).tr (st_t1 fun w z hz => ?_)
  · obtain ⟨y, hy, rfl⟩ := List.mem_map.mp hz
    exact okI_1 (w.2.2.2.1 y hy)
  · obtain ⟨y, hy, rfl⟩ := List.mem_map.mp hz
    exact okR_1 (w.2.2.2.2.1 y hy)
theorem st_pulse : Step A (aPulse A) := st_inc.tr ((st_recs _ _).tr (st_items _ _))
theorem st_pulses : ∀ (m : Nat) {A : Ab}, Step A (aPulses m A) := by
  intro m
  induction m with
  | zero => intro A; exact Step.rf
  | succ m ih =>
    intro A
    unfold aPulses
    split
    · exact Step.rf
    · exact st_pulse.tr ih
theorem wi_tick (w : WI A) : WI (aTick A) := by
  have h1 : WI (aS A 14 (A.1 14 + 1)) := by
    unfold WI
    rw [aS_ne A (i := 14) (j := 13) _ (by decide), aS_ne A (i := 14) (j := 15) _ (by decide), aS_ne A (i := 14) (j := 16) _ (by decide)]
    exact w
  exact (st_pulses _).1 (st_overdue.1 (st_arrive.1 ((st_deliver h1).1 h1)))
end STEP
