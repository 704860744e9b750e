/-! without a watched record the fate stays 0 -/
def NW (A : Ab) : Prop := ∀ z ∈ A.2 1, z 0 ≠ A.1 1202
def SN (A B : Ab) : Prop := NW A → NW B ∧ B.1 1201 = A.1 1201 ∧ B.1 1202 = A.1 1202
theorem SN.rf {A : Ab} : SN A A := fun h => ⟨h, rfl, rfl⟩
theorem SN.tr {A B C : Ab} (h : SN A B) (h' : SN B C) : SN A C := fun z => by
  obtain ⟨a1, a2, a3⟩ := h z
  obtain ⟨b1, b2, b3⟩ := h' a1
  exact ⟨b1, b2.trans a2, b3.trans a3⟩
section SNS
variable {A : Ab}
theorem sn_s {i : Nat} {v : Int32} (h1 : i ≠ 1201) (h2 : i ≠ 1202) : SN A (aS A i v) := fun z => by
  have e2 : (aS A i v).1 1202 = A.1 1202 := aS_ne _ _ fun q => h2 q.symm
  refine ⟨fun x hx => ?_, aS_ne _ _ fun q => h1 q.symm, e2⟩
  rw [e2]
  exact z x hx
theorem sn_count {i : Nat} (h : i < 18) : SN A (aCount A i) := sn_s (by omega) (by omega)
theorem sn_alarm {k : Nat} (h : k < 5) : SN A (aAlarm A k) := by
  unfold aAlarm
  split
  · exact (sn_count (by omega)).tr ((sn_s (by decide) (by decide)).tr (sn_s (by decide) (by decide)))
  · exact (sn_count (by omega)).tr (sn_s (by decide) (by decide))
theorem sn_t {k : Nat} {l : List kRow} (h : k ≠ 1) : SN A (aT A k l) := fun z => by
  refine ⟨fun x hx => ?_, rfl, rfl⟩
  rw [aT_ne _ _ (fun q => h q.symm)] at hx
  exact z x hx
theorem sn_t1 {l : List kRow} (h : ∀ x ∈ l, ∃ y ∈ A.2 1, x 0 = y 0) : SN A (aT A 1 l) := fun z => by
  refine ⟨fun x hx => ?_, rfl, rfl⟩
  rw [aT_same] at hx
  obtain ⟨y, hy, e⟩ := h x hx
  rw [e]
  exact z y hy
theorem sn_rem {k r : Nat} : SN A (aRem A k r) := by
  by_cases q : k = 1
  · subst q
    exact sn_t1 fun x hx => ⟨x, List.mem_of_mem_eraseIdx hx, rfl⟩
  · exact sn_t q
theorem sn_put {k r c : Nat} {v : Int32} (hr : r < (A.2 k).length ∨ k ≠ 1) (hc : c ≠ 0) : SN A (aPutR A k r c v) := by
  by_cases q : k = 1
  · subst q
    have hr' : r < (A.2 1).length := hr.resolve_right fun z => z rfl
    refine sn_t1 fun x hx => ?_
    rcases List.mem_or_eq_of_mem_set hx with y | y
    · exact ⟨x, y, rfl⟩
    · exact ⟨_, getD_mem hr', by rw [y, upd_ne _ _ fun z => hc z.symm]⟩
  · exact sn_t q
theorem sn_tells {n c v : Int32} : SN A (aTells A n c v) := by
  unfold aTells
  cases e : kfind (A.2 1) 0 n with
  | none => exact sn_count (by decide)
  | some k =>
    have hk := (kfind_0 e).1
    show SN A (if kRec A k 4 = 1 then _ else _)
    (repeat' split) <;> first | exact sn_count (by decide) | exact SN.rf | exact sn_put (Or.inl hk) (by decide)
theorem sn_tellL : ∀ (l : List kRow) {A : Ab}, SN A (aTellL A l) := by
  intro l
  induction l with
  | nil => intro A; exact SN.rf
  | cons v t ih => intro A; exact sn_tells.tr ih
theorem sn_deliver : SN A (aDeliver A) := (sn_tellL _).tr (sn_t (by decide))
theorem sn_confirm : SN A (aConfirm A) := by
  unfold aConfirm
  split
  · exact sn_alarm (by decide)
  · exact sn_rem.tr (sn_count (by decide))
theorem sn_confL : ∀ (l : List kRow) {A : Ab}, SN A (aConfL A l) := by
  intro l
  induction l with
  | nil => intro A; exact SN.rf
  | cons v t ih => intro A; exact sn_confirm.tr ih
theorem sn_alarmL : ∀ (l : List kRow) {A : Ab}, SN A (aAlarmL A l) := by
  intro l
  induction l with
  | nil => intro A; exact SN.rf
  | cons v t ih => intro A; exact (sn_alarm (by decide)).tr ih
theorem sn_arrive : SN A (aArrive A) := (sn_confL _).tr (sn_t (by decide))
theorem sn_overdue : SN A (aOverdue A) := (sn_alarmL _).tr (sn_t (by decide))
theorem sn_label {r : Nat} (hr : r < (A.2 1).length) : SN A (aLabel A r) := by
  unfold aLabel
  split
  · split
    · exact sn_put (Or.inl hr) (by decide)
    · cases aItemAt (aS A 6 (A.1 6 - 1)) 7 with
      | none => exact (sn_s (by decide) (by decide)).tr (sn_count (by decide))
      | some k => exact (sn_s (by decide) (by decide)).tr (sn_put (Or.inr (by decide)) (by decide))
  · exact sn_put (Or.inl hr) (by decide)
theorem sn_look {r c : Nat} : SN A (aLook A r c) := (sn_s (i := 2001 + c) (by omega) (by omega)).tr (sn_t (by decide))
theorem sn_leave {r how : Nat} (hr : r < (A.2 1).length) (hh : how < 18) : SN A (aLeave A r how) := fun z => by
  unfold aLeave
  rw [if_neg (z (kRec A r) (getD_mem hr))]
  exact ((sn_count hh).tr sn_rem) z
theorem sn_divert : SN A (aDivert A) := by
  unfold aDivert
  cases aItemAt A 10 with
  | none => exact SN.rf
  | some k => exact (sn_rem.tr (sn_t (by decide))).tr (sn_s (by decide) (by decide))
theorem sn_expect : SN A (aExpect A) := (sn_t (by decide)).tr (sn_s (by decide) (by decide))
theorem sn_limit : SN A (aLimit A) := by
  unfold aLimit
  split
  · exact SN.rf
  · exact (sn_alarm (by decide)).tr (sn_s (by decide) (by decide))
theorem sn_reject {r : Nat} (hr : r < (A.2 1).length) : SN A (aReject A r) := by
  have h2 : r < ((aCount A (aCause A r)).2 1).length := hr
  have a1 : SN A (aCount A (aCause A r)) := sn_count cause_lt
  have a2 : SN (aCount A (aCause A r)) (aLeave (aCount A (aCause A r)) r 2) := sn_leave h2 (by decide)
  unfold aReject
  exact a1.tr (a2.tr (sn_divert.tr (sn_expect.tr sn_limit)))
theorem sn_act {r : Nat} (hr : r < (A.2 1).length) : SN A (aAct A r).2 := by
  unfold aAct
  split
  · exact sn_label hr
  · split
    · exact sn_look
    · split
      · show SN A (if kRec A r 2 = 3 then aLook A r 1 else A)
        split
        · exact sn_look
        · exact SN.rf
      · split
        · unfold aGate
          split
          · exact (sn_put (Or.inl hr) (by decide)).tr (sn_s (by decide) (by decide))
          · exact sn_reject hr
        · split
          · exact SN.rf
          · exact sn_leave hr (by split <;> decide)
theorem sn_recs : ∀ (m i : Nat) {A : Ab}, i + m = (A.2 1).length → SN A (aRecs m i A) := by
  intro m
  induction m with
  | zero => intro i A _; exact SN.rf
  | succ m ih =>
    intro i A h
    have el := act_len (A := A) (r := i) (by omega)
    unfold aRecs
    split
    · rename_i q
      rw [if_pos q] at el
      exact (sn_act (by omega)).tr (ih _ (by omega))
    · rename_i q
      rw [if_neg q] at el
      exact (sn_act (by omega)).tr (ih _ (by omega))
theorem sn_exit1 : SN A (aExit1 A) := by
  unfold aExit1
  cases e : aRecFor A with
  | none => exact (sn_count (by decide)).tr (sn_alarm (by decide))
  | some r => exact sn_put (Or.inl (aRecFor_lt e)) (by decide)
theorem sn_items : ∀ (m i : Nat) {A : Ab}, SN A (aItems m i A) := by
  intro m
  induction m with
  | zero => intro i A; exact SN.rf
  | succ m ih =>
    intro i A
    unfold aItems
    split
    · exact (sn_rem.tr ((sn_count (by decide)).tr sn_exit1)).tr (ih _)
    · exact ih _
theorem sn_inc : SN A (aInc A) := by
  unfold aInc
  refine (sn_t (by decide)).tr (sn_t1 fun x hx => ?_)
  obtain ⟨y, hy, rfl⟩ := List.mem_map.mp hx
  exact ⟨y, by rw [aT_ne _ _ (by decide)]; exact hy, rfl⟩
theorem sn_pulse : SN A (aPulse A) := by
  have el : ((aInc A).2 1).length = (A.2 1).length := by
    unfold aInc
    rw [aT_same, List.length_map]
  exact sn_inc.tr ((sn_recs _ _ (by omega)).tr (sn_items _ _))
theorem sn_pulses : ∀ (m : Nat) {A : Ab}, SN A (aPulses m A) := by
  intro m
  induction m with
  | zero => intro A; exact SN.rf
  | succ m ih =>
    intro A
    unfold aPulses
    split
    · exact SN.rf
    · exact sn_pulse.tr ih
theorem sn_tick : SN A (aTick A) := by
  have h : SN A (aPre A) := (sn_s (by decide) (by decide)).tr (sn_deliver.tr (sn_arrive.tr sn_overdue))
  exact h.tr (sn_pulses _)
end SNS
def FZ (A : Ab) : Prop := A.1 1201 = 0 ∧ A.1 1202 = -1
/-- what holds of every state between calls -/
def GA (B : Int) (A : Ab) : Prop := RIe B A ∧ FZ A
section FZS
variable {A A' : Ab} {B : Int}
theorem neg1_toInt : (-1 : Int32).toInt = -1 := by decide
theorem nw_of (h : GA B A) : NW A := by
  obtain ⟨⟨p1, p2, h1⟩, h2⟩ := h
  intro z hz e
  have := (h1.2.2.2.2.2.1 (rv z) (List.mem_map_of_mem hz)).1
  have e2 : (rv z).1 = (z 0).toInt := rfl
  rw [e2, e, h2.2, neg1_toInt] at this
  omega
theorem ga_tick (hB : B + 1 ≤ 1000000000) (h : GA B A) : GA (B + 1) (aTick A) := by
  obtain ⟨a1, a2, a3⟩ := sn_tick (nw_of h)
  exact ⟨(rie_tick hB h.1).2, a2.trans h.2.1, a3.trans h.2.2⟩
theorem ga_enter (hB : B + 1 ≤ 1000000000) (h : GA B A) (hr : aRoom A = true) {q : Int32} (hq : q = 0 ∨ q = 1 ∨ q = 2 ∨ q = 3) : GA (B + 1) (aEnter A q) := by
  have f : ∀ i, i ≠ 17 → (aEnter A q).1 i = A.1 i := fun i hi => upd_ne _ _ hi
  exact ⟨(rie_enter hB h.1 hr hq).2.2, (f 1201 (by decide)).trans h.2.1, (f 1202 (by decide)).trans h.2.2⟩
theorem ga_mono (h : GA B A) {B' : Int} (hB : B ≤ B') : GA B' A := ⟨rie_mono h.1 hB, h.2⟩
theorem ga_scal (h : GA B A) (e2 : A'.2 = A.2) (w : WI A') (c : CI A') (e8 : A'.1 8 = A.1 8) (e9 : A'.1 9 = A.1 9) (e10 : A'.1 10 = A.1 10) (e14 : A'.1 14 = A.1 14) (e17 : A'.1 17 = A.1 17) (e1 : A'.1 1201 = A.1 1201) (e2' : A'.1 1202 = A.1 1202) : GA B A' := ⟨rie_scal h.1 e2 w c e8 e9 e10 e14 e17, e1.trans h.2.1, e2'.trans h.2.2⟩
end FZS
