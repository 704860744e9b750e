/-! the abstract station: what its methods do -/
def opI (o : Option Nat) : Int32 := match o with
  | none => -1
  | some j => nI j
/-- the row with this number -/
def kfind : List kRow → Nat → Int32 → Option Nat
  | [], _, _ => none
  | r :: t, i, x => if r 0 = x then some i else kfind t (i + 1) x
theorem kff_find (x : Int32) : ∀ (l : List kRow) (i : Nat), kff l i x = opI (kfind l i x) := by
  intro l
  induction l with
  | nil => intro i; rfl
  | cons r t ih =>
    intro i
    simp only [kff, kfind]
    by_cases q : r 0 = x
    · rw [if_pos q, if_pos q]; rfl
    · rw [if_neg q, if_neg q]; exact ih (i + 1)
theorem kfind_lt {x : Int32} {j : Nat} : ∀ (l : List kRow) (i : Nat), kfind l i x = some j → i ≤ j ∧ j < i + l.length ∧ l.getD (j - i) kz 0 = x := by
  intro l
  induction l with
  | nil => intro i h; cases h
  | cons r t ih =>
    intro i h
    simp only [kfind] at h
    by_cases q : r 0 = x
    · rw [if_pos q] at h
      cases h
      refine ⟨Nat.le_refl _, by simp only [List.length_cons]; omega, ?_⟩
      rw [Nat.sub_self]
      exact q
    · rw [if_neg q] at h
      obtain ⟨a1, a2, a3⟩ := ih (i + 1) h
      refine ⟨by omega, by simp only [List.length_cons]; omega, ?_⟩
      rw [show j - i = (j - (i + 1)) + 1 by omega]
      exact a3
theorem kfind_0 {x : Int32} {j : Nat} {l : List kRow} (h : kfind l 0 x = some j) : j < l.length ∧ l.getD j kz 0 = x := by
  obtain ⟨-, a2, a3⟩ := kfind_lt l 0 h
  rw [Nat.sub_zero] at a3
  exact ⟨by omega, a3⟩
def kabs (x : Int32) : Int32 := if 0 ≤ x then x else 0 - x
/-- of the rows that p allows the nearest one, of equally near ones the first -/
def knr (p : kRow → Bool) (w : Int32) : List kRow → Nat → Int32 → Option Nat → Option Nat
  | [], _, _, a => a
  | r :: t, i, b, a => if p r = true then (if b ≤ kabs (r 1 - w) then knr p w t (i + 1) b a else knr p w t (i + 1) (kabs (r 1 - w)) (some i)) else knr p w t (i + 1) b a
theorem knr_lt {p : kRow → Bool} {w : Int32} {j : Nat} : ∀ (l : List kRow) (i : Nat) (b : Int32) (a : Option Nat), (∀ k, a = some k → k < i) → knr p w l i b a = some j → j < i + l.length := by
  intro l
  induction l with
  | nil => intro i b a h1 h2; have := h1 j h2; simp only [List.length_nil]; omega
  | cons r t ih =>
    intro i b a h1 h2
    simp only [knr] at h2
    simp only [List.length_cons]
    have e1 : ∀ k, a = some k → k < i + 1 := fun k z => Nat.lt_succ_of_lt (h1 k z)
    have e2 : ∀ k, some i = some k → k < i + 1 := fun k z => by cases z; omega
    by_cases q : p r = true
    · rw [if_pos q] at h2
      by_cases q2 : b ≤ kabs (r 1 - w)
      · rw [if_pos q2] at h2
        have := ih _ _ _ e1 h2
        omega
      · rw [if_neg q2] at h2
        have := ih _ _ _ e2 h2
        omega
    · rw [if_neg q] at h2
      have := ih _ _ _ e1 h2
      omega
def pAny : kRow → Bool := fun _ => true
def pOpen : kRow → Bool := fun r => decide (r 4 = 1 ∧ r 5 = 0)
def aItemAt (A : Ab) (i : Nat) : Option Nat := knr pAny (A.1 i) (A.2 0) 0 (A.1 5 + 1) none
def aRecFor (A : Ab) : Option Nat := knr pOpen (A.1 11) (A.2 1) 0 (A.1 5 + 1) none
theorem aItemAt_lt {A : Ab} {i j : Nat} (h : aItemAt A i = some j) : j < (A.2 0).length := by
  have := knr_lt _ _ _ _ (fun k z => by cases z) h
  omega
theorem aRecFor_lt {A : Ab} {j : Nat} (h : aRecFor A = some j) : j < (A.2 1).length := by
  have := knr_lt _ _ _ _ (fun k z => by cases z) h
  omega
def aAlarm (A : Ab) (k : Nat) : Ab := if A.1 16 = 0 then aS (aS (aCount A (13 + k)) 16 (nI k)) 15 0 else aS (aCount A (13 + k)) 15 0
def kRec (A : Ab) (r : Nat) : kRow := (A.2 1).getD r kz
def kItm (A : Ab) (r : Nat) : kRow := (A.2 0).getD r kz
def aTells (A : Ab) (n c v : Int32) : Ab := match kfind (A.2 1) 0 n with
  | none => aCount A 4
  | some k => if kRec A k 4 = 1 then aCount A 4 else if c = 0 then (if kRec A k 2 = 0 then aPutR A 1 k 2 v else A) else if kRec A k 2 = 1 then A else if kRec A k 2 = 2 then A else aPutR A 1 k 2 (if v = 1 then 1 else 2)
def aTellL (A : Ab) (l : List kRow) : Ab := l.foldl (fun B v => aTells B (v 1) (v 2) (v 3)) A
def aDeliver (A : Ab) : Ab := aT (aTellL A ((A.2 2).filter (fun r => decide (r 0 = A.1 14)))) 2 ((A.2 2).filter (fun r => decide (¬ r 0 = A.1 14)))
def aConfirm (A : Ab) : Ab := if (A.2 4).length = 0 then aAlarm A 3 else aCount (aRem A 4 0) 6
def aConfL (A : Ab) (l : List kRow) : Ab := l.foldl (fun B _ => aConfirm B) A
def aArrive (A : Ab) : Ab := aT (aConfL A ((A.2 3).filter (fun r => decide (r 0 = A.1 14)))) 3 ((A.2 3).filter (fun r => decide (¬ r 0 = A.1 14)))
def aAlarmL (A : Ab) (l : List kRow) : Ab := l.foldl (fun B _ => aAlarm B 2) A
def aOverdue (A : Ab) : Ab := aT (aAlarmL A ((A.2 4).filter (fun r => decide (¬ A.1 14 ≤ r 0)))) 4 ((A.2 4).filter (fun r => decide (A.1 14 ≤ r 0)))
def aLabel (A : Ab) (r : Nat) : Ab := if A.1 13 = 0 then (if A.1 6 = 0 then aPutR A 1 r 3 1 else match aItemAt (aS A 6 (A.1 6 - 1)) 7 with
  | none => aCount (aS A 6 (A.1 6 - 1)) 5
  | some k => aPutR (aS A 6 (A.1 6 - 1)) 0 k 3 1) else aPutR A 1 r 3 1
def aSeen (A : Ab) (o : Option Nat) (c : Int32) : Int32 := match o with
  | none => 2
  | some k => if kItm A k 3 = 0 then 2 else if kItm A k 2 = 0 then 1 else if kItm A k 2 = 1 then 2 else if kItm A k 2 = 2 then (if c = 0 then 3 else 1) else 3
/-- a camera takes: a verdict is on its way; columns: due, record, camera, result; 4: when (for the proof alone) -/
def aLook (A : Ab) (r c : Nat) : Ab := aPush (aS A (2001 + c) (A.1 14)) 2 (fun i => if i = 0 then A.1 14 + A.1 1 else if i = 1 then kRec A r 0 else if i = 2 then nI c else if i = 3 then aSeen A (aItemAt A (8 + c)) (nI c) else A.1 14)
def aLeave (A : Ab) (r how : Nat) : Ab := aRem (aCount (if kRec A r 0 = A.1 1202 then aS A 1201 (nI how) else A) how) 1 r
def aDivert (A : Ab) : Ab := match aItemAt A 10 with
  | none => A
  | some k => aS (aPush (aRem A 0 k) 3 (fun i => if i = 0 then A.1 14 + A.1 2 else if i = 1 then A.1 14 else 0)) 35 (A.1 35 + 1)
def aExpect (A : Ab) : Ab := aS (aPush A 4 (fun i => if i = 0 then A.1 14 + A.1 3 else if i = 1 then A.1 14 else 0)) 12 (A.1 12 + 1)
def aLimit (A : Ab) : Ab := if A.1 12 < A.1 4 then A else aS (aAlarm A 1) 12 0
def aCause (A : Ab) (r : Nat) : Nat := if kRec A r 3 = 1 then 10 else if kRec A r 2 = 2 then 11 else if kRec A r 2 = 3 then 12 else 13
def aReject (A : Ab) (r : Nat) : Ab := aLimit (aExpect (aDivert (aLeave (aCount A (aCause A r)) r 2)))
def aGate (A : Ab) (r : Nat) : Bool × Ab := if kRec A r 2 = 1 ∧ kRec A r 3 = 0 then (true, aS (aPutR A 1 r 4 1) 12 0) else (false, aReject A r)
def aAct (A : Ab) (r : Nat) : Bool × Ab := if kRec A r 1 = A.1 7 then (true, aLabel A r) else if kRec A r 1 = A.1 8 then (true, aLook A r 0) else if kRec A r 1 = A.1 9 then (true, if kRec A r 2 = 3 then aLook A r 1 else A) else if kRec A r 1 = A.1 10 then aGate A r else if kRec A r 1 ≤ A.1 11 + A.1 5 then (true, A) else (false, aLeave A r (if kRec A r 5 = 1 then 1 else 3))
def aRecs : Nat → Nat → Ab → Ab
  | 0, _, A => A
  | m + 1, i, A => if (aAct A i).1 = true then aRecs m (i + 1) (aAct A i).2 else aRecs m i (aAct A i).2
def aExit1 (A : Ab) : Ab := match aRecFor A with
  | none => aAlarm (aCount A 9) 4
  | some r => aPutR A 1 r 5 1
def aExit (A : Ab) (k : Nat) : Ab := aExit1 (aCount (aRem A 0 k) 8)
def aItems : Nat → Nat → Ab → Ab
  | 0, _, A => A
  | m + 1, i, A => if kItm A i 1 = A.1 11 then aItems m i (aExit A i) else aItems m (i + 1) A
def kinc (r : kRow) : kRow := upd r 1 (r 1 + 1)
def aInc (A : Ab) : Ab := aT (aT A 0 ((A.2 0).map kinc)) 1 ((A.2 1).map kinc)
def aPulse (A : Ab) : Ab := aItems ((aRecs (A.2 1).length 0 (aInc A)).2 0).length 0 (aRecs (A.2 1).length 0 (aInc A))
def aPulses : Nat → Ab → Ab
  | 0, A => A
  | m + 1, A => if A.1 15 = 0 then A else aPulses m (aPulse A)
def aPre (A : Ab) : Ab := aOverdue (aArrive (aDeliver (aS A 14 (A.1 14 + 1))))
def aTick (A : Ab) : Ab := aPulses ((aPre A).1 0).toNatClampNeg (aPre A)
def aRuns : Nat → Ab → Ab
  | 0, A => A
  | m + 1, A => aRuns m (aTick A)
def aRoom (A : Ab) : Bool := decide ((A.2 0).length < 20) && (kbel (A.2 0) 1 30 == 0) && (kbel (A.2 1) 1 30 == 0)
def aEnter (A : Ab) (q : Int32) : Ab := aPush (aPush (aCount A 0) 0 (upd (upd kz 0 (A.1 17)) 2 q)) 1 (upd kz 0 (A.1 17))
