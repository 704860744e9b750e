/-! the class does what the abstract station does: the gate -/
section CLS4
variable {S : St} {A : Ab}
theorem c_cause (h : RC S A) {r : Nat} (hr : r < (A.2 1).length) : fx1_causeOf S (nI r) = nI (aCause A r) := by
  unfold fx1_causeOf aCause
  rw [g2_get kTab1 (rc_t1 h) hr (x := 3) (c := 3) rfl (by decide), g2_get kTab1 (rc_t1 h) hr (x := 2) (c := 2) rfl (by decide)]
  unfold kRec
  (repeat' split) <;> rfl
theorem c_leave (h : RC S A) {r : Nat} (hr : r < (A.2 1).length) {x : Int32} {how : Nat} (hx : x = nI how) (hh : how < 18) : sx1_leaveRegister S (nI r) x ∧ RC (fx1_leaveRegister S (nI r) x) (aLeave A r how) := by
  unfold sx1_leaveRegister fx1_leaveRegister aLeave
  simp only [bnd]
  rw [g2_get kTab1 (rc_t1 h) hr (x := 0) (c := 0) rfl (by decide), rc_wat h]
  have key : ∀ {S : St} {B : Ab}, RC S B → B.2 1 = A.2 1 → sx2_removeRow 6 35 210 (stT (fx1_count S x) 1) (nI r) ∧ RC (stP (fx1_count S x) 1 (fx2_removeRow 6 35 210 (stT (fx1_count S x) 1) (nI r))) (aRem (aCount B how) 1 r) := fun {S B} hB e => by
    have h1 := rc_count hB hx hh
    obtain ⟨a1, a2⟩ := g2_rem kTab1 (rc_t1 h1) (r := r) (by show r < (B.2 1).length; rw [e]; exact hr)
    exact ⟨a1, rc_p1 h1 a2⟩
  show (if kRec A r 0 = A.1 1202 then _ else _) ∧ RC (if kRec A r 0 = A.1 1202 then _ else _) _
  by_cases q : kRec A r 0 = A.1 1202
  · rw [if_pos q, if_pos q, if_pos q]
    have h2 := rc_s3 h (a := 7) (by decide) x
    rw [hx] at h2
    have := key h2 rfl
    rw [hx] at this ⊢
    exact this
  · rw [if_neg q, if_neg q, if_neg q]
    exact key h rfl
theorem leave_n {r how k : Nat} (hk : k ≠ 1) : (aLeave A r how).2 k = A.2 k := by
  unfold aLeave
  split
  · exact aT_ne _ _ hk
  · exact aT_ne _ _ hk
theorem divert_n {k : Nat} (h0 : k ≠ 0) (h3 : k ≠ 3) : (aDivert A).2 k = A.2 k := by
  unfold aDivert
  cases aItemAt A 10 with
  | none => rfl
  | some j => exact (aT_ne _ _ h3).trans (aT_ne _ _ h0)
theorem c_tail {X : St} {B : Ab} (h : RC X B) (w : WI B) (he : (B.2 4).length < 101) : sx2_addRow 1 101 101 (stT X 4) (B.1 14 + B.1 3) ∧ ∀ T1, T1 = (fx2_addRow 1 101 101 (stT X 4) (B.1 14 + B.1 3)).2 → RC (if ((stP X 4 T1) 3 4) + 1 < fx1_setting (sset (stP X 4 T1) 3 4 (((stP X 4 T1) 3 4) + 1)) 4 then sset (stP X 4 T1) 3 4 (((stP X 4 T1) 3 4) + 1) else sset (fx1_raise (sset (stP X 4 T1) 3 4 (((stP X 4 T1) 3 4) + 1)) 1) 3 4 0) (aLimit (aExpect B)) := by
  obtain ⟨a1, a2, a3⟩ := g2_add kTab4 (rc_t4 h) he (B.1 14 + B.1 3)
  refine ⟨a1, fun T1 e => ?_⟩
  rw [← e] at a3
  have b1 := rc_p4 h (l := B.2 4 ++ [fun i => if i = 0 then B.1 14 + B.1 3 else if i = 1 then B.1 14 else 0]) (kTT_congr a3 (by rw [len_push, len_push]) fun z y hz hy => by
    rw [show y = 0 by omega, getD_push, getD_push]
    by_cases q : z < (B.2 4).length
    · rw [if_pos q, if_pos q]
    · rw [if_neg q, if_neg q]
      by_cases q2 : z = (B.2 4).length
      · rw [if_pos q2, if_pos q2]
        rfl
      · rw [if_neg q2, if_neg q2])
  have b2 := rc_s3 b1 (a := 4) (by decide) (((stP X 4 T1) 3 4) + 1)
  rw [rc_rej b1] at b2 ⊢
  have b3 : RC (sset (stP X 4 T1) 3 4 (B.1 12 + 1)) (aExpect B) := b2
  show RC (if B.1 12 + 1 < fx1_setting (sset (stP X 4 T1) 3 4 (B.1 12 + 1)) 4 then sset (stP X 4 T1) 3 4 (B.1 12 + 1) else sset (fx1_raise (sset (stP X 4 T1) 3 4 (B.1 12 + 1)) 1) 3 4 0) _
  rw [rc_setg b3 (x := 4) (i := 4) rfl (by decide)]
  have e12 : (aExpect B).1 12 = B.1 12 + 1 := aS_eq _ _ _
  unfold aLimit
  rw [e12]
  by_cases q : B.1 12 + 1 < (aExpect B).1 4
  · rw [if_pos q, if_pos q]
    exact b3
  · rw [if_neg q, if_neg q]
    exact rc_s3 (c_raise b3 (x := 1) (k := 1) rfl (by decide) (st_expect.1 w).2.2.1) (a := 4) (by decide) 0
theorem c_reject (h : RC S A) (w : WI A) {r : Nat} (hr : r < (A.2 1).length) (h3 : (A.2 3).length < 50) (h4 : (A.2 4).length < 101) : sx1_reject S (nI r) ∧ RC (fx1_reject S (nI r)) (aReject A r) := by
  have k1 := rc_count h (x := nI (aCause A r)) (i := aCause A r) rfl cause_lt
  have w1 := (st_count (A := A) (i := aCause A r) cause_ok).1 w
  obtain ⟨l1, l2⟩ := c_leave k1 (r := r) hr (x := 2) (how := 2) rfl (by decide)
  have w2 := (st_leave (A := aCount A (aCause A r)) (r := r) (how := 2) (by decide)).1 w1
  have n3 : (aLeave (aCount A (aCause A r)) r 2).2 3 = A.2 3 := leave_n (by decide)
  have n4 : (aLeave (aCount A (aCause A r)) r 2).2 4 = A.2 4 := leave_n (by decide)
  unfold sx1_reject fx1_reject aReject
  simp only [bnd]
  rw [c_cause h hr]
  generalize fx1_leaveRegister (fx1_count S (nI (aCause A r))) (nI r) 2 = S3 at l2 ⊢
  generalize aLeave (aCount A (aCause A r)) r 2 = B at l2 w2 n3 n4 ⊢
  obtain ⟨i1, i2⟩ := c_itemAt l2 (x := 3) (i := 3) rfl (by decide)
  rw [i2]
  show (_ ∧ _ ∧ if opI (aItemAt B 10) = -1 then _ else _) ∧ RC (if opI (aItemAt B 10) = -1 then _ else _) _
  have wd := (st_divert (A := B)).1 w2
  have f4 : (aDivert B).2 4 = A.2 4 := (divert_n (by decide) (by decide)).trans n4
  unfold aDivert at wd f4 ⊢
  cases e : aItemAt B 10 with
  | none =>
    rw [e] at wd f4
    rw [show opI none = -1 from rfl, if_pos rfl, if_pos rfl, rc_tick l2, rc_setg l2 (x := 3) (i := 3) rfl (by decide)]
    obtain ⟨t1, t2⟩ := c_tail l2 w2 (by rw [n4]; exact h4)
    exact ⟨⟨l1, i1, t1⟩, t2 _ rfl⟩
  | some k =>
    rw [e] at wd f4
    have hk := aItemAt_lt e
    have hl := (rc_t0 l2).2.1
    rw [show opI (some k) = nI k from rfl, if_neg (nI_ne (by omega)), if_neg (nI_ne (by omega))]
    obtain ⟨r1, r2⟩ := g2_rem kTab0 (rc_t0 l2) hk
    have m1 := rc_p0 l2 r2
    generalize stP S3 0 (fx2_removeRow 4 20 80 (stT S3 0) (nI k)) = S10 at m1 ⊢
    rw [rc_tick m1, rc_setg m1 (x := 2) (i := 2) rfl (by decide)]
    have e3 : (aT B 0 ((B.2 0).eraseIdx k)).2 3 = A.2 3 := (aT_ne _ _ (by decide)).trans n3
    have m2 := rc_t3 m1
    obtain ⟨p1, p2, p3⟩ := g2_add kTab3 m2 (by rw [e3]; exact h3) (B.1 14 + B.1 2)
    have p4 := rc_p3 m1 (l := (aT B 0 ((B.2 0).eraseIdx k)).2 3 ++ [fun i => if i = 0 then B.1 14 + B.1 2 else if i = 1 then B.1 14 else 0]) (kTT_congr p3 (by rw [len_push, len_push]) fun z y hz hy => by
      rw [show y = 0 by omega, getD_push, getD_push]
      by_cases q : z < ((aT B 0 ((B.2 0).eraseIdx k)).2 3).length
      · rw [if_pos q, if_pos q]
      · rw [if_neg q, if_neg q]
        by_cases q2 : z = ((aT B 0 ((B.2 0).eraseIdx k)).2 3).length
        · rw [if_pos q2, if_pos q2]
          rfl
        · rw [if_neg q2, if_neg q2])
    have p5 := rc_s3 p4 (a := 5) (by decide) (((stP S10 3 (fx2_addRow 1 50 50 (stT S10 3) (B.1 14 + B.1 2)).2) 3 5) + 1)
    rw [show (aT B 0 ((B.2 0).eraseIdx k)).1 14 = B.1 14 from rfl, show (aT B 0 ((B.2 0).eraseIdx k)).1 2 = B.1 2 from rfl]
    generalize fx2_addRow 1 50 50 (stT S10 3) (B.1 14 + B.1 2) = u at p1 p4 p5 ⊢
    have ht : stP S10 3 u.2 3 0 = B.1 14 := (rc_tick p4).trans rfl
    have hd : stP S10 3 u.2 3 5 = B.1 35 := (rc_div p4).trans rfl
    rw [ht, hd]
    rw [hd] at p5
    have p6 : RC (sset (stP S10 3 u.2) 3 5 (B.1 35 + 1)) (aS (aPush (aRem B 0 k) 3 (fun i => if i = 0 then B.1 14 + B.1 2 else if i = 1 then B.1 14 else 0)) 35 (B.1 35 + 1)) := p5
    generalize sset (stP S10 3 u.2) 3 5 (B.1 35 + 1) = X at p6 ⊢
    rw [rc_setg p6 (x := 3) (i := 3) rfl (by decide)]
    obtain ⟨t1, t2⟩ := c_tail p6 wd (by rw [f4]; exact h4)
    exact ⟨⟨l1, i1, r1, p1, t1⟩, t2 _ rfl⟩
end CLS4
