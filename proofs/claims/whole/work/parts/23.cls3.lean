/-! the class does what the abstract station does: what acts on a record -/
section CLS3
variable {S : St} {A : Ab}
theorem c_label (h : RC S A) {r : Nat} (hr : r < (A.2 1).length) : sx1_labelerActs S (nI r) ∧ RC (fx1_labelerActs S (nI r)) (aLabel A r) := by
  have hp : RC (stP S 1 (fx2_put 6 35 210 (stT S 1) (nI r) 3 1)) (aPutR A 1 r 3 1) := rc_p1 h (g2_put kTab1 (rc_t1 h) hr (x := 3) (c := 3) rfl (by decide) 1)
  unfold sx1_labelerActs fx1_labelerActs aLabel
  simp only [bnd]
  rw [rc_jam h, rc_setg h (x := 6) (i := 6) rfl (by decide)]
  by_cases q : A.1 13 = 0
  · rw [if_pos q, if_pos q, if_pos q]
    by_cases q6 : A.1 6 = 0
    · rw [if_pos q6, if_pos q6, if_pos q6]
      exact ⟨trivial, hp⟩
    · rw [if_neg q6, if_neg q6, if_neg q6]
      have h6 := rc_set h (x := 6) (i := 6) rfl (by decide) (A.1 6 - 1)
      obtain ⟨a1, a2⟩ := c_itemAt h6 (x := 0) (i := 0) rfl (by decide)
      refine ⟨a1, ?_⟩
      rw [a2]
      show RC (if opI (aItemAt (aS A 6 (A.1 6 - 1)) 7) = -1 then _ else _) _
      cases e : aItemAt (aS A 6 (A.1 6 - 1)) 7 with
      | none =>
        rw [show opI none = -1 from rfl, if_pos rfl]
        exact rc_count h6 (x := 5) (i := 5) rfl (by decide)
      | some k =>
        have hk := aItemAt_lt e
        have hl := (rc_t0 h6).2.1
        rw [show opI (some k) = nI k from rfl, if_neg (nI_ne (by omega))]
        exact rc_p0 h6 (g2_put kTab0 (rc_t0 h6) hk (x := 3) (c := 3) rfl (by decide) 1)
  · rw [if_neg q, if_neg q, if_neg q]
    exact ⟨trivial, hp⟩
theorem c_seen (h : RC S A) (w : WI A) {o : Option Nat} (ho : ∀ k, o = some k → k < (A.2 0).length) (c : Int32) : fx1_seen S (opI o) c = aSeen A o c := by
  have hl := (rc_t0 h).2.1
  unfold fx1_seen aSeen
  cases o with
  | none => rw [show opI none = -1 from rfl, if_pos rfl]
  | some k =>
    have hk := ho k rfl
    rw [show opI (some k) = nI k from rfl, if_neg (nI_ne (by omega)), g2_get kTab0 (rc_t0 h) hk (x := 3) (c := 3) rfl (by decide), g2_get kTab0 (rc_t0 h) hk (x := 2) (c := 2) rfl (by decide)]
    show _ = if kItm A k 3 = 0 then 2 else _
    have ok := (kItm_ok w k).1
    unfold kItm at ok ⊢
    generalize (A.2 0).getD k kz = z at ok ⊢
    by_cases q3 : z 3 = 0
    · rw [if_pos q3, if_pos q3]
    · rw [if_neg q3, if_neg q3]
      rcases ok with q | q | q | q <;> rw [q] <;> rfl
theorem c_look (h : RC S A) (w : WI A) {r : Nat} (hr : r < (A.2 1).length) (hv : (A.2 2).length < 200) {x2 : Int32} {c : Nat} (hx : x2 = nI c) (hc : c < 2) : sx1_cameraActs S (nI r) x2 ∧ RC (fx1_cameraActs S (nI r) x2) (aLook A r c) := by
  have h2 := rc_t2 h
  obtain ⟨a1, a2, a3⟩ := g2_add kTab2 h2 hv (A.1 14 + A.1 1)
  unfold sx1_cameraActs fx1_cameraActs
  simp only [bnd]
  rw [rc_tick h, rc_setg h (x := 1) (i := 1) rfl (by decide), a2]
  generalize (fx2_addRow 4 200 800 (stT S 2) (A.1 14 + A.1 1)).2 = T1 at a3 ⊢
  have b1 := rc_p2 h a3
  have hlen : (A.2 2).length < (A.2 2 ++ [upd kz 0 (A.1 14 + A.1 1)]).length := by rw [len_push]; omega
  have e0 : fx2_get 6 35 210 (stT (stP S 2 T1) 1) (nI r) 0 = kRec A r 0 := by
    rw [g2_get kTab1 (rc_t1 b1) (x := 0) (c := 0) (r := r) (by rw [aT_ne _ _ (by decide)]; exact hr) rfl (by decide), aT_ne _ _ (by decide)]
    rfl
  rw [e0]
  have b2 := rc_p2 b1 (g2_put kTab2 (rc_t2 b1) (r := (A.2 2).length) (by rw [aT_same]; exact hlen) (x := 1) (c := 1) rfl (by decide) (kRec A r 0))
  rw [aT_same, aT_aT, get_push, set_push] at b2
  generalize stP (stP S 2 T1) 2 (fx2_put 4 200 800 (stT (stP S 2 T1) 2) (nI (A.2 2).length) 1 (kRec A r 0)) = S2 at b2 ⊢
  have b3 : ∀ u : Int32, RC (stP S2 2 (fx2_put 4 200 800 (stT S2 2) (nI (A.2 2).length) 2 u)) (aT A 2 (A.2 2 ++ [upd (upd (upd kz 0 (A.1 14 + A.1 1)) 1 (kRec A r 0)) 2 u])) := fun u => by
    have b3 := rc_p2 b2 (g2_put kTab2 (rc_t2 b2) (r := (A.2 2).length) (by rw [aT_same, len_push]; omega) (x := 2) (c := 2) rfl (by decide) u)
    rw [aT_same, aT_aT, get_push, set_push] at b3
    exact b3
  have fin : ∀ (S4 : St) (u : Int32) (i : Nat) (x : Int32), u = nI c → RC S4 (aT A 2 (A.2 2 ++ [upd (upd (upd kz 0 (A.1 14 + A.1 1)) 1 (kRec A r 0)) 2 u])) → x = nI i → i < 5 → 7 + i = 8 + c → x2 = u → sx1_itemAt S4 x ∧ RC (stP S4 2 (fx2_put 4 200 800 (stT S4 2) (nI (A.2 2).length) 3 (fx1_seen S4 (fx1_itemAt S4 x) x2))) (aLook A r c) := by
    intro S4 u i x hu b4 hxi hi hic hxu
    obtain ⟨d1, d2⟩ := c_itemAt b4 hxi hi
    refine ⟨d1, ?_⟩
    have w4 : WI (aT A 2 (A.2 2 ++ [upd (upd (upd kz 0 (A.1 14 + A.1 1)) 1 (kRec A r 0)) 2 u])) ∨ True := Or.inr trivial
    have d3 : fx1_seen S4 (opI (aItemAt A (7 + i))) x2 = aSeen A (aItemAt A (7 + i)) x2 := by
      have hl := (rc_t0 b4).2.1
      have d0 : kTT 4 20 (stT S4 0) (A.2 0) := by
        have := rc_t0 b4
        rw [aT_ne _ _ (by decide)] at this
        exact this
      unfold fx1_seen aSeen
      cases e : aItemAt A (7 + i) with
      | none => rw [show opI none = -1 from rfl, if_pos rfl]
      | some k =>
        have hk := aItemAt_lt e
        have hl := d0.2.1
        rw [show opI (some k) = nI k from rfl, if_neg (nI_ne (by omega)), g2_get kTab0 d0 hk (x := 3) (c := 3) rfl (by decide), g2_get kTab0 d0 hk (x := 2) (c := 2) rfl (by decide)]
        show _ = if kItm A k 3 = 0 then 2 else _
        have ok := (kItm_ok w k).1
        unfold kItm at ok ⊢
        generalize (A.2 0).getD k kz = z at ok ⊢
        by_cases q3 : z 3 = 0
        · rw [if_pos q3, if_pos q3]
        · rw [if_neg q3, if_neg q3]
          rcases ok with q | q | q | q <;> rw [q] <;> rfl
    have d4 : fx1_itemAt S4 x = opI (aItemAt A (7 + i)) := d2
    rw [d4, d3]
    have b5 := g2_put kTab2 (rc_t2 b4) (r := (A.2 2).length) (by rw [aT_same, len_push]; omega) (x := 3) (c := 3) rfl (by decide) (aSeen A (aItemAt A (7 + i)) x2)
    rw [aT_same, get_push, set_push] at b5
    have b6 := rc_p2 b4 (l := A.2 2 ++ [fun i => if i = 0 then A.1 14 + A.1 1 else if i = 1 then kRec A r 0 else if i = 2 then nI c else if i = 3 then aSeen A (aItemAt A (8 + c)) (nI c) else A.1 14]) (kTT_congr b5 (by rw [len_push, len_push]) fun z y hz hy => by
      rw [getD_push, getD_push]
      by_cases q : z < (A.2 2).length
      · rw [if_pos q, if_pos q]
      · rw [if_neg q, if_neg q]
        by_cases q2 : z = (A.2 2).length
        · rw [if_pos q2, if_pos q2]
          rcases (show y = 0 ∨ y = 1 ∨ y = 2 ∨ y = 3 by omega) with rfl | rfl | rfl | rfl
          · rfl
          · rfl
          · exact hu.symm
          · rw [hic, hxu, hu]; rfl
        · rw [if_neg q2, if_neg q2])
    rw [aT_aT] at b6
    unfold aLook aPush
    refine rc_ext b6 (fun i hi => ?_) (fun _ _ => rfl)
    show (if i = 2001 + c then _ else A.1 i) = A.1 i
    rw [if_neg]
    unfold kSc at hi
    omega
  rcases (show c = 0 ∨ c = 1 by omega) with rfl | rfl
  · have hx0 : x2 = 0 := hx
    rw [if_pos hx0, if_pos hx0]
    obtain ⟨f1, f2⟩ := fin _ 0 1 1 rfl (b3 0) rfl (by decide) rfl hx0
    exact ⟨⟨a1, f1⟩, f2⟩
  · have hx0 : x2 = 1 := hx
    have hx1 : ¬ x2 = 0 := by rw [hx0]; decide
    rw [if_neg hx1, if_neg hx1]
    obtain ⟨f1, f2⟩ := fin _ 1 2 2 rfl (b3 1) rfl (by decide) rfl hx0
    exact ⟨⟨a1, f1⟩, f2⟩
end CLS3
