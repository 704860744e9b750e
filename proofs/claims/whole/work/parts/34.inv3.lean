/-! the invariants: what acts on a record keeps them -/
theorem kM_erase (l : List kRow) (i : Nat) : kM (l.eraseIdx i) = (kM l).eraseIdx i := by
  unfold kM
  rw [List.eraseIdx_eq_take_drop_succ, List.eraseIdx_eq_take_drop_succ, List.map_append, List.map_take, List.map_drop]
theorem kNm_erase (l : List kRow) (i : Nat) : List.Sublist (kNm (l.eraseIdx i)) (kNm l) := (List.eraseIdx_sublist l i).map _
theorem kM_len (l : List kRow) : (kM l).length = l.length := List.length_map ..
theorem kM_drop {l : List kRow} {i : Nat} (h : i < l.length) : (kM l).drop i = rv (l.getD i kz) :: (kM l).drop (i + 1) := by
  rw [List.drop_eq_getElem_cons (by rw [kM_len]; exact h)]
  congr 1
  unfold kM
  rw [List.getElem_map, List.getD_eq_getElem?_getD, List.getElem?_eq_getElem h]
  rfl
theorem dr_er {M : List tr} {i : Nat} (h : i < M.length) : (M.eraseIdx i).drop i = M.drop (i + 1) ∧ (M.eraseIdx i).take i = M.take i := by
  rw [List.eraseIdx_eq_take_drop_succ]
  have e : (M.take i).length = i := by rw [List.length_take]; omega
  exact ⟨List.drop_left' e, List.take_left' e⟩
theorem rg_drop {M : List tr} {i : Nat} {a : tr} {t : List tr} (h : RG M) (e : M.drop i = a :: t) : ∀ b ∈ t, b.2.1 + 30 ≤ a.2.1 := fun b hb => by
  have h2 : RG (M.drop i) := h.sublist (List.drop_sublist i M)
  rw [e] at h2
  exact ((List.pairwise_cons.mp h2).1 b hb).2
theorem er_mem {M : List tr} {i : Nat} {a : tr} {t : List tr} (e : M.drop i = a :: t) {b : tr} (hb : b ∈ M) : b ∈ M.eraseIdx i ∨ b = a := by
  have e2 : M.drop (i + 1) = t := by
    rw [← List.drop_drop, e]
    rfl
  rw [List.eraseIdx_eq_take_drop_succ, e2]
  have e3 : M = M.take i ++ a :: t := by rw [← e, List.take_append_drop]
  rw [e3] at hb
  rcases List.mem_append.mp hb with q | q
  · exact Or.inl (List.mem_append_left _ q)
  · rcases List.mem_cons.mp q with q | q
    · exact Or.inr q
    · exact Or.inl (List.mem_append_right _ q)
theorem push_same (A : Ab) (k : Nat) (v : kRow) : (aPush A k v).2 k = A.2 k ++ [v] := aT_same _ _ _
theorem push_ne (A : Ab) {k j : Nat} (v : kRow) (h : j ≠ k) : (aPush A k v).2 j = A.2 j := aT_ne _ _ h
theorem rem_same (A : Ab) (k r : Nat) : (aRem A k r).2 k = (A.2 k).eraseIdx r := aT_same _ _ _
theorem rem_ne (A : Ab) {k j : Nat} (r : Nat) (h : j ≠ k) : (aRem A k r).2 j = A.2 j := aT_ne _ _ h
theorem limit_n {A : Ab} {k : Nat} : (aLimit A).2 k = A.2 k := by
  unfold aLimit
  split
  · rfl
  · exact alarm_n
theorem expect_n {A : Ab} {k : Nat} (h : k ≠ 4) : (aExpect A).2 k = A.2 k := by
  unfold aExpect aPush
  exact aT_ne _ _ h
section ACT
variable {B Tn D2 D3 D4 : Int} {p1 p2 q1 q2 qg q1' q2' qg' : Bool} {j U : Int} {A A' : Ab} {i r : Nat}
theorem lab_n {k : Nat} (h0 : k ≠ 0) (h1 : k ≠ 1) : (aLabel A r).2 k = A.2 k := by
  unfold aLabel
  split
  · split
    · exact aT_ne _ _ h1
    · cases aItemAt (aS A 6 (A.1 6 - 1)) 7 with
      | none => rfl
      | some k' => exact aT_ne _ _ h0
  · exact aT_ne _ _ h1
theorem lab_1 : kM ((aLabel A r).2 1) = kM (A.2 1) := by
  have hp : kM ((aPutR A 1 r 3 1).2 1) = kM (A.2 1) := by
    unfold aPutR
    rw [aT_same]
    exact kM_put (by decide)
  unfold aLabel
  split
  · split
    · exact hp
    · cases aItemAt (aS A 6 (A.1 6 - 1)) 7 with
      | none => rfl
      | some k' => exact congrArg kM (aT_ne _ _ (by decide))
  · exact hp
theorem lab_0 : kNm ((aLabel A r).2 0) = kNm (A.2 0) := by
  unfold aLabel
  split
  · split
    · exact congrArg kNm (aT_ne _ _ (by decide))
    · cases aItemAt (aS A 6 (A.1 6 - 1)) 7 with
      | none => rfl
      | some k' =>
        show kNm ((aPutR (aS A 6 (A.1 6 - 1)) 0 k' 3 1).2 0) = _
        unfold aPutR
        rw [aT_same]
        exact kNm_put (by decide)
  · exact congrArg kNm (aT_ne _ _ (by decide))
theorem sub_eq {α : Type} {l l' : List α} (h : l = l') : List.Sublist l l' := by
  rw [h]
  exact List.Sublist.refl _
theorem lab_co (h : CO B Tn D2 D3 D4 p1 p2 q1 q2 qg j U A) : CO B Tn D2 D3 D4 p1 p2 q1 q2 qg j U (aLabel A r) :=
  co_ext h (st_label.1 h.1) st_label.2 (sub_eq lab_0) lab_1 (lab_n (by decide) (by decide)) (lab_n (by decide) (by decide)) (sub_eq (lab_n (by decide) (by decide)))
theorem pas_co (h : CO B Tn D2 D3 D4 p1 p2 q1 q2 qg j U A) : CO B Tn D2 D3 D4 p1 p2 q1 q2 qg j U (aS (aPutR A 1 r 4 1) 12 0) ∧ kM ((aS (aPutR A 1 r 4 1) 12 0).2 1) = kM (A.2 1) := by
  have s : Step A (aS (aPutR A 1 r 4 1) 12 0) := (st_put1 okR_4).tr (st_s (by unfold kFx; omega) (by omega) (by omega))
  have e1 : kM ((aS (aPutR A 1 r 4 1) 12 0).2 1) = kM (A.2 1) := by
    show kM ((aPutR A 1 r 4 1).2 1) = _
    unfold aPutR
    rw [aT_same]
    exact kM_put (by decide)
  have n : ∀ k, k ≠ 1 → (aS (aPutR A 1 r 4 1) 12 0).2 k = A.2 k := fun k hk => aT_ne A _ hk
  exact ⟨co_ext h (s.1 h.1) s.2 (sub_eq (congrArg kNm (n 0 (by decide)))) e1 (n 2 (by decide)) (n 3 (by decide)) (sub_eq (n 4 (by decide))), e1⟩
theorem look_co {c : Nat} (hB : B ≤ 1000000000) (hT : (A.1 14).toInt = Tn) (h : CO B Tn Tn D3 D4 p1 p2 q1 q2 qg j U A) (hc : c < 2) (hr : rv (kRec A r) ∈ kM (A.2 1)) (hs : p1.toNat + p2.toNat + q1.toNat + q2.toNat ≤ 1) (hq : q1'.toNat + q2'.toNat = q1.toNat + q2.toNat + 1) (hX : RX (A.1 8).toInt (A.1 9).toInt (A.1 10).toInt j p1 p2 q1' q2' qg (kM (A.2 1)) (kNn (A.2 2) ++ [(rv (kRec A r)).1])) : CO B Tn Tn D3 D4 p1 p2 q1' q2' qg j U (aLook A r c) := by
  obtain ⟨h1, h2, h3, h4, h5, h6, h7, h8, h9⟩ := h
  have s := st_look (A := A) (r := r) hc
  have e := s.2
  have n0 : (aLook A r c).2 0 = A.2 0 := aT_ne _ _ (by decide)
  have n1 : (aLook A r c).2 1 = A.2 1 := aT_ne _ _ (by decide)
  have n3 : (aLook A r c).2 3 = A.2 3 := aT_ne _ _ (by decide)
  have n4 : (aLook A r c).2 4 = A.2 4 := aT_ne _ _ (by decide)
  obtain ⟨x, hx, e0, e1, e4⟩ : ∃ x : kRow, (aLook A r c).2 2 = A.2 2 ++ [x] ∧ x 0 = A.1 14 + A.1 1 ∧ x 1 = kRec A r 0 ∧ x 4 = A.1 14 := ⟨_, aT_same _ _ _, rfl, rfl, rfl⟩
  have hd := h2.2.1
  have t0 : (x 0).toInt = Tn + (A.1 1).toInt := by rw [e0, ti_add (by omega) (by omega), hT]
  have t4 : vg x = Tn := by unfold vg; rw [e4, hT]
  have t1 := (h6 _ hr)
  refine ⟨s.1 h1, ci_ext h2 e, ?_, ?_, ?_, ?_, ?_, ?_, ?_⟩
  · rw [e 14 (by unfold kFx; omega), e 17 (by unfold kFx; omega)]; exact h3
  · rw [e 17 (by unfold kFx; omega), n0]; exact h4
  · rw [n1]; exact h5
  · rw [n1, e 17 (by unfold kFx; omega)]; exact h6
  · rw [n1, hx, e 8 (by unfold kFx; omega), e 9 (by unfold kFx; omega), e 10 (by unfold kFx; omega)]
    have en : kNn (A.2 2 ++ [x]) = kNn (A.2 2) ++ [(rv (kRec A r)).1] := by
      unfold kNn
      rw [List.map_append]
      show _ ++ [(x 1).toInt] = _
      rw [e1]
      rfl
    rw [en]
    exact hX
  · rw [hx, e 17 (by unfold kFx; omega)]
    exact vi_push h8 hs hq (by omega) (by omega) t4 (by rw [e1]; exact ⟨t1.1, t1.2.1⟩)
  · rw [n3, n4]; exact h9
theorem co_gone {a : tr} {t : List tr} (h : CO B Tn D2 D3 D4 p1 p2 q1 q2 qg j U A) (hd : (kM (A.2 1)).drop i = a :: t) (hj : j ≤ 10) (hp : (A.1 10).toInt ≤ a.2.1) (w : WI A') (e : ∀ i, kFx i → A'.1 i = A.1 i) (e0 : List.Sublist (kNm (A'.2 0)) (kNm (A.2 0))) (e1 : kM (A'.2 1) = (kM (A.2 1)).eraseIdx i) (e2 : A'.2 2 = A.2 2) (hE : EI Tn D3 D4 qg' (A'.2 3) (A'.2 4)) (hX : RX (A.1 8).toInt (A.1 9).toInt (A.1 10).toInt j p1 p2 q1 q2 qg' (kM (A.2 1)) (kNn (A.2 2))) : CO B Tn D2 D3 D4 p1 p2 q1 q2 qg' j U A' := by
  obtain ⟨h1, h2, h3, h4, h5, h6, h7, h8, h9⟩ := h
  have hs : List.Sublist ((kM (A.2 1)).eraseIdx i) (kM (A.2 1)) := List.eraseIdx_sublist _ _
  refine ⟨w, ci_ext h2 e, ?_, ?_, ?_, ?_, ?_, ?_, hE⟩
  · rw [e 14 (by unfold kFx; omega), e 17 (by unfold kFx; omega)]; exact h3
  · rw [e 17 (by unfold kFx; omega)]; exact in_sub h4 e0
  · rw [e1]; exact h5.sublist hs
  · rw [e1, e 17 (by unfold kFx; omega)]; exact fun b hb => h6 b (hs.subset hb)
  · rw [e1, e2, e 8 (by unfold kFx; omega), e 9 (by unfold kFx; omega), e 10 (by unfold kFx; omega)]
    refine rx_sub hj h2.2.2.2.2.2.2.2.2.1 hX (fun b hb => hs.subset hb) fun b hb => ?_
    rcases er_mem hd hb with q | q
    · exact Or.inl q
    · rw [q]
      exact Or.inr hp
  · rw [e2, e 17 (by unfold kFx; omega)]; exact h8
theorem leave_kM {how : Nat} : kM ((aLeave A r how).2 1) = (kM (A.2 1)).eraseIdx r := by
  rw [leave_1, kM_erase]
theorem rej_kM : kM ((aReject A r).2 1) = (kM (A.2 1)).eraseIdx r := by
  rw [reject_1, kM_erase]
theorem rej_0 : List.Sublist (kNm ((aReject A r).2 0)) (kNm (A.2 0)) := by
  unfold aReject
  rw [limit_n, expect_n (by decide)]
  generalize hB : aLeave (aCount A (aCause A r)) r 2 = D
  have e : D.2 0 = A.2 0 := by rw [← hB]; exact leave_n (by decide)
  unfold aDivert
  cases aItemAt D 10 with
  | none =>
    show List.Sublist (kNm (D.2 0)) _
    rw [e]
    exact List.Sublist.refl _
  | some k =>
    have e9 : ∀ v, (aS (aPush (aRem D 0 k) 3 v) 35 (D.1 35 + 1)).2 0 = (D.2 0).eraseIdx k := fun v => (push_ne (aRem D 0 k) v (show 0 ≠ 3 by decide)).trans (rem_same D 0 k)
    refine (sub_eq (congrArg kNm (e9 _))).trans ?_
    rw [e]
    exact kNm_erase _ _
theorem rej_2 : (aReject A r).2 2 = A.2 2 := by
  unfold aReject
  rw [limit_n, expect_n (by decide), divert_n (by decide) (by decide)]
  exact leave_n (by decide)
theorem rej_3 : (aReject A r).2 3 = A.2 3 ∨ ∃ x : kRow, (aReject A r).2 3 = A.2 3 ++ [x] ∧ x 0 = A.1 14 + A.1 2 ∧ x 1 = A.1 14 := by
  have s : Step A (aLeave (aCount A (aCause A r)) r 2) := (st_count cause_ok).tr (st_leave (by decide))
  unfold aReject
  rw [limit_n, expect_n (by decide)]
  have e : (aLeave (aCount A (aCause A r)) r 2).2 3 = A.2 3 := leave_n (by decide)
  generalize aLeave (aCount A (aCause A r)) r 2 = D at e s
  unfold aDivert
  cases aItemAt D 10 with
  | none => exact Or.inl e
  | some k =>
    right
    have e9 : ∀ v, (aS (aPush (aRem D 0 k) 3 v) 35 (D.1 35 + 1)).2 3 = A.2 3 ++ [v] := fun v => (push_same (aRem D 0 k) 3 v).trans (by rw [rem_ne D k (show 3 ≠ 0 by decide), e])
    refine ⟨fun i => if i = 0 then D.1 14 + D.1 2 else if i = 1 then D.1 14 else 0, e9 _, ?_, ?_⟩
    · show D.1 14 + D.1 2 = _
      rw [s.2 14 (by unfold kFx; omega), s.2 2 (by unfold kFx; omega)]
    · exact s.2 14 (by unfold kFx; omega)
theorem rej_4 : ∃ x : kRow, (aReject A r).2 4 = A.2 4 ++ [x] ∧ x 0 = A.1 14 + A.1 3 ∧ x 1 = A.1 14 := by
  have s : Step A (aDivert (aLeave (aCount A (aCause A r)) r 2)) := (st_count cause_ok).tr ((st_leave (by decide)).tr st_divert)
  have e : (aDivert (aLeave (aCount A (aCause A r)) r 2)).2 4 = A.2 4 := (divert_n (by decide) (by decide)).trans (leave_n (by decide))
  unfold aReject
  rw [limit_n]
  generalize aDivert (aLeave (aCount A (aCause A r)) r 2) = D at e s
  refine ⟨fun i => if i = 0 then D.1 14 + D.1 3 else if i = 1 then D.1 14 else 0, ?_, ?_, ?_⟩
  · exact (push_same D 4 _).trans (by rw [e])
  · show D.1 14 + D.1 3 = _
    rw [s.2 14 (by unfold kFx; omega), s.2 3 (by unfold kFx; omega)]
  · exact s.2 14 (by unfold kFx; omega)
theorem rej_E (hB : B ≤ 1000000000) (hT : (A.1 14).toInt = Tn) (h : CO B Tn D2 Tn Tn p1 p2 q1 q2 qg j U A) (hq : qg = false) : EI Tn Tn Tn true ((aReject A r).2 3) ((aReject A r).2 4) := by
  obtain ⟨h1, h2, h3, h4, h5, h6, h7, h8, h9⟩ := h
  obtain ⟨l3, l4⟩ := ei_lt h9 hq
  obtain ⟨y, y1, y2, y3⟩ := rej_4 (A := A) (r := r)
  have c2 := h2.2.2.1
  have c3 := h2.2.2.2.1
  have t0 : (y 0).toInt = Tn + (A.1 3).toInt := by rw [y2, ti_add (by omega) (by omega), hT]
  have t1 : (y 1).toInt = Tn := by rw [y3, hT]
  rw [y1]
  refine ei_push4 ?_ l4 (by omega) (by omega) t1
  rcases rej_3 (A := A) (r := r) with z | ⟨x, x1, x2, x3⟩
  · rw [z]
    exact ei_true h9
  · have u0 : (x 0).toInt = Tn + (A.1 2).toInt := by rw [x2, ti_add (by omega) (by omega), hT]
    have u1 : (x 1).toInt = Tn := by rw [x3, hT]
    rw [x1]
    exact ei_push3 (ei_true h9) l3 (by omega) (by omega) u1
def LIx (B Tn : Int) (p1 p2 q1 q2 qg : Bool) (j : Int) (i : Nat) (A : Ab) : Prop := CO B Tn Tn Tn Tn p1 p2 q1 q2 qg j 1021 A ∧ RU (A.1 8).toInt (A.1 9).toInt (A.1 10).toInt q1 q2 qg ((kM (A.2 1)).drop i) ∧ ∀ a ∈ (kM (A.2 1)).take i, a.2.1 ≤ 1020
theorem ru_next {C1 C2 G : Int} {a : tr} {t : List tr} (h : RU C1 C2 G q1 q2 qg (a :: t)) (hg : ∀ b ∈ t, b.2.1 + 30 ≤ a.2.1) (x1 : q1' = true → q1 = true ∨ a.2.1 = C1) (x2 : q2' = true → q2 = true ∨ a.2.1 = C2) (x3 : qg' = true → qg = true ∨ a.2.1 = G) : RU C1 C2 G q1' q2' qg' t := fun b hb => by
  have hb2 := hg b hb
  have h2 := h b (List.mem_cons_of_mem _ hb)
  refine ⟨fun u => ?_, fun u => ?_, fun u => ?_⟩
  · rcases x1 u with y | y
    · exact h2.1 y
    · omega
  · rcases x2 u with y | y
    · exact h2.2.1 y
    · omega
  · rcases x3 u with y | y
    · exact h2.2.2 y
    · omega
theorem li_stay {a : tr} {t : List tr} (h : LIx B Tn p1 p2 q1 q2 qg j i A) (hd : (kM (A.2 1)).drop i = a :: t) (hc : CO B Tn Tn Tn Tn p1 p2 q1' q2' qg' j 1021 A') (eM : kM (A'.2 1) = kM (A.2 1)) (e : ∀ i, kFx i → A'.1 i = A.1 i) (x1 : q1' = true → q1 = true ∨ a.2.1 = (A.1 8).toInt) (x2 : q2' = true → q2 = true ∨ a.2.1 = (A.1 9).toInt) (x3 : qg' = true → qg = true ∨ a.2.1 = (A.1 10).toInt) (ha : a.2.1 ≤ 1020) : LIx B Tn p1 p2 q1' q2' qg' j (i + 1) A' := by
  obtain ⟨h1, h2, h3⟩ := h
  have e2 : (kM (A.2 1)).drop (i + 1) = t := by
    rw [← List.drop_drop, hd]
    rfl
  refine ⟨hc, ?_, ?_⟩
  · rw [eM, e2, e 8 (by unfold kFx; omega), e 9 (by unfold kFx; omega), e 10 (by unfold kFx; omega)]
    rw [hd] at h2
    exact ru_next h2 (rg_drop h1.2.2.2.2.1 hd) x1 x2 x3
  · rw [eM]
    intro b hb
    have hi : i < (kM (A.2 1)).length := Nat.not_le.mp fun q => by
      rw [List.drop_eq_nil_of_le q] at hd
      cases hd
    rw [List.take_succ_eq_append_getElem hi] at hb
    rcases List.mem_append.mp hb with y | y
    · exact h3 b y
    · rw [List.drop_eq_getElem_cons hi] at hd
      injection hd with z1 z2
      rw [List.mem_singleton.mp y, z1]
      exact ha
theorem li_gone {a : tr} {t : List tr} (h : LIx B Tn p1 p2 q1 q2 qg j i A) (hd : (kM (A.2 1)).drop i = a :: t) (hc : CO B Tn Tn Tn Tn p1 p2 q1' q2' qg' j 1021 A') (eM : kM (A'.2 1) = (kM (A.2 1)).eraseIdx i) (e : ∀ i, kFx i → A'.1 i = A.1 i) (x1 : q1' = true → q1 = true ∨ a.2.1 = (A.1 8).toInt) (x2 : q2' = true → q2 = true ∨ a.2.1 = (A.1 9).toInt) (x3 : qg' = true → qg = true ∨ a.2.1 = (A.1 10).toInt) : LIx B Tn p1 p2 q1' q2' qg' j i A' := by
  obtain ⟨h1, h2, h3⟩ := h
  have hi : i < (kM (A.2 1)).length := Nat.not_le.mp fun q => by
    rw [List.drop_eq_nil_of_le q] at hd
    cases hd
  have e2 : (kM (A.2 1)).drop (i + 1) = t := by
    rw [← List.drop_drop, hd]
    rfl
  refine ⟨hc, ?_, ?_⟩
  · rw [eM, (dr_er hi).1, e2, e 8 (by unfold kFx; omega), e 9 (by unfold kFx; omega), e 10 (by unfold kFx; omega)]
    rw [hd] at h2
    exact ru_next h2 (rg_drop h1.2.2.2.2.1 hd) x1 x2 x3
  · rw [eM, (dr_er hi).2]
    exact h3
theorem act_li (hB : B ≤ 1000000000) (hj : 1 ≤ j) (hj10 : j ≤ 10) (hT : (A.1 14).toInt = Tn) (h : LIx B Tn p1 p2 q1 q2 qg j i A) (hi : i < (A.2 1).length) : okAct A i ∧ ∃ q1' q2' qg', LIx B Tn p1 p2 q1' q2' qg' j (if (aAct A i).1 = true then i + 1 else i) (aAct A i).2 := by
  have hd := kM_drop hi
  have h' := h
  obtain ⟨h1, h2, h3⟩ := h
  have hc := h1.2.1
  have hcc := hc
  unfold CI at hcc
  have hmem : rv (kRec A i) ∈ kM (A.2 1) := by
    refine (List.drop_sublist i _).subset ?_
    rw [hd]
    exact List.mem_cons_self ..
  have hb := h1.2.2.2.2.2.1 _ hmem
  rw [hd] at h2
  have hu := h2 _ (List.mem_cons_self ..)
  have ep : (rv (kRec A i)).2.1 = (kRec A i 1).toInt := rfl
  rw [ep] at hb
  have l2 := vi_len h1.2.2.2.2.2.2.2.1 rfl
  have hqg : kRec A i 1 = A.1 10 → qg = false := fun z => by
    cases qg
    · rfl
    · exact absurd (congrArg Int32.toInt z) (hu.2.2 rfl)
  refine ⟨⟨fun _ => l2, fun _ => l2, fun z => ei_len h1.2.2.2.2.2.2.2.2 rfl rfl (hqg z)⟩, ?_⟩
  have st := st_act (A := A) (r := i)
  have rf : ∀ {q : Bool} {P : Prop}, q = true → q = true ∨ P := fun z => Or.inl z
  unfold aAct at st ⊢
  by_cases q7 : kRec A i 1 = A.1 7
  · rw [if_pos q7] at st ⊢
    refine ⟨q1, q2, qg, ?_⟩
    rw [if_pos rfl]
    have := congrArg Int32.toInt q7
    exact li_stay h' hd (lab_co h1) lab_1 st.2 rf rf rf (by show (kRec A i 1).toInt ≤ 1020; omega)
  rw [if_neg q7] at st ⊢
  by_cases q8 : kRec A i 1 = A.1 8
  · rw [if_pos q8] at st ⊢
    have e8 := congrArg Int32.toInt q8
    obtain ⟨s1, s2, s3⟩ := rx_c1 hj hj10 hc.2.2.2.2.2.2.2.1 h1.2.2.2.2.2.2.1 h1.2.2.2.2.1 hmem e8 hu.1
    refine ⟨true, q2, qg, ?_⟩
    rw [if_pos rfl]
    exact li_stay h' hd (look_co hB hT h1 (by decide) hmem s1 (by rw [s2]; show 1 + _ = 0 + _ + 1; omega) s3) (congrArg kM (aT_ne _ _ (by decide))) st.2 (fun _ => Or.inr e8) rf rf (by show (kRec A i 1).toInt ≤ 1020; omega)
  rw [if_neg q8] at st ⊢
  by_cases q9 : kRec A i 1 = A.1 9
  · rw [if_pos q9] at st ⊢
    have e9 := congrArg Int32.toInt q9
    by_cases qv : kRec A i 2 = 3
    · rw [if_pos qv] at st ⊢
      obtain ⟨s1, s2, s3⟩ := rx_c2 hj hj10 hc.2.2.2.2.2.2.2.1 h1.2.2.2.2.2.2.1 h1.2.2.2.2.1 hmem e9 (by show kRec A i 2 ≠ 0; rw [qv]; decide) hu.2.1
      refine ⟨q1, true, qg, ?_⟩
      rw [if_pos rfl]
      exact li_stay h' hd (look_co hB hT h1 (by decide) hmem s1 (by rw [s2]; show _ + 1 = _ + 0 + 1; omega) s3) (congrArg kM (aT_ne _ _ (by decide))) st.2 rf (fun _ => Or.inr e9) rf (by show (kRec A i 1).toInt ≤ 1020; omega)
    · rw [if_neg qv] at st ⊢
      refine ⟨q1, q2, qg, ?_⟩
      rw [if_pos rfl]
      exact li_stay h' hd h1 rfl (fun _ _ => rfl) rf rf rf (by show (kRec A i 1).toInt ≤ 1020; omega)
  rw [if_neg q9] at st ⊢
  by_cases q10 : kRec A i 1 = A.1 10
  · rw [if_pos q10] at st ⊢
    have e10 := congrArg Int32.toInt q10
    unfold aGate at st ⊢
    by_cases qp : kRec A i 2 = 1 ∧ kRec A i 3 = 0
    · rw [if_pos qp] at st ⊢
      refine ⟨q1, q2, qg, ?_⟩
      rw [if_pos rfl]
      obtain ⟨z1, z2⟩ := pas_co (r := i) h1
      exact li_stay h' hd z1 z2 st.2 rf rf rf (by show (kRec A i 1).toInt ≤ 1020; omega)
    · rw [if_neg qp] at st ⊢
      refine ⟨q1, q2, true, ?_⟩
      rw [if_neg (show ¬ false = true by decide)]
      have hX := rx_gt h1.2.2.2.2.2.2.1 hj h1.2.2.2.2.1 hmem e10
      have s2 := st_reject (A := A) (r := i)
      have hE := rej_E (r := i) hB hT h1 (hqg q10)
      have cg : CO B Tn Tn Tn Tn p1 p2 q1 q2 true j 1021 (aReject A i) := co_gone h1 hd hj10 (by show _ ≤ (kRec A i 1).toInt; omega) (s2.1 h1.1) s2.2 rej_0 rej_kM rej_2 hE hX
      have fin : LIx B Tn p1 p2 q1 q2 true j i (aReject A i) := li_gone h' hd cg rej_kM s2.2 rf rf (fun _ => Or.inr e10)
      exact fin
  rw [if_neg q10] at st ⊢
  have es : (A.1 11 + A.1 5).toInt = (A.1 11).toInt + (A.1 5).toInt := ti_add (by omega) (by omega)
  by_cases q11 : kRec A i 1 ≤ A.1 11 + A.1 5
  · rw [if_pos q11] at st ⊢
    refine ⟨q1, q2, qg, ?_⟩
    rw [if_pos rfl]
    have e11 := Int32.le_iff_toInt_le.mp q11
    exact li_stay h' hd h1 rfl (fun _ _ => rfl) rf rf rf (by show (kRec A i 1).toInt ≤ 1020; omega)
  · rw [if_neg q11] at st ⊢
    refine ⟨q1, q2, qg, ?_⟩
    rw [if_neg (show ¬ false = true by decide)]
    have e11 : ¬ (kRec A i 1).toInt ≤ (A.1 11 + A.1 5).toInt := fun z => q11 (Int32.le_iff_toInt_le.mpr z)
    have key : ∀ how : Nat, 0 < how ∧ how < 18 → LIx B Tn p1 p2 q1 q2 qg j i (aLeave A i how) := fun how hh => by
      have s2 := st_leave (A := A) (r := i) hh
      have n0 : (aLeave A i how).2 0 = A.2 0 := leave_n (by decide)
      have n3 : (aLeave A i how).2 3 = A.2 3 := leave_n (by decide)
      have n4 : (aLeave A i how).2 4 = A.2 4 := leave_n (by decide)
      have cg : CO B Tn Tn Tn Tn p1 p2 q1 q2 qg j 1021 (aLeave A i how) := co_gone h1 hd hj10 (by show _ ≤ (kRec A i 1).toInt; omega) (s2.1 h1.1) s2.2 (sub_eq (congrArg kNm n0)) leave_kM (leave_n (by decide)) (by rw [n3, n4]; exact h1.2.2.2.2.2.2.2.2) h1.2.2.2.2.2.2.1
      exact li_gone h' hd cg leave_kM s2.2 rf rf rf
    exact key _ (by split <;> decide)
end ACT
