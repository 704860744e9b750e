/-! the law's loop and its start -/
theorem law_new : (Cond.classLink RL 8 RX3) ∈ wsL_law ∧ (Cond.instantiable RX3 5) ∈ wsL_law ∧ (Cond.initialized RX3) ∈ wsL_law ∧ (Cond.methodLink RL 79 yX3_init) ∈ wsL_law ∧ (Cond.instanceMethod yX3_init) ∈ wsL_law ∧ (Cond.classLink RL 80 RX4) ∈ wsL_law ∧ (Cond.instantiable RX4 8) ∈ wsL_law ∧ (Cond.initialized RX4) ∈ wsL_law ∧ (Cond.methodLink RL 82 yX4_init) ∈ wsL_law ∧ (Cond.instanceMethod yX4_init) ∈ wsL_law ∧ (Cond.arrayClass .long) ∈ wsL_law := by decide +kernel
theorem sw_out26 {x : Int32} (h : ∀ j : Nat, j < 26 → ¬ x = nI j) : x.toInt < 0 ∨ 25 < x.toInt := by
  rcases pk_ix x (show 26 < 2 ^ 31 by decide) with h1 | h1 | ⟨j, hj, e⟩
  · have := Int32.lt_iff_toInt_lt.mp h1
    rw [show (0 : Int32).toInt = 0 from rfl] at this
    exact Or.inl this
  · have := Int32.le_iff_toInt_le.mp h1
    rw [show (nI 26).toInt = 26 from rfl] at this
    exact Or.inr (by omega)
  · exact absurd e (h j hj)
theorem law_more {Ln k : Nat} (hLn : Ln ≤ 3072) (hk : 6 * k ≤ Ln) (h : ¬ (Int32.ofNat Ln - 6) < nI (6 * k)) : 6 * k + 6 ≤ Ln := by
  have e1 : (Int32.ofNat Ln).toInt = (Ln : Int) := nI_toInt (n := Ln) (by omega)
  have e6 : (6 : Int32).toInt = 6 := by decide
  have e2 : (Int32.ofNat Ln - 6).toInt = (Ln : Int) - 6 := by rw [ti_sub (by rw [e1, e6]; omega) (by rw [e1, e6]; omega), e1, e6]
  have e3 : (nI (6 * k)).toInt = ((6 * k : Nat) : Int) := nI_toInt (by omega)
  have h2 : ¬ (Int32.ofNat Ln - 6).toInt < (nI (6 * k)).toInt := fun q => h (Int32.lt_iff_toInt_lt.mpr q)
  rw [e2, e3] at h2
  omega
set_option maxHeartbeats 4000000 in
set_option maxRecDepth 100000 in
theorem law_loop {p : Program} {l : Launch} {e : Env} {s : State} {m : MethodId} {below : List Frame} {meth : Method} {c : Code} {b Ln : Nat} {xs : Nat → Int32} {D : va_G} {cI cB cS cJ : ClassId} {K : State → Prop} {aL : Nat → Nat → Nat} {am : Nat → Nat} {ao : Nat} (C : LC p l s m c b Ln xs D cI cB cS cJ K) (hr : meth.sig.returnType = ret) (hlk : meth.locks = false) (hLn : Ln ≤ 3072) :
    ∀ (n k : Nat), 6 * k ≤ Ln → Ln < 6 * (k + n) → ∀ (o : Nat → Int64) (L : Nat → St) (M : Md), KL ((1000 * k : Nat) : Int) L M → ∀ (H : Heap) (locs : List Loc), va_P D vwCl (lawW cI cB cS cJ ao aL am o L M) H → va_D (fun q : Nat => s.heap.size ≤ q) (lawW cI cB cS cJ ao aL am o L M) → va_S (fun q : Nat => s.heap.size ≤ q) s.heap H locs → ∀ ls : Array Slot, lv_has ls 9 (lv5 b aL am ao (nI (6 * k))) → W p l e room_1 s m #[Value.ref b] below meth c H locs (200 + k) (20000 + 6 * k) (lw_Z below #[Value.ref b] s) (F0 m 23 ls []) := by
  obtain ⟨hx, hb, hml, hown, hts, hXX, hbl, EW, hfl, hKs, hSt⟩ := id C
  have hbA : ¬ (fun q : Nat => s.heap.size ≤ q) b := Nat.not_le.mpr hbl
  intro n
  induction n with
  | zero =>
    intro k h1 h2
    exact absurd h2 (by omega)
  | succ n ih =>
    intro k hk hn o L M hkl H locs hP hD hS ls hl
    have hl : lv_has ls 9 [(0, .ref b), (1, .ref (aL 7 0)), (2, .ref (am 0)), (3, .ref ao), (4, .int (nI (6 * k)))] := hl
    refine lv_iload hx hb dL_law_23 (lv_at hl 4 rfl) ?_
    refine lv_aload_n hx hb dL_law_25 rfl (lv_at hl 0 rfl) ?_
    refine va_slen hx hb hXX hbl hbA hS dL_law_26 ?_
    refine lv_bipush (v := 6) hx hb dL_law_27 (by decide) ?_
    refine lv_isub hx hb dL_law_29 ?_
    refine lv_icmp_gt (tgt := 1482) hx hb dL_law_30 (by decide) (fun _ => ?_) (fun c0 => ?_)
    · refine lv_iconst (v := 1) hx hb dL_law_1482 (by decide) ?_
      refine va_forget (fun q hq => hS.2.2 q hq) ?_
      refine W.widen (k := 601024) (n := 7293034) (by omega) (by omega) ?_
      refine W.base ?_
      exact lw_ret (Drawn.sameBut.refl s.drawn lw_cs) hx hb hr hlk dL_law_1483
    · have hm := law_more hLn hk c0
      have hc : 200 + k + 1 ≤ 601024 := by omega
      have hs : 20000 + 6 * k + 6 ≤ 7293034 := by omega
      have hB : ((1000 * k : Nat) : Int) + 1000 ≤ ((1000 * (k + 1) : Nat) : Int) := by omega
      have hB2 : ((1000 * (k + 1) : Nat) : Int) ≤ 1000000000 := by omega
      have hi0 : vp_in (nI (6 * k)) Ln := vp_in_nI (by omega) (by omega)
      have hi1 : vp_in (nI (6 * k) + 1) Ln := by rw [show nI (6 * k) + 1 = nI (6 * k + 1) from nI_add (6 * k) 1]; exact vp_in_nI (by omega) (by omega)
      have hi2 : vp_in (nI (6 * k) + 2) Ln := by rw [show nI (6 * k) + 2 = nI (6 * k + 2) from nI_add (6 * k) 2]; exact vp_in_nI (by omega) (by omega)
      have hi3 : vp_in (nI (6 * k) + 3) Ln := by rw [show nI (6 * k) + 3 = nI (6 * k + 3) from nI_add (6 * k) 3]; exact vp_in_nI (by omega) (by omega)
      have hi4 : vp_in (nI (6 * k) + 4) Ln := by rw [show nI (6 * k) + 4 = nI (6 * k + 4) from nI_add (6 * k) 4]; exact vp_in_nI (by omega) (by omega)
      have hi5 : vp_in (nI (6 * k) + 5) Ln := by rw [show nI (6 * k) + 5 = nI (6 * k + 5) from nI_add (6 * k) 5]; exact vp_in_nI (by omega) (by omega)
      have kk : LK p l e s m below meth c b D cI cB cS cJ aL am ao (nI (6 * k)) ((1000 * (k + 1) : Nat) : Int) (200 + k) (20000 + 6 * k) (lw_Z below #[Value.ref b] s) := by
        intro o2 L2 M2 hkl2 H2 locs2 hP2 hD2 hS2 ls2 hl2
        have hl2 : lv_has ls2 9 [(0, .ref b), (1, .ref (aL 7 0)), (2, .ref (am 0)), (3, .ref ao), (4, .int (nI (6 * k)))] := hl2
        refine lv_iinc (v := nI (6 * (k + 1))) (lv' := [(4, .int (nI (6 * (k + 1)))), (0, .ref b), (1, .ref (aL 7 0)), (2, .ref (am 0)), (3, .ref ao)]) hx hb dL_law_1476 hl2 (k := 4) rfl (nI_add (6 * k) 6) (by decide) rfl (fun ls3 hl3 => ?_)
        refine lv_goto (tgt := 23) hx hb dL_law_1479 (by decide) ?_
        refine W.widen (k := 200 + (k + 1)) (n := 20000 + 6 * (k + 1)) (by omega) (by omega) ?_
        exact ih (k + 1) (by omega) (by omega) o2 L2 M2 hkl2 H2 locs2 hP2 hD2 hS2 ls3 (lv_sub hl3 [1, 2, 3, 4, 0] rfl)
      refine lv_aload_n hx hb dL_law_33 rfl (lv_at hl 0 rfl) ?_
      refine lv_iload hx hb dL_law_34 (lv_at hl 4 rfl) ?_
      refine va_sld hx hb hXX hbl hbA hS hi0 dL_law_36 ?_
      refine lv_bipush (v := 31) hx hb dL_law_37 (by decide) ?_
      refine lv_iand hx hb dL_law_39 ?_
      refine lv_topi (fun v ev => ?_)
      rcases Classical.em (v = 0) with c0 | c0
      · refine lv_tableIn (tgt := 160) (off := 120) hx hb dL_law_40 (by rw [c0]; decide) (by rw [c0]; decide) (by rw [c0]; rfl) (by decide) ?_
        exact law_setPlaces C hi1 hi2 hi3 hi4 hi5 hkl hB hB2 hc hs hP hD hS hl kk
      rcases Classical.em (v = 1) with c1 | c1
      · refine lv_tableIn (tgt := 264) (off := 224) hx hb dL_law_40 (by rw [c1]; decide) (by rw [c1]; decide) (by rw [c1]; rfl) (by decide) ?_
        exact law_set C hi1 hi2 hkl hB hB2 hc hs hP hD hS hl kk
      rcases Classical.em (v = 2) with c2 | c2
      · refine lv_tableIn (tgt := 332) (off := 292) hx hb dL_law_40 (by rw [c2]; decide) (by rw [c2]; decide) (by rw [c2]; rfl) (by decide) ?_
        exact law_value C hi1 hkl hB hB2 hc hs hP hD hS hl kk
      rcases Classical.em (v = 3) with c3 | c3
      · refine lv_tableIn (tgt := 388) (off := 348) hx hb dL_law_40 (by rw [c3]; decide) (by rw [c3]; decide) (by rw [c3]; rfl) (by decide) ?_
        exact law_jam C hi1 hkl hB hB2 hc hs hP hD hS hl kk
      rcases Classical.em (v = 4) with c4 | c4
      · refine lv_tableIn (tgt := 429) (off := 389) hx hb dL_law_40 (by rw [c4]; decide) (by rw [c4]; decide) (by rw [c4]; rfl) (by decide) ?_
        exact law_start C hkl hB hB2 hc hs hP hD hS hl kk
      rcases Classical.em (v = 5) with c5 | c5
      · refine lv_tableIn (tgt := 473) (off := 433) hx hb dL_law_40 (by rw [c5]; decide) (by rw [c5]; decide) (by rw [c5]; rfl) (by decide) ?_
        exact law_stop C hkl hB hB2 hc hs hP hD hS hl kk
      rcases Classical.em (v = 6) with c6 | c6
      · refine lv_tableIn (tgt := 517) (off := 477) hx hb dL_law_40 (by rw [c6]; decide) (by rw [c6]; decide) (by rw [c6]; rfl) (by decide) ?_
        exact law_reset C hkl hB hB2 hc hs hP hD hS hl kk
      rcases Classical.em (v = 7) with c7 | c7
      · refine lv_tableIn (tgt := 561) (off := 521) hx hb dL_law_40 (by rw [c7]; decide) (by rw [c7]; decide) (by rw [c7]; rfl) (by decide) ?_
        exact law_feed C hi1 hkl hB hB2 hc hs hP hD hS hl kk
      rcases Classical.em (v = 8) with c8 | c8
      · refine lv_tableIn (tgt := 617) (off := 577) hx hb dL_law_40 (by rw [c8]; decide) (by rw [c8]; decide) (by rw [c8]; rfl) (by decide) ?_
        exact law_slip C hi1 hi2 hkl hB hB2 hc hs hP hD hS hl kk
      rcases Classical.em (v = 9) with c9 | c9
      · refine lv_tableIn (tgt := 685) (off := 645) hx hb dL_law_40 (by rw [c9]; decide) (by rw [c9]; decide) (by rw [c9]; rfl) (by decide) ?_
        exact law_take C hi1 hkl hB hB2 hc hs hP hD hS hl kk
      rcases Classical.em (v = 10) with c10 | c10
      · refine lv_tableIn (tgt := 741) (off := 701) hx hb dL_law_40 (by rw [c10]; decide) (by rw [c10]; decide) (by rw [c10]; rfl) (by decide) ?_
        exact law_run C hi1 hkl hB hB2 hc hs hP hD hS hl kk
      rcases Classical.em (v = 11) with c11 | c11
      · refine lv_tableIn (tgt := 797) (off := 757) hx hb dL_law_40 (by rw [c11]; decide) (by rw [c11]; decide) (by rw [c11]; rfl) (by decide) ?_
        exact law_status C hi1 hkl hB hB2 hc hs hP hD hS hl kk
      rcases Classical.em (v = 12) with c12 | c12
      · refine lv_tableIn (tgt := 853) (off := 813) hx hb dL_law_40 (by rw [c12]; decide) (by rw [c12]; decide) (by rw [c12]; rfl) (by decide) ?_
        exact law_item C hi1 hi2 hkl hB hB2 hc hs hP hD hS hl kk
      rcases Classical.em (v = 13) with c13 | c13
      · refine lv_tableIn (tgt := 921) (off := 881) hx hb dL_law_40 (by rw [c13]; decide) (by rw [c13]; decide) (by rw [c13]; rfl) (by decide) ?_
        exact law_record C hi1 hi2 hkl hB hB2 hc hs hP hD hS hl kk
      rcases Classical.em (v = 14) with c14 | c14
      · refine lv_tableIn (tgt := 989) (off := 949) hx hb dL_law_40 (by rw [c14]; decide) (by rw [c14]; decide) (by rw [c14]; rfl) (by decide) ?_
        exact law_numberAt C hi1 hi2 hkl hB hB2 hc hs hP hD hS hl kk
      rcases Classical.em (v = 15) with c15 | c15
      · refine lv_tableIn (tgt := 1073) (off := 1033) hx hb dL_law_40 (by rw [c15]; decide) (by rw [c15]; decide) (by rw [c15]; rfl) (by decide) ?_
        exact law_counter C hi1 hkl hB hB2 hc hs hP hD hS hl kk
      rcases Classical.em (v = 16) with c16 | c16
      · refine lv_tableIn (tgt := 1129) (off := 1089) hx hb dL_law_40 (by rw [c16]; decide) (by rw [c16]; decide) (by rw [c16]; rfl) (by decide) ?_
        exact law_reconcile C hi1 hkl hB hB2 hc hs hP hD hS hl kk
      rcases Classical.em (v = 17) with c17 | c17
      · refine lv_tableIn (tgt := 1170) (off := 1130) hx hb dL_law_40 (by rw [c17]; decide) (by rw [c17]; decide) (by rw [c17]; rfl) (by decide) ?_
        exact law_goodShare C hkl hB hB2 hc hs hP hD hS hl kk
      rcases Classical.em (v = 18) with c18 | c18
      · refine lv_tableIn (tgt := 1211) (off := 1171) hx hb dL_law_40 (by rw [c18]; decide) (by rw [c18]; decide) (by rw [c18]; rfl) (by decide) ?_
        exact law_spare C hi1 hkl hB hB2 hc hs hP hD hS hl kk
      rcases Classical.em (v = 19) with c19 | c19
      · refine lv_tableIn (tgt := 1267) (off := 1227) hx hb dL_law_40 (by rw [c19]; decide) (by rw [c19]; decide) (by rw [c19]; rfl) (by decide) ?_
        exact law_fastest C hkl hB hB2 hc hs hP hD hS hl kk
      rcases Classical.em (v = 20) with c20 | c20
      · refine lv_tableIn (tgt := 1280) (off := 1240) hx hb dL_law_40 (by rw [c20]; decide) (by rw [c20]; decide) (by rw [c20]; rfl) (by decide) ?_
        exact law_fate C hi1 hkl hB hB2 hc hs hP hD hS hl kk
      rcases Classical.em (v = 21) with c21 | c21
      · refine lv_tableIn (tgt := 1336) (off := 1296) hx hb dL_law_40 (by rw [c21]; decide) (by rw [c21]; decide) (by rw [c21]; rfl) (by decide) ?_
        exact law_append C hi1 hkl hB hB2 hc hs hP hD hS hl kk
      rcases Classical.em (v = 22) with c22 | c22
      · refine lv_tableIn (tgt := 1392) (off := 1352) hx hb dL_law_40 (by rw [c22]; decide) (by rw [c22]; decide) (by rw [c22]; rfl) (by decide) ?_
        exact law_clearText C hkl hB hB2 hc hs hP hD hS hl kk
      rcases Classical.em (v = 23) with c23 | c23
      · refine lv_tableIn (tgt := 1405) (off := 1365) hx hb dL_law_40 (by rw [c23]; decide) (by rw [c23]; decide) (by rw [c23]; rfl) (by decide) ?_
        exact law_carryOut C hkl hB hB2 hc hs hP hD hS hl kk
      rcases Classical.em (v = 24) with c24 | c24
      · refine lv_tableIn (tgt := 1418) (off := 1378) hx hb dL_law_40 (by rw [c24]; decide) (by rw [c24]; decide) (by rw [c24]; rfl) (by decide) ?_
        exact law_undo C hkl hB hB2 hc hs hP hD hS hl kk
      rcases Classical.em (v = 25) with c25 | c25
      · refine lv_tableIn (tgt := 1462) (off := 1422) hx hb dL_law_40 (by rw [c25]; decide) (by rw [c25]; decide) (by rw [c25]; rfl) (by decide) ?_
        exact law_digest C hkl hB hB2 hc hs hP hD hS hl kk
      refine lv_tableOut (tgt := 1476) hx hb dL_law_40 (sw_out26 fun j hj => ?_) (by decide) ?_
      · match j, hj with
        | 0, _ => exact c0
        | 1, _ => exact c1
        | 2, _ => exact c2
        | 3, _ => exact c3
        | 4, _ => exact c4
        | 5, _ => exact c5
        | 6, _ => exact c6
        | 7, _ => exact c7
        | 8, _ => exact c8
        | 9, _ => exact c9
        | 10, _ => exact c10
        | 11, _ => exact c11
        | 12, _ => exact c12
        | 13, _ => exact c13
        | 14, _ => exact c14
        | 15, _ => exact c15
        | 16, _ => exact c16
        | 17, _ => exact c17
        | 18, _ => exact c18
        | 19, _ => exact c19
        | 20, _ => exact c20
        | 21, _ => exact c21
        | 22, _ => exact c22
        | 23, _ => exact c23
        | 24, _ => exact c24
        | 25, _ => exact c25
        | j + 26, h => exact absurd h (by omega)
      · obtain ⟨A0, H0, o0, n0, hrl⟩ := hkl
        refine W.widen (k := 200 + k + 1) (n := 20000 + 6 * k + 6) (Nat.le_succ _) (Nat.le_add_right _ _) ?_
        exact kk o L M ⟨A0, H0, o0, n0, rl_mono hrl (by omega)⟩ H locs hP hD hS ls hl
set_option maxHeartbeats 4000000 in
set_option maxRecDepth 100000 in
/-- from the entry -/
theorem whole_start {p : Program} {e : Env} {s : State} {m : MethodId} {below : List Frame} {meth : Method} {c : Code} (l : Launch) (hflags : l.flags = flags0) {b L : Nat} {xs : Nat → Int32} (hL : L ≤ 3072) (C0 : lw_At p s m meth c b L xs) : W p l e room_1 s m #[Value.ref b] below meth c s.heap [] 0 0 (lw_Z below #[Value.ref b] s) (entryFrame m ([Value.ref b] : List Value).toArray 9) := by
  obtain ⟨hx, hb, hr, hml, hown, ht, hXX, hbl, hlk, hgv⟩ := C0
  have hs := flat_of_before _ hgv
  have hts : ∀ w ∈ wsL_law, w.before #[Value.ref b] s = true := fun w hw => ht w (wsL_law_in w hw)
  have hfl : l.stackTraces = false := by unfold Launch.stackTraces; rw [hflags]; decide +kernel
  obtain ⟨D, cI, cB, cS, cJ, hKs⟩ := KK_at ht hs
  have EW := KK_EW D cI cB cS cJ
  have E := EW.1.1
  have hAO0 : ∀ U, KK D cI cB cS cJ U → va_AO RX1 U := fun U h => (EW.2 U h).1
  have hK := (E.2 s hKs).1
  have hSt := kSt_start ht hs
  have C : LC p l s m c b L xs D cI cB cS cJ (KK D cI cB cS cJ) := ⟨hx, hb, hml, hown, hts, hXX, hbl, EW, hfl, hKs, hSt⟩
  have hX : CallFix p m c cL_law 9 s _ wsL_law RL := ⟨hx, hb, hml, hown, hts⟩
  have hA : ∀ q : Nat, s.heap.size ≤ q → (fun q : Nat => s.heap.size ≤ q) q := fun _ h => h
  have hS : va_S (fun q : Nat => s.heap.size ≤ q) s.heap s.heap [] := va_S.rf
  have hP : va_P D vwCl [] s.heap := fun k q h => by simp at h
  have hD : va_D (fun q : Nat => s.heap.size ≤ q) [] := ⟨fun i j p q h => by simp at h, fun k q h => by simp at h⟩
  have hl := lv_entry ([.ref b]) (n := 9) (Nat.le_of_ble_eq_true rfl)
  rw [lg_entry_eq]
  generalize (lg_sl ([.ref b]) ++ List.replicate (9 - (lg_sl ([.ref b])).length) Slot.unset).toArray = ls at hl ⊢
  have hl : lv_has ls 9 [(0, .ref b)] := hl
  obtain ⟨n1, n2, n3, n4, n5, n6, n7, n8, n9, n10, n11⟩ := law_new
  refine va_new (D := D) (cl := vwCl) (ci := 3) (fs := [.null, .null, .null, .null, .int 0]) (C := RX3) (T := TX3) (N := 5) hx hb hts inlX3 tyX3 tyX3_ok hown (hts _ n1) (hts _ n2) (hts _ n3) hK hP hD hS hA rfl (by intro j hj; rcases (show j = 0 ∨ j = 1 ∨ j = 2 ∨ j = 3 ∨ j = 4 by omega) with rfl | rfl | rfl | rfl | rfl <;> rfl) (Nat.le_of_ble_eq_true rfl) (Nat.le_of_ble_eq_true rfl) dL_law_0 (fun x0 H hP hD hS => ?_)
  have hP : va_P D vwCl [(x0, .inr (3, [.null, .null, .null, .null, .int 0]))] H := hP
  have hD : va_D (fun q : Nat => s.heap.size ≤ q) [(x0, .inr (3, [.null, .null, .null, .null, .int 0]))] := hD
  refine lv_dup hx hb dL_law_3 rfl ?_
  refine kcC (mc := 101) (ms := 9237) (As := []) (rest := [.ref x0]) E.1 (cx3_init E hAO0 x0) hX (cwI 0 hts gL_law_X3_init rfl rfl rfl (hts _ n3) (hts _ n4) (hts _ n5) rfl (by decide +kernel) ⟨Nat.le_of_ble_eq_true rfl, Nat.le_of_ble_eq_true rfl⟩) hKs hP hD hS hA [] [] (wi := [(x0, .inr (3, [.null, .null, .null, .null, .int 0]))]) rfl rfl rfl hl.1 (Nat.le_of_ble_eq_true rfl) dL_law_4 ⟨Nat.le_of_ble_eq_true rfl, Nat.le_of_ble_eq_true rfl⟩ (fun w2 g2 H locs hP hD hS => ?_)
  obtain ⟨aL, eaL, rfl⟩ := g2
  rw [List.append_nil, List.nil_append] at hP hD
  rw [← eaL]
  refine lv_astore_n (lv' := [(1, .ref (aL 7 0)), (0, .ref b)]) hx hb dL_law_7 rfl hl (by decide) rfl (fun ls hl => ?_)
  refine va_new (D := D) (cl := vwCl) (ci := 4) (fs := [.null, .null, .null, .int 0, .int 0, .null, .int 0, .long 0]) (C := RX4) (T := TX4) (N := 8) hx hb hts inlX4 tyX4 tyX4_ok hown (hts _ n6) (hts _ n7) (hts _ n8) hK hP hD hS hA rfl (by intro j hj; rcases (show j = 0 ∨ j = 1 ∨ j = 2 ∨ j = 3 ∨ j = 4 ∨ j = 5 ∨ j = 6 ∨ j = 7 by omega) with rfl | rfl | rfl | rfl | rfl | rfl | rfl | rfl <;> rfl) (Nat.le_of_ble_eq_true rfl) (Nat.le_of_ble_eq_true rfl) dL_law_8 (fun x1 H hP hD hS => ?_)
  refine lv_dup hx hb dL_law_11 rfl ?_
  refine kcC (mc := 4) (ms := 7298) (As := []) (rest := [.ref x1]) E.1 (cx4_init E x1) hX (cwI 0 hts gL_law_X4_init rfl rfl rfl (hts _ n8) (hts _ n9) (hts _ n10) rfl (by decide +kernel) ⟨Nat.le_of_ble_eq_true rfl, Nat.le_of_ble_eq_true rfl⟩) hKs hP hD hS hA (lsW cI cB cS aL iL0) [] (wi := [(x1, .inr (4, [.null, .null, .null, .int 0, .int 0, .null, .int 0, .long 0]))]) (by rw [List.append_nil]) rfl rfl hl.1 (Nat.le_of_ble_eq_true rfl) dL_law_12 ⟨Nat.le_of_ble_eq_true rfl, Nat.le_of_ble_eq_true rfl⟩ (fun w2 g2 H locs hP hD hS => ?_)
  obtain ⟨am, eam, rfl⟩ := g2
  rw [List.append_nil] at hP hD
  rw [← eam]
  refine lv_astore_n (lv' := [(2, .ref (am 0)), (1, .ref (aL 7 0)), (0, .ref b)]) hx hb dL_law_15 rfl hl (by decide) rfl (fun ls hl => ?_)
  refine lv_iconst (v := 1) hx hb dL_law_16 (by decide) ?_
  refine kNewJ hx hb (hts _ n11) hK hP hD hS hA (N := 1) (by decide) (by decide) (Nat.le_of_ble_eq_true rfl) (Nat.le_of_ble_eq_true rfl) (Nat.le_of_ble_eq_true rfl) dL_law_17 (fun ao H hP hD hS => ?_)
  have eW : (lsW cI cB cS aL iL0 ++ mdW cI am iM0) ++ [(ao, .inl (cJ, 1, .inr (.inl (fun _ => 0))))] = [] ++ ((lsW cI cB cS aL iL0 ++ mdW cI am iM0) ++ (outW cJ ao (fun _ => 0) ++ [])) := by rw [List.append_nil, List.nil_append]; rfl
  have eV : [] ++ (outW cJ ao (fun _ => 0) ++ ((lsW cI cB cS aL iL0 ++ mdW cI am iM0) ++ [])) = lawW cI cB cS cJ ao aL am (fun _ => 0) iL0 iM0 := by rw [List.append_nil, List.nil_append]; rfl
  rw [eW] at hP hD
  have hP := ksw_P hP
  have hD := ksw_D hD
  rw [eV] at hP hD
  refine lv_astore_n (lv' := [(3, .ref ao), (2, .ref (am 0)), (1, .ref (aL 7 0)), (0, .ref b)]) hx hb dL_law_19 rfl hl (by decide) rfl (fun ls hl => ?_)
  refine lv_iconst (v := 0) hx hb dL_law_20 (by decide) ?_
  refine lv_istore (lv' := [(4, .int 0), (3, .ref ao), (2, .ref (am 0)), (1, .ref (aL 7 0)), (0, .ref b)]) hx hb dL_law_21 hl (by decide) rfl (fun ls hl => ?_)
  refine W.widen (k := 200 + 0) (n := 20000 + 6 * 0) (by omega) (by omega) ?_
  exact law_loop C hr hlk hL (L + 1) 0 (Nat.zero_le L) (by omega) (fun _ => 0) iL0 iM0 i_kl H _ hP hD hS ls (lv_sub hl [4, 3, 2, 1, 0] rfl)
