/-! calls: append, clearText, undo, carryOut -/
theorem byte_id : ∀ v, v < 128 → vp_nar .byte ((nI v).toInt8.toInt32) = nI v := by decide +kernel
section CALLS4
variable {B B' : Int} {L : Nat → St} {M : Md}
theorem q_append (h : KL B L M) (hB : B ≤ B') (x1 : Int32) : sx3_append L x1 ∧ sx4_append M x1 ∧ CR 1 2 B' (fx3_append L x1).1 (fx3_append L x1).2.1 (fx3_append L x1).2.2 (fx4_append M x1) := by
  obtain ⟨A, H, o, n, hx⟩ := h
  have hx' := hx
  obtain ⟨h1, h2, h3, h4, h5, h6, t1, t2, t3, t4⟩ := hx'
  rcases w_split x1 (u := 127) (by decide) with q | ⟨v, hv, rfl, q1, q2⟩
  · have e : sx3_append L x1 ∧ fx3_append L x1 = (1, 0, L) := by
      unfold sx3_append fx3_append
      by_cases q1 : x1 < 0
      · rw [if_pos q1, if_pos q1]
        exact ⟨trivial, rfl⟩
      · rw [if_neg q1, if_neg (show ¬ x1 ≤ 127 from q.resolve_left q1), if_neg q1, if_neg (show ¬ x1 ≤ 127 from q.resolve_left q1)]
        exact ⟨trivial, rfl⟩
    rw [e.2]
    unfold sx4_append fx4_append
    rw [w_no (x := x1) (l := 0) (u := 127) q, if_pos p00, if_pos p00, rfb1, rfb1, if_neg n10, if_neg n10]
    exact ⟨e.1, trivial, cr_ref hx hB (Or.inl rfl) rfl kec1⟩
  · have q2' : nI v ≤ (127 : Int32) := q2
    have l0 : ¬ nI n < 0 := nI_pos (by omega)
    unfold sx3_append fx3_append sx4_append fx4_append
    rw [w_ok (x := nI v) (l := 0) (u := 127) q1 q2, if_neg n10, if_neg n10, if_neg q1, if_pos q2', if_neg q1, if_pos q2', t1, t2, if_neg l0, if_neg l0]
    by_cases qn : n = 80
    · rw [qn, if_neg (show ¬ nI 80 < nI 80 by decide), if_neg (show ¬ nI 80 < nI 80 by decide), if_pos (show nI 80 = (80 : Int32) from rfl), if_pos (show nI 80 = (80 : Int32) from rfl), rfb2, rfb2, if_neg n10, if_neg n10]
      exact ⟨trivial, trivial, cr_ref hx hB (Or.inr rfl) rfl kec2⟩
    · have ql : nI n < nI 80 := nI_lt (by omega) (by omega)
      have qe : ¬ nI n = (80 : Int32) := fun z => qn ((nI_eq (a := n) (b := 80) (by omega) (by decide)).mp z)
      have vp : vp_in (nI n) 80 := vp_in_nI (by omega) (by decide)
      have e2 : (m0 M 0).1 4 2 = nI n := t2
      rw [if_pos ql, if_pos ql, if_neg qe, if_neg qe, rfb0, rfb0, if_pos p00, if_pos p00, e2, nI_clamp (show n < 2 ^ 31 by omega), byte_id v (by omega)]
      refine ⟨vp, vp, ?_⟩
      repeat rw [bnd_o]
      refine cr_ok (A' := A) (H' := H) (o' := o) (n' := n + 1) rfl ?_ rfl ?_
      · show L 7 1 2 + 1 = nI n + 1
        rw [t1]
      · refine rl_mono (B := B) ?_ hB
        refine ⟨h1, h2, h3, h4, hc_ext h5 rfl rfl (fun j hj => ?_), h6, ?_, ?_, by omega, fun i hi => ?_⟩
        · dsimp only
          rw [va_up_ne _ _ (by omega), va_up_ne _ _ (by omega)]
        · show L 7 1 2 + 1 = nI (n + 1)
          rw [t1, nI_1]
        · exact nI_1 n
        · show (if i = n then nI v else L 7 0 i) = (if i = n then nI v else M.1 3 i) ∧ ∃ v', v' < 128 ∧ (if i = n then nI v else M.1 3 i) = nI v'
          by_cases z : i = n
          · rw [if_pos z, if_pos z]
            exact ⟨rfl, v, by omega, rfl⟩
          · rw [if_neg z, if_neg z]
            exact t4 i (by omega)
theorem q_clearText (h : KL B L M) (hB : B ≤ B') : (fx3_clearText L).1 = (fx4_clearText M).1 ∧ KL B' (fx3_clearText L).2 (fx4_clearText M).2 := by
  obtain ⟨A, H, o, n, hx⟩ := h
  have hx' := hx
  obtain ⟨h1, h2, h3, h4, h5, h6, t1, t2, t3, t4⟩ := hx'
  unfold fx3_clearText fx4_clearText
  rw [bnd_o]
  refine ⟨t1.trans t2.symm, A, H, o, 0, rl_mono (B := B) ?_ hB⟩
  exact ⟨h1, h2, h3, h4, hc_ext h5 rfl rfl (fun j hj => va_up_ne _ _ (by omega)), h6, rfl, rfl, by decide, fun i hi => by omega⟩
theorem rc_67 {S : St} {A : Ab} (h : RC S A) (f : FZ A) : S 3 6 = -1 ∧ S 3 7 = 0 := ⟨(rc_wat h).trans f.2, (rc_out h).trans f.1⟩
theorem q_undo (h : KL B L M) (hB : B ≤ B') : sx3_undo L ∧ sx4_undo M ∧ CR 2 2 B' (fx3_undo L).1 (fx3_undo L).2.1 (fx3_undo L).2.2 (fx4_undo M) := by
  obtain ⟨A, H, o, n, hx⟩ := h
  have hx' := hx
  obtain ⟨h1, h2, h3, h4, h5, ⟨m1, m2, m3⟩, t1, t2, t3, t4⟩ := hx'
  have e4 : L 7 1 1 = nI H.length := h5.2.2.2.1
  unfold sx3_undo fx3_undo sx4_undo fx4_undo fx0_count
  dsimp only
  rw [e4, m1]
  rcases List.eq_nil_or_concat H with rfl | ⟨H0, A1, rfl⟩
  · rw [if_pos (show nI ([] : List Ab).length = 0 from rfl), if_pos (show nI ([] : List Ab).length = 0 from rfl), if_pos (show nI ([] : List Ab).length = 0 from rfl), if_pos (show nI ([] : List Ab).length = 0 from rfl), rfb1, rfb1, if_neg n10, if_neg n10]
    exact ⟨trivial, trivial, cr_ref hx hB (Or.inl rfl) rfl kec2⟩
  · rw [List.concat_eq_append] at *
    have hl : (H0 ++ [A1]).length = H0.length + 1 := by rw [List.length_append]; rfl
    have nz : ¬ nI (H0 ++ [A1]).length = 0 := nI_ne0 (by omega) (by omega)
    rw [if_neg nz, if_neg nz, if_neg nz, if_neg nz, rfb0, rfb0, if_pos p00, if_pos p00]
    have gA : GA B A1 := h4 A1 (List.mem_append_right _ (List.mem_singleton.mpr rfl))
    obtain ⟨z6, z7⟩ := rc_67 h1 h3.2
    obtain ⟨c1, c2, c3, c4, c5⟩ := hc_last h5 gA z6 z7
    have em : (m0 M 0).1 4 0 - 1 = nI H0.length := by
      show M.1 4 0 - 1 = _
      rw [m1, hl, nI_pred]
    dsimp only
    rw [em, bnd_o]
    have ez : (va_up (sset (m0 M 0).1 4 0 (nI H0.length)) 0 (M.1 0), (m0 M 0).2) = (sset (m0 M 0).1 4 0 (nI H0.length), (m0 M 0).2) := by
      rw [show M.1 0 = sset (m0 M 0).1 4 0 (nI H0.length) 0 from rfl, up_id]
    obtain ⟨u1, u2⟩ := un_L (M := (sset (m0 M 0).1 4 0 (nI H0.length), (m0 M 0).2)) (n := H0.length) (by omega) rfl 1203 0 kfu (M.1 0) (by decide) (by unfold kfu; omega)
    dsimp only at u1 u2
    rw [ez] at u1 u2
    rw [show nI 0 = (0 : Int32) from rfl] at u1 u2
    rw [u2]
    refine ⟨c1, u1, ?_⟩
    refine cr_ok (A' := A1) (H' := H0) (o' := o) (n' := n) rfl c3.2.2.2.1 rfl (rl_mono (B := B) ?_ hB)
    refine ⟨c2, ?_, gA, fun A' hA => h4 A' (List.mem_append_left _ hA), c3, ⟨rfl, by omega, fun j A' hj => ?_⟩, c4.trans t1, t2, t3, fun i hi => ?_⟩
    · have r := m3 H0.length A1 (by rw [List.getElem?_append_right (Nat.le_refl _), Nat.sub_self]; rfl)
      refine rm_cong r fun x hx => ?_
      show (if 0 ≤ x ∧ x < 1203 then _ else _) = _
      rw [if_pos ⟨Nat.zero_le _, hx⟩]
      rfl
    · have hj2 : j < H0.length := (List.getElem?_eq_some_iff.mp hj).1
      exact m3 j A' (by rw [List.getElem?_append_left hj2]; exact hj)
    · show fxh_bringBackLatest L 7 0 i = M.1 3 i ∧ ∃ v, v < 128 ∧ M.1 3 i = nI v
      rw [c5]
      exact t4 i hi
end CALLS4
