/-! the class's saved states -/
theorem kTT_cpy {W C n : Nat} {T : Tb} {l : List kRow} (h : kTT W C T l) (hn : W * C = n) (f : Nat → Int32) : kTT W C (T.1, va_cpy T.2 f 0 0 n) l := by
  refine ⟨h.1, h.2.1, kRw_frame h.2.2 fun x hx hx' => ?_⟩
  have hm : W * l.length ≤ W * C := Nat.mul_le_mul_left _ h.2.1
  show (if 0 ≤ x ∧ x < 0 + n then T.2 (0 + (x - 0)) else f x) = T.2 x
  rw [if_pos (by omega), Nat.sub_zero, Nat.zero_add]
section CPY
variable {Zs S : St} {A : Ab} {i : Nat}
theorem scl_s3' {S : St} {a : Nat} {v : Int32} (ha : a < 8) {i : Nat} (hi : kSc i) : scl (sset S 3 a v) i = if i = s3n a then v else scl S i := scl_s3 ha hi
theorem scl_cpy (hi : kSc i) : scl (fx1_copyFrom Zs S) i = if i = 1202 then S 3 6 else if i = 1201 then S 3 7 else scl Zs i := by
  have hi' := hi
  rcases kSc_cases hi with h | ⟨j, h, rfl⟩ | ⟨j, h, rfl⟩ | ⟨a, h, rfl⟩
  · rw [if_neg (by omega), if_neg (by omega), scl_0 _ h, scl_0 _ h]
    show va_cpy (Zs 0) (S 0) 0 0 7 i = Zs 0 i
    show (if 0 ≤ i ∧ i < 0 + 7 then Zs 0 (0 + (i - 0)) else S 0 i) = _
    rw [if_pos (by omega), Nat.sub_zero, Nat.zero_add]
  · rw [if_neg (by omega), if_neg (by omega), scl_1 _ h, scl_1 _ h]
    show va_cpy (Zs 1) (S 1) 0 0 5 j = Zs 1 j
    show (if 0 ≤ j ∧ j < 0 + 5 then Zs 1 (0 + (j - 0)) else S 1 j) = _
    rw [if_pos (by omega), Nat.sub_zero, Nat.zero_add]
  · rw [if_neg (by omega), if_neg (by omega), scl_2 _ h, scl_2 _ h]
    show va_cpy (Zs 2) (S 2) 0 0 18 j = Zs 2 j
    show (if 0 ≤ j ∧ j < 0 + 18 then Zs 2 (0 + (j - 0)) else S 2 j) = _
    rw [if_pos (by omega), Nat.sub_zero, Nat.zero_add]
  · rw [scl_3 _ h]
    rcases a8 h with rfl | rfl | rfl | rfl | rfl | rfl | rfl | rfl
    · rfl
    · rfl
    · rfl
    · rfl
    · rfl
    · rfl
    · rfl
    · rfl
theorem rc_copyW (h : RC Zs A) : RC (fx1_copyFrom Zs S) (aS (aS A 1202 (S 3 6)) 1201 (S 3 7)) := by
  refine ⟨fun i hi => ?_, fun k hk => ?_⟩
  · rw [scl_cpy hi]
    show _ = if i = 1201 then S 3 7 else if i = 1202 then S 3 6 else A.1 i
    by_cases q : i = 1201
    · rw [if_neg (by omega), if_pos q, if_pos q]
    · rw [if_neg q, if_neg q]
      by_cases q2 : i = 1202
      · rw [if_pos q2, if_pos q2]
      · rw [if_neg q2, if_neg q2]
        exact h.1 i hi
  · rcases k5 hk with rfl | rfl | rfl | rfl | rfl
    · exact kTT_cpy (h.2 0 hk) rfl _
    · exact kTT_cpy (h.2 1 hk) rfl _
    · exact kTT_cpy (h.2 2 hk) rfl _
    · exact kTT_cpy (h.2 3 hk) rfl _
    · exact kTT_cpy (h.2 4 hk) rfl _
theorem rc_copy (h : RC Zs A) (hf : FZ A) (z6 : S 3 6 = -1) (z7 : S 3 7 = 0) : RC (fx1_copyFrom Zs S) A := by
  refine rc_ext (rc_copyW h) (fun i hi => ?_) (fun _ _ => rfl)
  show _ = if i = 1201 then S 3 7 else if i = 1202 then S 3 6 else A.1 i
  by_cases q : i = 1201
  · rw [if_pos q, q, z7, hf.1]
  · rw [if_neg q]
    by_cases q2 : i = 1202
    · rw [if_pos q2, q2, z6, hf.2]
    · rw [if_neg q2]
theorem copy_67 : fx1_copyFrom Zs S 3 6 = S 3 6 ∧ fx1_copyFrom Zs S 3 7 = S 3 7 := ⟨rfl, rfl⟩
theorem copy_ok (h : RC Zs A) (w : WI A) : sx1_copyFrom Zs S := by
  unfold sx1_copyFrom
  repeat rw [bnd_o]
  refine ⟨?_, ?_⟩
  · rw [rc_run h]
    exact w.2.1
  · rw [rc_jam h]
    exact w.1
end CPY
def HC (L : Nat → St) (H : List Ab) (o : Nat) : Prop := o < 5 ∧ H.length ≤ 4 ∧ L 7 1 0 = nI o ∧ L 7 1 1 = nI H.length ∧ (∀ j A, H[j]? = some A → RC (L (2 + (o + j) % 5)) A) ∧ ∀ j, j < 5 → L (2 + j) 3 6 = -1 ∧ L (2 + j) 3 7 = 0
def kPush (H : List Ab) (A : Ab) : List Ab := (if H.length = 4 then H.drop 1 else H) ++ [A]
theorem hix_e : ∀ o, o < 5 → ∀ v, v < 5 → hix (nI o) (nI v) = nI ((o + v) % 5) ∧ ¬ hix (nI o) (nI v) < 0 ∧ ¬ nI 5 ≤ hix (nI o) (nI v) := by decide
theorem keep_e : ∀ o, o < 5 → (nI o + 1) - (nI o + 1) / 5 * 5 = nI ((o + 1) % 5) := by decide
section HCS
variable {L : Nat → St} {H : List Ab} {o : Nat} {A : Ab} {B : Int}
theorem hc_jn (h : HC L H o) : hjn L = (o + H.length) % 5 ∧ sx0_slot (L 7 1 0) (L 7 1 1) := by
  obtain ⟨h1, h2, h3, h4, h5, h6⟩ := h
  obtain ⟨a1, a2, a3⟩ := hix_e o h1 H.length (by omega)
  unfold hjn sx0_slot
  rw [h3, h4]
  refine ⟨?_, a2, a3⟩
  rw [a1, nI_clamp (by omega)]
/-- what the history looks at is as it was -/
theorem hc_ext {L' : Nat → St} (h : HC L H o) (e0 : L' 7 1 0 = L 7 1 0) (e1 : L' 7 1 1 = L 7 1 1) (e : ∀ j, j < 5 → L' (2 + j) = L (2 + j)) : HC L' H o := by
  obtain ⟨h1, h2, h3, h4, h5, h6⟩ := h
  refine ⟨h1, h2, e0.trans h3, e1.trans h4, fun j A hj => ?_, fun j hj => ?_⟩
  · rw [e _ (by omega)]
    exact h5 j A hj
  · rw [e j hj]
    exact h6 j hj
theorem mod5 {o j n : Nat} (hn : n ≤ 4) (hj : j < n) : (o + j) % 5 ≠ (o + n) % 5 := by omega
theorem hc_prep (h : HC L H o) (hr : RC (L 0) A) (g : GA B A) : sxh_prepare L ∧ HC (fxh_prepare L) H o ∧ RC (fxh_prepare L (2 + (o + H.length) % 5)) A ∧ (∀ k, k < 2 → fxh_prepare L k = L k) ∧ fxh_prepare L 7 = L 7 := by
  obtain ⟨j1, j2⟩ := hc_jn h
  obtain ⟨h1, h2, h3, h4, h5, h6⟩ := h
  have w := rie_wi g.1
  have hs := h6 ((o + H.length) % 5) (by omega)
  have ep : fxh_prepare L = va_up L (2 + (o + H.length) % 5) (fx1_copyFrom (L 0) (L (2 + (o + H.length) % 5))) := by
    unfold fxh_prepare fx0_prepare
    rw [j1]
  have hlt : (o + H.length) % 5 < 5 := Nat.mod_lt _ (by decide)
  have e7 : fxh_prepare L 7 = L 7 := by rw [ep]; exact va_up_ne _ _ (by omega)
  have rc := rc_copy (S := L (2 + (o + H.length) % 5)) hr g.2 hs.1 hs.2
  have es : fxh_prepare L (2 + (o + H.length) % 5) = fx1_copyFrom (L 0) (L (2 + (o + H.length) % 5)) := by rw [ep]; exact va_up_self _ _ _
  have en : ∀ k, k ≠ 2 + (o + H.length) % 5 → fxh_prepare L k = L k := fun k hk => by rw [ep]; exact va_up_ne _ _ hk
  refine ⟨?_, ⟨h1, h2, by rw [e7]; exact h3, by rw [e7]; exact h4, fun j A' hj => ?_, fun j hj => ?_⟩, by rw [es]; exact rc, fun k hk => en k (by omega), e7⟩
  · unfold sxh_prepare
    rw [j1]
    exact ⟨j2, copy_ok hr w⟩
  · have hj2 : j < H.length := by
      have := List.getElem?_eq_some_iff.mp hj
      exact this.1
    have := mod5 (o := o) h2 hj2
    rw [en _ (by omega)]
    exact h5 j A' hj
  · by_cases q : j = (o + H.length) % 5
    · rw [q, es]
      exact ⟨copy_67.1.trans hs.1, copy_67.2.trans hs.2⟩
    · rw [en _ (by omega)]
      exact h6 j hj
theorem hput_n (L : Nat → St) (O : Int32 × Int32) {k : Nat} (h : k ≠ 7) : hput L O k = L k := va_up_ne _ _ h
theorem hput_7 (L : Nat → St) (O : Int32 × Int32) : hput L O 7 1 0 = O.1 ∧ hput L O 7 1 1 = O.2 ∧ hput L O 7 1 2 = L 7 1 2 ∧ hput L O 7 0 = L 7 0 := ⟨rfl, rfl, rfl, rfl⟩
theorem hc_keep (h : HC L H o) (hr : RC (L (2 + (o + H.length) % 5)) A) : ∃ o', HC (hput L (fx0_keepPrepared (L 7 1 0, L 7 1 1))) (kPush H A) o' := by
  obtain ⟨h1, h2, h3, h4, h5, h6⟩ := h
  unfold kPush fx0_keepPrepared
  rw [h3, h4]
  dsimp only
  by_cases q : H.length = 4
  · rw [if_pos q, q, if_pos (show (4 : Int32) ≤ nI 4 by decide), keep_e o h1]
    rw [q] at hr
    have hl : (H.drop 1 ++ [A]).length = 4 := by rw [List.length_append, List.length_drop, q]; rfl
    refine ⟨(o + 1) % 5, Nat.mod_lt _ (by decide), by omega, rfl, by rw [hl]; rfl, fun j A' hj => ?_, fun j hj => ?_⟩
    · rw [hput_n _ _ (by omega)]
      by_cases q2 : j < 3
      · rw [List.getElem?_append_left (by rw [List.length_drop, q]; omega), List.getElem?_drop] at hj
        have := h5 _ A' hj
        rw [show ((o + 1) % 5 + j) % 5 = (o + (1 + j)) % 5 by omega]
        exact this
      · rw [List.getElem?_append_right (by rw [List.length_drop, q]; omega), List.length_drop, q] at hj
        have hj3 : j - (4 - 1) < 1 := (List.getElem?_eq_some_iff.mp hj).1
        rw [show j - (4 - 1) = 0 by omega] at hj
        cases hj
        rw [show ((o + 1) % 5 + j) % 5 = (o + 4) % 5 by omega]
        exact hr
    · rw [hput_n _ _ (by omega)]
      exact h6 j hj
  · have q4 : ¬ (4 : Int32) ≤ nI H.length := nI_ge (a := H.length) (b := 4) (by omega) (by decide)
    rw [if_neg q, if_neg q4, nI_1]
    have hl : (H ++ [A]).length = H.length + 1 := by rw [List.length_append]; rfl
    refine ⟨o, h1, by omega, rfl, by rw [hl]; rfl, fun j A' hj => ?_, fun j hj => ?_⟩
    · rw [hput_n _ _ (by omega)]
      by_cases q2 : j < H.length
      · rw [List.getElem?_append_left q2] at hj
        exact h5 j A' hj
      · rw [List.getElem?_append_right (by omega)] at hj
        have hj3 : j - H.length < 1 := (List.getElem?_eq_some_iff.mp hj).1
        rw [show j - H.length = 0 by omega] at hj
        cases hj
        rw [show j = H.length by omega]
        exact hr
    · rw [hput_n _ _ (by omega)]
      exact h6 j hj
/-- a state is saved -/
theorem hc_save (h : HC L H o) (hr : RC (L 0) A) (g : GA B A) : sxh_save L ∧ (∃ o', HC (fxh_save L) (kPush H A) o') ∧ fxh_save L 0 = L 0 ∧ fxh_save L 7 1 2 = L 7 1 2 ∧ fxh_save L 7 0 = L 7 0 := by
  obtain ⟨a1, a2, a3, a4, a5⟩ := hc_prep h hr g
  obtain ⟨o', b⟩ := hc_keep a2 a3
  have es : fxh_save L = hput (fxh_prepare L) (fx0_keepPrepared (fxh_prepare L 7 1 0, fxh_prepare L 7 1 1)) := rfl
  refine ⟨a1, ⟨o', by rw [es]; exact b⟩, ?_, ?_, ?_⟩
  · rw [es, hput_n _ _ (by decide)]
    exact a4 0 (by decide)
  · rw [es, (hput_7 _ _).2.2.1, a5]
  · rw [es, (hput_7 _ _).2.2.2, a5]
theorem hc_back (h : HC L H o) (hr : RC (L (2 + (o + H.length) % 5)) A) (g : GA B A) (z6 : L 0 3 6 = -1) (z7 : L 0 3 7 = 0) : sxh_bringBackPrepared L ∧ RC (fxh_bringBackPrepared L 0) A ∧ ∀ k, k ≠ 0 → fxh_bringBackPrepared L k = L k := by
  obtain ⟨j1, j2⟩ := hc_jn h
  have e : fxh_bringBackPrepared L = va_up L 0 (fx1_copyFrom (L (2 + (o + H.length) % 5)) (L 0)) := by
    unfold fxh_bringBackPrepared fx0_bringBackPrepared
    rw [j1]
  refine ⟨?_, ?_, fun k hk => by rw [e]; exact va_up_ne _ _ hk⟩
  · unfold sxh_bringBackPrepared
    rw [j1]
    exact ⟨j2, copy_ok hr (rie_wi g.1)⟩
  · rw [e, va_up_self]
    exact rc_copy hr g.2 z6 z7
theorem hc_last (h : HC L (H ++ [A]) o) (g : GA B A) (z6 : L 0 3 6 = -1) (z7 : L 0 3 7 = 0) : sxh_bringBackLatest L ∧ RC (fxh_bringBackLatest L 0) A ∧ HC (fxh_bringBackLatest L) H o ∧ fxh_bringBackLatest L 7 1 2 = L 7 1 2 ∧ fxh_bringBackLatest L 7 0 = L 7 0 := by
  obtain ⟨h1, h2, h3, h4, h5, h6⟩ := h
  have hl : (H ++ [A]).length = H.length + 1 := by rw [List.length_append]; rfl
  rw [hl] at h2 h4
  have h7 := hput_7 L (L 7 1 0, L 7 1 1 - 1)
  have hn : ∀ k, k ≠ 7 → fx0_less L k = L k := fun k hk => hput_n _ _ hk
  have hc : HC (fx0_less L) H o := by
    refine ⟨h1, by omega, h7.1.trans h3, h7.2.1.trans ?_, fun j A' hj => ?_, fun j hj => ?_⟩
    · show L 7 1 1 - 1 = _
      rw [h4, nI_pred]
    · have hj2 : j < H.length := (List.getElem?_eq_some_iff.mp hj).1
      rw [hn _ (by omega)]
      exact h5 j A' (by rw [List.getElem?_append_left hj2]; exact hj)
    · rw [hn _ (by omega)]
      exact h6 j hj
  have hr : RC (fx0_less L (2 + (o + H.length) % 5)) A := by
    rw [hn _ (by omega)]
    exact h5 H.length A (by rw [List.getElem?_append_right (Nat.le_refl _), Nat.sub_self]; rfl)
  obtain ⟨b1, b2, b3⟩ := hc_back hc hr g (by rw [hn 0 (by decide)]; exact z6) (by rw [hn 0 (by decide)]; exact z7)
  have e : fxh_bringBackLatest L = fxh_bringBackPrepared (fx0_less L) := rfl
  rw [e]
  refine ⟨⟨?_, b1⟩, b2, ?_, ?_, ?_⟩
  · rw [h4]
    exact nI_nle (by omega) (by omega)
  · refine hc_ext hc ?_ ?_ fun j hj => ?_
    · rw [b3 7 (by decide)]
    · rw [b3 7 (by decide)]
    · rw [b3 _ (by omega)]
  · rw [b3 7 (by decide)]
    exact h7.2.2.1
  · rw [b3 7 (by decide)]
    exact h7.2.2.2
end HCS
