/-! the class does what the abstract station does -/
theorem rc_t0 {S : St} {A : Ab} (h : RC S A) : kTT 4 20 (stT S 0) (A.2 0) := h.2 0 (by decide)
theorem rc_t1 {S : St} {A : Ab} (h : RC S A) : kTT 6 35 (stT S 1) (A.2 1) := h.2 1 (by decide)
theorem rc_t2 {S : St} {A : Ab} (h : RC S A) : kTT 4 200 (stT S 2) (A.2 2) := h.2 2 (by decide)
theorem rc_t3 {S : St} {A : Ab} (h : RC S A) : kTT 1 50 (stT S 3) (A.2 3) := h.2 3 (by decide)
theorem rc_t4 {S : St} {A : Ab} (h : RC S A) : kTT 1 101 (stT S 4) (A.2 4) := h.2 4 (by decide)
theorem rc_p0 {S : St} {A : Ab} (h : RC S A) {T : Tb} {l : List kRow} (hT : kTT 4 20 T l) : RC (stP S 0 T) (aT A 0 l) := rc_tab h (by decide) hT
theorem rc_p1 {S : St} {A : Ab} (h : RC S A) {T : Tb} {l : List kRow} (hT : kTT 6 35 T l) : RC (stP S 1 T) (aT A 1 l) := rc_tab h (by decide) hT
theorem rc_p2 {S : St} {A : Ab} (h : RC S A) {T : Tb} {l : List kRow} (hT : kTT 4 200 T l) : RC (stP S 2 T) (aT A 2 l) := rc_tab h (by decide) hT
theorem rc_p3 {S : St} {A : Ab} (h : RC S A) {T : Tb} {l : List kRow} (hT : kTT 1 50 T l) : RC (stP S 3 T) (aT A 3 l) := rc_tab h (by decide) hT
theorem rc_p4 {S : St} {A : Ab} (h : RC S A) {T : Tb} {l : List kRow} (hT : kTT 1 101 T l) : RC (stP S 4 T) (aT A 4 l) := rc_tab h (by decide) hT
theorem rc_tick {S : St} {A : Ab} (h : RC S A) : S 3 0 = A.1 14 := rc_s3g h (a := 0) (by decide)
theorem rc_run {S : St} {A : Ab} (h : RC S A) : S 3 1 = A.1 15 := rc_s3g h (a := 1) (by decide)
theorem rc_alarm {S : St} {A : Ab} (h : RC S A) : S 3 2 = A.1 16 := rc_s3g h (a := 2) (by decide)
theorem rc_jam {S : St} {A : Ab} (h : RC S A) : S 3 3 = A.1 13 := rc_s3g h (a := 3) (by decide)
theorem rc_rej {S : St} {A : Ab} (h : RC S A) : S 3 4 = A.1 12 := rc_s3g h (a := 4) (by decide)
theorem rc_div {S : St} {A : Ab} (h : RC S A) : S 3 5 = A.1 35 := rc_s3g h (a := 5) (by decide)
theorem rc_wat {S : St} {A : Ab} (h : RC S A) : S 3 6 = A.1 1202 := rc_s3g h (a := 6) (by decide)
theorem rc_out {S : St} {A : Ab} (h : RC S A) : S 3 7 = A.1 1201 := rc_s3g h (a := 7) (by decide)
theorem rc_ext {S : St} {A B : Ab} (h : RC S A) (e1 : ∀ i, kSc i → B.1 i = A.1 i) (e2 : ∀ k, k < 5 → B.2 k = A.2 k) : RC S B := ⟨fun i hi => by rw [e1 i hi]; exact h.1 i hi, fun k hk => by rw [e2 k hk]; exact h.2 k hk⟩
theorem getD_mem {l : List kRow} {k : Nat} (h : k < l.length) : l.getD k kz ∈ l := by
  rw [List.getD_eq_getElem?_getD, List.getElem?_eq_getElem h]
  exact List.getElem_mem h
section CLS
variable {S : St} {A : Ab}
theorem c_itemAt_L (h : RC S A) (x w : Int32) : ∀ (l2 : List kRow) (i k : Nat) (b : Int32) (a : Option Nat), (A.2 0).drop i = l2 → i ≤ (A.2 0).length → l2.length < k → sx1_itemAt_L20 S k x w (opI a) b (nI i) ∧ fx1_itemAt_L20 S k x w (opI a) b (nI i) = opI (knr pAny w l2 i b a) := by
  have h0 := rc_t0 h
  have hl := h0.2.1
  intro l2
  induction l2 with
  | nil =>
    intro i k b a e hi hk
    have := kdropn e
    cases k with
    | zero => omega
    | succ k =>
      simp only [fx1_itemAt_L20, sx1_itemAt_L20, knr]
      rw [g2_count h0, if_pos (nI_le (by omega) (by omega)), if_pos (nI_le (by omega) (by omega))]
      exact ⟨trivial, rfl⟩
  | cons r t ih =>
    intro i k b a e hi hk
    obtain ⟨h1, h2, h3⟩ := kdrop e
    cases k with
    | zero => omega
    | succ k =>
      simp only [List.length_cons] at hk
      simp only [fx1_itemAt_L20, sx1_itemAt_L20, knr, bnd]
      rw [g2_count h0, if_neg (nI_ge (by omega) (by omega)), if_neg (nI_ge (by omega) (by omega)), g2_get kTab0 h0 h1 (x := 1) (c := 1) rfl (by decide), h2, nI_1, if_pos (show pAny r = true from rfl)]
      show (if b ≤ kabs (r 1 - w) then _ else _) ∧ (if b ≤ kabs (r 1 - w) then _ else _) = _
      by_cases q : b ≤ kabs (r 1 - w)
      · rw [if_pos q, if_pos q, if_pos q]
        exact ih (i + 1) k b a h3 (by omega) (by omega)
      · rw [if_neg q, if_neg q, if_neg q]
        exact ih (i + 1) k _ (some i) h3 (by omega) (by omega)
theorem c_itemAt (h : RC S A) {x : Int32} {i : Nat} (hx : x = nI i) (hi : i < 5) : sx1_itemAt S x ∧ fx1_itemAt S x = opI (aItemAt A (7 + i)) := by
  have hl := (rc_t0 h).2.1
  unfold sx1_itemAt fx1_itemAt aItemAt
  rw [rc_placeg h hx hi, rc_setg h (x := 5) (i := 5) rfl (by decide)]
  exact c_itemAt_L h x _ _ 0 kfu _ none rfl (Nat.zero_le _) (by unfold kfu; omega)
theorem c_recFor_L (h : RC S A) (w : Int32) : ∀ (l2 : List kRow) (i k : Nat) (b : Int32) (a : Option Nat), (A.2 1).drop i = l2 → i ≤ (A.2 1).length → l2.length < k → sx1_recordForExit_L19 S k w (opI a) b (nI i) ∧ fx1_recordForExit_L19 S k w (opI a) b (nI i) = opI (knr pOpen w l2 i b a) := by
  have h0 := rc_t1 h
  have hl := h0.2.1
  intro l2
  induction l2 with
  | nil =>
    intro i k b a e hi hk
    have := kdropn e
    cases k with
    | zero => omega
    | succ k =>
      simp only [fx1_recordForExit_L19, sx1_recordForExit_L19, knr]
      rw [g2_count h0, if_pos (nI_le (by omega) (by omega)), if_pos (nI_le (by omega) (by omega))]
      exact ⟨trivial, rfl⟩
  | cons r t ih =>
    intro i k b a e hi hk
    obtain ⟨h1, h2, h3⟩ := kdrop e
    cases k with
    | zero => omega
    | succ k =>
      simp only [List.length_cons] at hk
      simp only [fx1_recordForExit_L19, sx1_recordForExit_L19, knr, bnd]
      rw [g2_count h0, if_neg (nI_ge (by omega) (by omega)), if_neg (nI_ge (by omega) (by omega)), g2_get kTab1 h0 h1 (x := 1) (c := 1) rfl (by decide), g2_get kTab1 h0 h1 (x := 4) (c := 4) rfl (by decide), g2_get kTab1 h0 h1 (x := 5) (c := 5) rfl (by decide), h2, nI_1]
      have e1 : pOpen r = true ↔ r 4 = 1 ∧ r 5 = 0 := decide_eq_true_iff
      by_cases q4 : r 4 = 1
      · by_cases q5 : r 5 = 0
        · rw [if_pos q4, if_pos q4, if_pos q5, if_pos q5, if_pos (e1.mpr ⟨q4, q5⟩)]
          show (if b ≤ kabs (r 1 - w) then _ else _) ∧ (if b ≤ kabs (r 1 - w) then _ else _) = _
          by_cases q : b ≤ kabs (r 1 - w)
          · rw [if_pos q, if_pos q, if_pos q]
            exact ih (i + 1) k b a h3 (by omega) (by omega)
          · rw [if_neg q, if_neg q, if_neg q]
            exact ih (i + 1) k _ (some i) h3 (by omega) (by omega)
        · rw [if_pos q4, if_pos q4, if_neg q5, if_neg q5, if_neg fun z => q5 (e1.mp z).2]
          exact ih (i + 1) k b a h3 (by omega) (by omega)
      · rw [if_neg q4, if_neg q4, if_neg fun z => q4 (e1.mp z).1]
        exact ih (i + 1) k b a h3 (by omega) (by omega)
theorem c_recFor (h : RC S A) : sx1_recordForExit S ∧ fx1_recordForExit S = opI (aRecFor A) := by
  have hl := (rc_t1 h).2.1
  unfold sx1_recordForExit fx1_recordForExit aRecFor
  rw [rc_placeg h (x := 4) (i := 4) rfl (by decide), rc_setg h (x := 5) (i := 5) rfl (by decide)]
  exact c_recFor_L h _ _ 0 kfu _ none rfl (Nat.zero_le _) (by unfold kfu; omega)
theorem c_raise (h : RC S A) {x : Int32} {k : Nat} (hx : x = nI k) (hk : k < 5) (hi : A.1 16 ≠ 0 → A.1 15 = 0) : RC (fx1_raise S x) (aAlarm A k) := by
  subst hx
  have h1 : RC (fx1_count S (13 + nI k)) (aCount A (13 + k)) := rc_count h (nI_add 13 k) (by omega)
  have e1 : (aCount A (13 + k)).1 16 = A.1 16 := upd_ne _ _ (by omega)
  have e2 : (aCount A (13 + k)).1 15 = A.1 15 := upd_ne _ _ (by omega)
  unfold fx1_raise aAlarm
  simp only [bnd]
  rw [rc_alarm h1, e1]
  by_cases q : A.1 16 = 0
  · rw [if_pos q, if_pos q]
    exact rc_s3 (rc_s3 h1 (a := 2) (by decide) _) (a := 1) (by decide) _
  · rw [if_neg q, if_neg q]
    refine rc_ext h1 (fun i _ => ?_) (fun _ _ => rfl)
    show (if i = 15 then 0 else (aCount A (13 + k)).1 i) = _
    by_cases q2 : i = 15
    · rw [if_pos q2, q2, e2, hi q]
    · rw [if_neg q2]
def okR (r : kRow) : Prop := (r 2 = 0 ∨ r 2 = 1 ∨ r 2 = 2 ∨ r 2 = 3) ∧ (r 3 = 0 ∨ r 3 = 1) ∧ (r 4 = 0 ∨ r 4 = 1) ∧ (r 5 = 0 ∨ r 5 = 1)
def okI (r : kRow) : Prop := (r 2 = 0 ∨ r 2 = 1 ∨ r 2 = 2 ∨ r 2 = 3) ∧ (r 3 = 0 ∨ r 3 = 1)
def okV (r : kRow) : Prop := (r 2 = 0 ∨ r 2 = 1) ∧ (r 3 = 1 ∨ r 3 = 2 ∨ r 3 = 3)
theorem c_deliver (h : RC S A) {r : Nat} (hr : r < (A.2 2).length) (hR : ∀ z ∈ A.2 1, okR z) (hV : okV ((A.2 2).getD r kz)) : sx1_deliver S (nI r) ∧ RC (fx1_deliver S (nI r)) (aTells A ((A.2 2).getD r kz 1) ((A.2 2).getD r kz 2) ((A.2 2).getD r kz 3)) := by
  have h1 := rc_t1 h
  have h2 := rc_t2 h
  obtain ⟨a1, a2⟩ := g2_find kTab1 h1 ((A.2 2).getD r kz 1)
  rw [kff_find] at a2
  unfold sx1_deliver fx1_deliver aTells
  simp only [bnd]
  rw [g2_get kTab2 h2 hr (x := 1) (c := 1) rfl (by decide), g2_get kTab2 h2 hr (x := 2) (c := 2) rfl (by decide), g2_get kTab2 h2 hr (x := 3) (c := 3) rfl (by decide)]
  refine ⟨a1, ?_⟩
  rw [a2]
  generalize (A.2 2).getD r kz = v at hV ⊢
  cases e : kfind (A.2 1) 0 (v 1) with
  | none =>
    rw [show opI none = -1 from rfl, if_pos rfl]
    exact rc_count h (x := 4) (i := 4) rfl (by decide)
  | some k =>
    have hk := (kfind_0 e).1
    have hl := h1.2.1
    show RC _ (if kRec A k 4 = 1 then _ else _)
    rw [show opI (some k) = nI k from rfl, if_neg (nI_ne (by omega)), g2_get kTab1 h1 hk (x := 4) (c := 4) rfl (by decide), g2_get kTab1 h1 hk (x := 2) (c := 2) rfl (by decide)]
    have ok := hR _ (getD_mem hk)
    have hp : ∀ u : Int32, RC (stP S 1 (fx2_put 6 35 210 (stT S 1) (nI k) 2 u)) (aPutR A 1 k 2 u) := fun u => rc_p1 h (g2_put kTab1 h1 hk (x := 2) (c := 2) rfl (by decide) u)
    unfold kRec
    generalize (A.2 1).getD k kz = z at ok ⊢
    obtain ⟨o2, o3, o4, o5⟩ := ok
    obtain ⟨v2, v3⟩ := hV
    by_cases q4 : z 4 = 1
    · rw [if_pos q4, if_pos q4]
      exact rc_count h (x := 4) (i := 4) rfl (by decide)
    · rw [if_neg q4, if_neg q4]
      by_cases qv : v 2 = 0
      · rw [if_pos qv, if_pos qv]
        by_cases q2 : z 2 = 0
        · rw [if_pos q2, if_pos q2]; exact hp _
        · rw [if_neg q2, if_neg q2]; exact h
      · rw [if_neg qv, if_neg qv]
        rcases o2 with q | q | q | q <;> rcases v3 with w | w | w <;> rw [q, w]
        · exact hp 1
        · exact hp 2
        · exact hp 2
        · exact h
        · exact h
        · exact h
        · exact h
        · exact h
        · exact h
        · exact hp 1
        · exact hp 2
        · exact hp 2
end CLS
