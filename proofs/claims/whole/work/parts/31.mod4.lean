/-! the model does what the abstract station does: a pulse, a tick -/
section MOD5
variable {g : Nat → Int32} {A : Ab}
theorem m_acts (h : RM g A) (w : WI A) {r : Nat} (hr : r < (A.2 1).length) (ok : okAct A r) : sx4_acts g (nI r) ∧ (fx4_acts g (nI r)).1 = (if (aAct A r).1 = true then 1 else 0) ∧ RM (fx4_acts g (nI r)).2 (aAct A r).2 := by
  have hl := len1 h
  have p1 : vp_in (fx4_entry (nI r) 1) 1203 := p_en (by omega) (c := 1) rfl (by decide)
  have p5 : vp_in (fx4_entry (nI r) 5) 1203 := p_en (by omega) (c := 5) rfl (by decide)
  unfold sx4_acts fx4_acts aAct
  unfold bnd
  rw [g_en h hr (x := 1) (c := 1) rfl (by decide), g_en h hr (x := 5) (c := 5) rfl (by decide), rm_g h (i := 7) (Or.inl (by decide)), rm_g h (i := 8) (Or.inl (by decide)), rm_g h (i := 9) (Or.inl (by decide)), rm_g h (i := 10) (Or.inl (by decide)), rm_g h (i := 11) (Or.inl (by decide)), rm_g h (i := 5) (Or.inl (by decide))]
  by_cases q7 : kRec A r 1 = A.1 7
  · rw [if_pos q7, if_pos q7, if_pos q7]
    obtain ⟨a1, a2⟩ := m_labels h w hr
    exact ⟨⟨p1, a1⟩, rfl, by dsimp only; exact a2⟩
  rw [if_neg q7, if_neg q7, if_neg q7]
  by_cases q8 : kRec A r 1 = A.1 8
  · rw [if_pos q8, if_pos q8, if_pos q8]
    obtain ⟨a1, a2⟩ := m_look0 h w hr (ok.1 q8)
    exact ⟨⟨p1, a1⟩, rfl, by dsimp only; exact a2⟩
  rw [if_neg q8, if_neg q8, if_neg q8]
  by_cases q9 : kRec A r 1 = A.1 9
  · rw [if_pos q9, if_pos q9, if_pos q9]
    obtain ⟨a1, a2⟩ := m_look1 h w hr (fun _ => ok.2.1 q9)
    exact ⟨⟨p1, a1⟩, rfl, by dsimp only; exact a2⟩
  rw [if_neg q9, if_neg q9, if_neg q9]
  by_cases q10 : kRec A r 1 = A.1 10
  · rw [if_pos q10, if_pos q10, if_pos q10]
    obtain ⟨o1, o2⟩ := ok.2.2 q10
    obtain ⟨a1, a2, a3⟩ := m_gates h w hr (by omega) (by omega)
    refine ⟨⟨p1, a1, ?_⟩, a2, a3⟩
    show kbo (fx4_gates g (nI r)).1
    rw [a2]
    split
    · exact Or.inr rfl
    · exact Or.inl rfl
  rw [if_neg q10, if_neg q10, if_neg q10]
  by_cases q11 : kRec A r 1 ≤ A.1 11 + A.1 5
  · rw [if_pos q11, if_pos q11, if_pos q11]
    exact ⟨⟨p1, trivial⟩, rfl, by dsimp only; exact h⟩
  rw [if_neg q11, if_neg q11, if_neg q11]
  by_cases q5 : kRec A r 5 = 1
  · rw [if_pos q5, if_pos q5]
    obtain ⟨a1, a2⟩ := m_leaves h hr (x := 1) (how := 1) rfl (by decide)
    refine ⟨⟨p1, p5, a1⟩, rfl, ?_⟩
    dsimp only
    rw [if_pos q5]
    exact a2
  · rw [if_neg q5, if_neg q5]
    obtain ⟨a1, a2⟩ := m_leaves h hr (x := 3) (how := 3) rfl (by decide)
    refine ⟨⟨p1, p5, a1⟩, rfl, ?_⟩
    dsimp only
    rw [if_neg q5]
    exact a2
theorem m_ex_L (h : RM g A) : ∀ (l2 : List kRow) (i k : Nat) (b : Int32) (a : Option Nat), (A.2 1).drop i = l2 → i ≤ (A.2 1).length → l2.length < k → (∀ j, a = some j → j < (A.2 1).length) → sx4_exits_L19 k (opI a) b (nI i) g ∧ RM (fx4_exits_L19 k (opI a) b (nI i) g) (match knr pOpen (A.1 11) l2 i b a with | none => aAlarm (aCount A 9) 4 | some r => aPutR A 1 r 5 1) := by
  have hl := len1 h
  intro l2
  induction l2 with
  | nil =>
    intro i k b a e hi hk ha
    have := kdropn e
    cases k with
    | zero => omega
    | succ k =>
      simp only [fx4_exits_L19, sx4_exits_L19, knr, bnd]
      rw [cnt1 h, if_pos (nI_le (by omega) (by omega)), if_pos (nI_le (by omega) (by omega))]
      cases a with
      | none =>
        rw [show opI none = -1 from rfl, if_pos rfl, if_pos rfl]
        obtain ⟨b1, b2⟩ := m_count h (x := 9) (i := 9) rfl (by decide)
        obtain ⟨c1, c2⟩ := m_alarm b2 (x := 4) (k := 4) rfl (by decide)
        exact ⟨⟨b1, c1⟩, c2⟩
      | some j =>
        have hj := ha j rfl
        rw [show opI (some j) = nI j from rfl, if_neg (nI_ne (by omega)), if_neg (nI_ne (by omega))]
        exact ⟨p_en (by omega) (c := 5) rfl (by decide), s_en h hj (x := 5) (c := 5) rfl (by decide) 1⟩
  | cons r t ih =>
    intro i k b a e hi hk ha
    obtain ⟨h1, h2, h3⟩ := kdrop e
    cases k with
    | zero => omega
    | succ k =>
      simp only [List.length_cons] at hk
      simp only [fx4_exits_L19, sx4_exits_L19, knr]
      rw [cnt1 h, if_neg (nI_ge (by omega) (by omega)), if_neg (nI_ge (by omega) (by omega)), g_en h h1 (x := 1) (c := 1) rfl (by decide), g_en h h1 (x := 4) (c := 4) rfl (by decide), g_en h h1 (x := 5) (c := 5) rfl (by decide), rm_g h (i := 11) (Or.inl (by decide)), nI_1]
      have ev : kRec A i = r := by unfold kRec; rw [h2]
      have p1 : vp_in (fx4_entry (nI i) 1) 1203 := p_en (by omega) (c := 1) rfl (by decide)
      have p4 : vp_in (fx4_entry (nI i) 4) 1203 := p_en (by omega) (c := 4) rfl (by decide)
      have p5 : vp_in (fx4_entry (nI i) 5) 1203 := p_en (by omega) (c := 5) rfl (by decide)
      have e1 : pOpen r = true ↔ r 4 = 1 ∧ r 5 = 0 := decide_eq_true_iff
      obtain ⟨n1, n2⟩ := ih (i + 1) k b a h3 (by omega) (by omega) ha
      have sm := fun u => ih (i + 1) k u (some i) h3 (by omega) (by omega) (fun j hj => by cases hj; exact h1)
      rw [ev]
      by_cases q0 : 0 ≤ r 1 - A.1 11
      · rw [if_pos q0, if_pos q0, kabs_p q0]
        by_cases q4 : r 4 = 1
        · rw [if_pos q4, if_pos q4]
          by_cases q5 : r 5 = 0
          · rw [if_pos q5, if_pos q5, if_pos (e1.mpr ⟨q4, q5⟩)]
            by_cases q : b ≤ r 1 - A.1 11
            · rw [if_pos q, if_pos q, if_pos q]
              exact ⟨⟨p1, p4, p5, n1⟩, n2⟩
            · rw [if_neg q, if_neg q, if_neg q]
              exact ⟨⟨p1, p4, p5, (sm _).1⟩, (sm _).2⟩
          · rw [if_neg q5, if_neg q5, if_neg fun z => q5 (e1.mp z).2]
            exact ⟨⟨p1, p4, p5, n1⟩, n2⟩
        · rw [if_neg q4, if_neg q4, if_neg fun z => q4 (e1.mp z).1]
          exact ⟨⟨p1, p4, n1⟩, n2⟩
      · rw [if_neg q0, if_neg q0, kabs_n q0]
        by_cases q4 : r 4 = 1
        · rw [if_pos q4, if_pos q4]
          by_cases q5 : r 5 = 0
          · rw [if_pos q5, if_pos q5, if_pos (e1.mpr ⟨q4, q5⟩)]
            by_cases q : b ≤ -(r 1 - A.1 11)
            · rw [if_pos q, if_pos q, if_pos q]
              exact ⟨⟨p1, p4, p5, n1⟩, n2⟩
            · rw [if_neg q, if_neg q, if_neg q]
              exact ⟨⟨p1, p4, p5, (sm _).1⟩, (sm _).2⟩
          · rw [if_neg q5, if_neg q5, if_neg fun z => q5 (e1.mp z).2]
            exact ⟨⟨p1, p4, p5, n1⟩, n2⟩
        · rw [if_neg q4, if_neg q4, if_neg fun z => q4 (e1.mp z).1]
          exact ⟨⟨p1, p4, n1⟩, n2⟩
theorem m_exits (h : RM g A) : sx4_exits g ∧ RM (fx4_exits g) (aExit1 (aCount A 8)) := by
  obtain ⟨b1, b2⟩ := m_count h (x := 8) (i := 8) rfl (by decide)
  have hl := len1 b2
  unfold sx4_exits fx4_exits
  simp only [bnd]
  generalize fx4_counts g 8 = g1 at b2 ⊢
  rw [rm_g b2 (i := 5) (Or.inl (by decide))]
  obtain ⟨a1, a2⟩ := m_ex_L b2 ((aCount A 8).2 1) 0 kfu ((aCount A 8).1 5 + 1) none (List.drop_zero ..) (Nat.zero_le _) (by unfold kfu; omega) (fun j hj => by cases hj)
  exact ⟨⟨b1, a1⟩, a2⟩
theorem m_items (y1 : Int32) : ∀ (m i k : Nat) (g : Nat → Int32) (A : Ab), RM g A → i + m = (A.2 0).length → m < k → sx4_pulses_L100 k y1 (nI i) g ∧ RM (fx4_pulses_L100 k y1 (nI i) g) (aItems m i A) := by
  intro m
  induction m with
  | zero =>
    intro i k g A h hi hk
    have hl := len0 h
    cases k with
    | zero => omega
    | succ k =>
      simp only [fx4_pulses_L100, sx4_pulses_L100, aItems]
      rw [cnt0 h, if_pos (nI_le (by omega) (by omega)), if_pos (nI_le (by omega) (by omega))]
      exact ⟨trivial, h⟩
  | succ m ih =>
    intro i k g A h hi hk
    have hl := len0 h
    cases k with
    | zero => omega
    | succ k =>
      simp only [fx4_pulses_L100, sx4_pulses_L100, aItems, bnd]
      rw [cnt0 h, if_neg (nI_ge (by omega) (by omega)), if_neg (nI_ge (by omega) (by omega)), g_th h (r := i) (by omega) (x := 1) (c := 1) rfl (by decide), rm_g h (i := 11) (Or.inl (by decide)), nI_1]
      have p1 : vp_in (fx4_thing (nI i) 1) 1203 := p_th (by omega) (c := 1) rfl (by decide)
      by_cases q : kItm A i 1 = A.1 11
      · rw [if_pos q, if_pos q, if_pos q]
        obtain ⟨a1, a2⟩ := rm_rem0 h (r := i) (by omega)
        obtain ⟨b1, b2⟩ := m_exits a2
        obtain ⟨f1, f2⟩ := ih i k _ (aExit A i) b2 (by rw [exit_0, List.length_eraseIdx, if_pos (by omega)]; omega) (by omega)
        exact ⟨⟨p1, a1, b1, f1⟩, f2⟩
      · rw [if_neg q, if_neg q, if_neg q]
        obtain ⟨f1, f2⟩ := ih (i + 1) k g A h (by omega) (by omega)
        exact ⟨⟨p1, f1⟩, f2⟩
theorem m_recs : ∀ (m i k : Nat) (g : Nat → Int32) (A : Ab), RM g A → WI A → i + m = (A.2 1).length → m < k → okRecs m i A → sx4_pulses_L68 k (nI i) g ∧ RM (fx4_pulses_L68 k (nI i) g) (aItems ((aRecs m i A).2 0).length 0 (aRecs m i A)) := by
  intro m
  induction m with
  | zero =>
    intro i k g A h w hi hk ok
    have hl := len0 h
    have hl1 := len1 h
    cases k with
    | zero => omega
    | succ k =>
      simp only [fx4_pulses_L68, sx4_pulses_L68, aRecs]
      rw [cnt1 h, if_pos (nI_le (by omega) (by omega)), if_pos (nI_le (by omega) (by omega))]
      exact m_items (nI i) (A.2 0).length 0 kfu g A h (by omega) (by unfold kfu; omega)
  | succ m ih =>
    intro i k g A h w hi hk ok
    have hl1 := len1 h
    cases k with
    | zero => omega
    | succ k =>
      obtain ⟨ok1, ok2⟩ := ok
      obtain ⟨a1, a2, a3⟩ := m_acts h w (r := i) (by omega) ok1
      have el := act_len (A := A) (r := i) (by omega)
      simp only [fx4_pulses_L68, sx4_pulses_L68, aRecs, bnd]
      rw [cnt1 h, if_neg (nI_ge (by omega) (by omega)), if_neg (nI_ge (by omega) (by omega)), a2, nI_1, Int32.add_zero]
      by_cases q : (aAct A i).1 = true
      · rw [if_pos q] at ok2 el
        rw [if_pos q, if_neg (show ¬ (1 : Int32) = 0 by decide), if_neg (show ¬ (1 : Int32) = 0 by decide), if_pos q]
        obtain ⟨b1, b2⟩ := ih (i + 1) k _ _ a3 (st_act.1 w) (by omega) (by omega) ok2
        exact ⟨⟨a1, b1⟩, b2⟩
      · rw [if_neg q] at ok2 el
        rw [if_neg q, if_pos (show (0 : Int32) = 0 from rfl), if_pos (show (0 : Int32) = 0 from rfl), if_neg q]
        obtain ⟨b1, b2⟩ := ih i k _ _ a3 (st_act.1 w) (by omega) (by omega) ok2
        exact ⟨⟨a1, b1⟩, b2⟩
theorem m_incR {l : List kRow} : ∀ (d i k : Nat) (g : Nat → Int32) (A : Ab), RM g (aT A 1 ((l.take i).map kinc ++ l.drop i)) → i + d = l.length → d < k → WI (aT A 1 (l.map kinc)) → okRecs l.length 0 (aT A 1 (l.map kinc)) → sx4_pulses_L35 k (nI i) g ∧ RM (fx4_pulses_L35 k (nI i) g) (aItems ((aRecs l.length 0 (aT A 1 (l.map kinc))).2 0).length 0 (aRecs l.length 0 (aT A 1 (l.map kinc)))) := by
  intro d
  induction d with
  | zero =>
    intro i k g A h hi hk w ok
    have e1 : l.take i = l := List.take_of_length_le (by omega)
    have e2 : l.drop i = [] := List.drop_eq_nil_of_le (by omega)
    rw [e1, e2, List.append_nil] at h
    have hl := len1 h
    rw [aT_same, List.length_map] at hl
    have e3 : g 117 = nI l.length := by rw [cnt1 h, aT_same, List.length_map]
    cases k with
    | zero => omega
    | succ k =>
      simp only [fx4_pulses_L35, sx4_pulses_L35]
      rw [e3, if_pos (nI_le (by omega) (by omega)), if_pos (nI_le (by omega) (by omega))]
      exact m_recs l.length 0 kfu g _ h w (by rw [aT_same, List.length_map]; omega) (by unfold kfu; omega) ok
  | succ d ih =>
    intro i k g A h hi hk w ok
    have e4 : ((l.take i).map kinc ++ l.drop i).length = l.length := by
      rw [List.length_append, List.length_map, List.length_take, List.length_drop]; omega
    have hl := len1 h
    rw [aT_same, e4] at hl
    have e3 : g 117 = nI l.length := by rw [cnt1 h, aT_same, e4]
    cases k with
    | zero => omega
    | succ k =>
      have hr : i < ((aT A 1 ((l.take i).map kinc ++ l.drop i)).2 1).length := by rw [aT_same, e4]; omega
      simp only [fx4_pulses_L35, sx4_pulses_L35, bnd]
      rw [e3, if_neg (nI_ge (by omega) (by omega)), if_neg (nI_ge (by omega) (by omega)), g_en h hr (x := 1) (c := 1) rfl (by decide), nI_1]
      have p1 : vp_in (fx4_entry (nI i) 1) 1203 := p_en (by omega) (c := 1) rfl (by decide)
      have z := s_en h hr (x := 1) (c := 1) rfl (by decide) (kRec (aT A 1 ((l.take i).map kinc ++ l.drop i)) i 1 + 1)
      have ez : aPutR (aT A 1 ((l.take i).map kinc ++ l.drop i)) 1 i 1 (kRec (aT A 1 ((l.take i).map kinc ++ l.drop i)) i 1 + 1) = aT A 1 ((l.take (i + 1)).map kinc ++ l.drop (i + 1)) := by
        unfold aPutR kRec
        rw [aT_same, aT_aT]
        congr 1
        exact set_map (f := kinc) (by omega)
      rw [ez] at z
      obtain ⟨f1, f2⟩ := ih (i + 1) k _ A z (by omega) (by omega) w ok
      exact ⟨⟨p1, p1, f1⟩, f2⟩
theorem m_incI {l : List kRow} : ∀ (d i k : Nat) (g : Nat → Int32) (A : Ab), RM g (aT A 0 ((l.take i).map kinc ++ l.drop i)) → i + d = l.length → d < k → WI (aT (aT A 0 (l.map kinc)) 1 ((A.2 1).map kinc)) → okRecs (A.2 1).length 0 (aT (aT A 0 (l.map kinc)) 1 ((A.2 1).map kinc)) → sx4_pulses_L2 k (nI i) g ∧ RM (fx4_pulses_L2 k (nI i) g) (aItems ((aRecs (A.2 1).length 0 (aT (aT A 0 (l.map kinc)) 1 ((A.2 1).map kinc))).2 0).length 0 (aRecs (A.2 1).length 0 (aT (aT A 0 (l.map kinc)) 1 ((A.2 1).map kinc)))) := by
  intro d
  induction d with
  | zero =>
    intro i k g A h hi hk w ok
    have e1 : l.take i = l := List.take_of_length_le (by omega)
    have e2 : l.drop i = [] := List.drop_eq_nil_of_le (by omega)
    rw [e1, e2, List.append_nil] at h
    have hl := len0 h
    rw [aT_same, List.length_map] at hl
    have hl1 := len1 h
    rw [aT_ne _ _ (by decide)] at hl1
    have e3 : g 36 = nI l.length := by rw [cnt0 h, aT_same, List.length_map]
    cases k with
    | zero => omega
    | succ k =>
      simp only [fx4_pulses_L2, sx4_pulses_L2]
      rw [e3, if_pos (nI_le (by omega) (by omega)), if_pos (nI_le (by omega) (by omega))]
      refine m_incR (l := A.2 1) (A.2 1).length 0 kfu g (aT A 0 (l.map kinc)) ?_ (by omega) (by unfold kfu; omega) w ok
      rw [List.take_zero, List.map_nil, List.nil_append, List.drop_zero]
      have e5 : A.2 1 = (aT A 0 (l.map kinc)).2 1 := (aT_ne _ _ (by decide)).symm
      rw [e5, aT_self]
      exact h
  | succ d ih =>
    intro i k g A h hi hk w ok
    have e4 : ((l.take i).map kinc ++ l.drop i).length = l.length := by
      rw [List.length_append, List.length_map, List.length_take, List.length_drop]; omega
    have hl := len0 h
    rw [aT_same, e4] at hl
    have e3 : g 36 = nI l.length := by rw [cnt0 h, aT_same, e4]
    cases k with
    | zero => omega
    | succ k =>
      have hr : i < ((aT A 0 ((l.take i).map kinc ++ l.drop i)).2 0).length := by rw [aT_same, e4]; omega
      simp only [fx4_pulses_L2, sx4_pulses_L2, bnd]
      rw [e3, if_neg (nI_ge (by omega) (by omega)), if_neg (nI_ge (by omega) (by omega)), g_th h hr (x := 1) (c := 1) rfl (by decide), nI_1]
      have p1 : vp_in (fx4_thing (nI i) 1) 1203 := p_th (by omega) (c := 1) rfl (by decide)
      have z := s_th h hr (x := 1) (c := 1) rfl (by decide) (kItm (aT A 0 ((l.take i).map kinc ++ l.drop i)) i 1 + 1)
      have ez : aPutR (aT A 0 ((l.take i).map kinc ++ l.drop i)) 0 i 1 (kItm (aT A 0 ((l.take i).map kinc ++ l.drop i)) i 1 + 1) = aT A 0 ((l.take (i + 1)).map kinc ++ l.drop (i + 1)) := by
        unfold aPutR kItm
        rw [aT_same, aT_aT]
        congr 1
        exact set_map (f := kinc) (by omega)
      rw [ez] at z
      obtain ⟨f1, f2⟩ := ih (i + 1) k _ A z (by omega) (by omega) w ok
      exact ⟨⟨p1, p1, f1⟩, f2⟩
theorem m_pulses (h : RM g A) (w : WI A) (ok : okPulse A) : sx4_pulses g ∧ RM (fx4_pulses g) (aPulse A) := by
  have hl := len0 h
  refine m_incI (l := A.2 0) (A.2 0).length 0 kfu g A ?_ (by omega) (by unfold kfu; omega) (st_inc.1 w) ok
  rw [List.take_zero, List.map_nil, List.nil_append, List.drop_zero, aT_self]
  exact h
theorem m_tick_L (sp : Nat) (hs : sp ≤ 10) : ∀ (m i k : Nat) (g : Nat → Int32) (A : Ab), RM g A → WI A → A.1 0 = nI sp → i + m = sp → m < k → okPulses m A → sx4_tickOn_L21 k (nI i) g ∧ RM (fx4_tickOn_L21 k (nI i) g) (aPulses m A) := by
  intro m
  induction m with
  | zero =>
    intro i k g A h w e0 hi hk ok
    cases k with
    | zero => omega
    | succ k =>
      simp only [fx4_tickOn_L21, sx4_tickOn_L21, aPulses]
      rw [rm_g h (i := 0) (Or.inl (by decide)), e0, if_pos (nI_le (by omega) (by omega)), if_pos (nI_le (by omega) (by omega))]
      exact ⟨trivial, h⟩
  | succ m ih =>
    intro i k g A h w e0 hi hk ok
    cases k with
    | zero => omega
    | succ k =>
      simp only [fx4_tickOn_L21, sx4_tickOn_L21, aPulses, bnd]
      simp only [okPulses] at ok
      rw [rm_g h (i := 0) (Or.inl (by decide)), e0, if_neg (nI_ge (by omega) (by omega)), if_neg (nI_ge (by omega) (by omega)), rm_g h (i := 15) (Or.inl (by decide)), nI_1]
      rcases w.2.1 with q | q
      · rw [q, if_neg (show ¬ (0 : Int32) = 1 by decide), if_neg (show ¬ (0 : Int32) = 1 by decide), if_pos (show (0 : Int32) = 0 from rfl)]
        exact ⟨trivial, h⟩
      · have q0 : ¬ A.1 15 = 0 := by rw [q]; decide
        rw [if_neg q0] at ok
        rw [q, if_pos (show (1 : Int32) = 1 from rfl), if_pos (show (1 : Int32) = 1 from rfl), if_neg (show ¬ (1 : Int32) = 0 by decide)]
        obtain ⟨a1, a2⟩ := m_pulses h w ok.1
        obtain ⟨b1, b2⟩ := ih (i + 1) k _ _ a2 (st_pulse.1 w) ((st_pulse.2 0 (by unfold kFx; omega)).trans e0) (by omega) (by omega) ok.2
        exact ⟨⟨a1, b1⟩, b2⟩
theorem m_tick (h : RM g A) (w : WI A) (hd : kDst (A.2 1)) (ok : okTick A) : sx4_tickOn g ∧ RM (fx4_tickOn g) (aTick A) := by
  have h1 : RM (upd g 14 (g 14 + 1)) (aS A 14 (A.1 14 + 1)) := by
    rw [rm_g h (i := 14) (Or.inl (by decide))]
    exact rm_set h (i := 14) (Or.inl (by decide)) _
  have w1 := wi_pre w
  obtain ⟨a1, a2⟩ := m_delivers h1 w1 hd
  obtain ⟨b1, b2⟩ := m_arrives a2
  have w4 := st_overdue.1 (st_arrive.1 ((st_deliver w1).1 w1))
  obtain ⟨o1, o2, o3⟩ := ok
  obtain ⟨e1, e2⟩ := m_tick_L ((aPre A).1 0).toNatClampNeg o3 ((aPre A).1 0).toNatClampNeg 0 kfu _ _ b2 w4 o2 (by omega) (by unfold kfu; omega) o1
  unfold sx4_tickOn fx4_tickOn
  simp only [bnd]
  exact ⟨⟨a1, b1, e1⟩, e2⟩
end MOD5
/-! the model does what the abstract station does: room and feed -/
section MOD6
variable {g : Nat → Int32} {A : Ab}
theorem kbel_1 {r : kRow} {t : List kRow} (q : r 1 < 30) : kbel (r :: t) 1 30 = 1 := if_neg (Int32.not_le.mpr q)
theorem kbel_2 {r : kRow} {t : List kRow} (q : ¬ r 1 < 30) : kbel (r :: t) 1 30 = kbel t 1 30 := if_pos (Int32.not_lt.mp q)
theorem m_barR (h : RM g A) (x : Int32) : ∀ (l2 : List kRow) (i k : Nat) (y : Int32), (A.2 1).drop i = l2 → i ≤ (A.2 1).length → l2.length < k → sx4_barFeed_L75 g k x y (nI i) ∧ fx4_barFeed_L75 g k x y (nI i) = if y = 0 then 2 else if kbel l2 1 30 = 0 then 0 else 2 := by
  have hl := len1 h
  intro l2
  induction l2 with
  | nil =>
    intro i k y e hi hk
    have := kdropn e
    cases k with
    | zero => omega
    | succ k =>
      simp only [fx4_barFeed_L75, sx4_barFeed_L75]
      rw [cnt1 h, if_pos (nI_le (by omega) (by omega)), if_pos (nI_le (by omega) (by omega))]
      exact ⟨trivial, rfl⟩
  | cons r t ih =>
    intro i k y e hi hk
    obtain ⟨h1, h2, h3⟩ := kdrop e
    cases k with
    | zero => omega
    | succ k =>
      simp only [List.length_cons] at hk
      simp only [fx4_barFeed_L75, sx4_barFeed_L75]
      rw [cnt1 h, if_neg (nI_ge (by omega) (by omega)), if_neg (nI_ge (by omega) (by omega)), g_en h h1 (x := 1) (c := 1) rfl (by decide), nI_1]
      have ev : kRec A i 1 = r 1 := by unfold kRec; rw [h2]
      have p1 : vp_in (fx4_entry (nI i) 1) 1203 := p_en (by omega) (c := 1) rfl (by decide)
      have z0 := ih (i + 1) k 0 h3 (by omega) (by omega)
      have z1 := ih (i + 1) k 1 h3 (by omega) (by omega)
      rw [if_pos (show (0 : Int32) = 0 from rfl)] at z0
      rw [if_neg (show ¬ (1 : Int32) = 0 by decide)] at z1
      rw [ev]
      by_cases q : y = 0
      · rw [if_pos q, if_pos q, if_pos q]
        exact z0
      · rw [if_neg q, if_neg q, if_neg q]
        by_cases q2 : r 1 < 30
        · rw [if_pos q2, if_pos q2, kbel_1 q2, if_neg (show ¬ (1 : Int32) = 0 by decide)]
          exact ⟨⟨p1, z0.1⟩, z0.2⟩
        · rw [if_neg q2, if_neg q2, kbel_2 q2]
          exact ⟨⟨p1, z1.1⟩, z1.2⟩
theorem m_barI (h : RM g A) (x : Int32) : ∀ (l2 : List kRow) (i k : Nat) (y : Int32), (A.2 0).drop i = l2 → i ≤ (A.2 0).length → l2.length < k → sx4_barFeed_L31 g k x y (nI i) ∧ fx4_barFeed_L31 g k x y (nI i) = if y = 0 then 2 else if kbel l2 1 30 = 0 then (if kbel (A.2 1) 1 30 = 0 then 0 else 2) else 2 := by
  have hl := len0 h
  have hl1 := len1 h
  intro l2
  induction l2 with
  | nil =>
    intro i k y e hi hk
    have := kdropn e
    cases k with
    | zero => omega
    | succ k =>
      simp only [fx4_barFeed_L31, sx4_barFeed_L31]
      rw [cnt0 h, if_pos (nI_le (by omega) (by omega)), if_pos (nI_le (by omega) (by omega)), if_pos (show kbel [] 1 30 = 0 from rfl)]
      exact m_barR h x (A.2 1) 0 kfu y rfl (Nat.zero_le _) (by unfold kfu; omega)
  | cons r t ih =>
    intro i k y e hi hk
    obtain ⟨h1, h2, h3⟩ := kdrop e
    cases k with
    | zero => omega
    | succ k =>
      simp only [List.length_cons] at hk
      simp only [fx4_barFeed_L31, sx4_barFeed_L31]
      rw [cnt0 h, if_neg (nI_ge (by omega) (by omega)), if_neg (nI_ge (by omega) (by omega)), g_th h h1 (x := 1) (c := 1) rfl (by decide), nI_1]
      have ev : kItm A i 1 = r 1 := by unfold kItm; rw [h2]
      have p1 : vp_in (fx4_thing (nI i) 1) 1203 := p_th (by omega) (c := 1) rfl (by decide)
      have z0 := ih (i + 1) k 0 h3 (by omega) (by omega)
      have z1 := ih (i + 1) k 1 h3 (by omega) (by omega)
      rw [if_pos (show (0 : Int32) = 0 from rfl)] at z0
      rw [if_neg (show ¬ (1 : Int32) = 0 by decide)] at z1
      rw [ev]
      by_cases q : y = 0
      · rw [if_pos q, if_pos q, if_pos q]
        exact z0
      · rw [if_neg q, if_neg q, if_neg q]
        by_cases q2 : r 1 < 30
        · rw [if_pos q2, if_pos q2, kbel_1 q2, if_neg (show ¬ (1 : Int32) = 0 by decide)]
          exact ⟨⟨p1, z0.1⟩, z0.2⟩
        · rw [if_neg q2, if_neg q2, kbel_2 q2]
          exact ⟨⟨p1, z1.1⟩, z1.2⟩
theorem room_iff : aRoom A = true ↔ ((A.2 0).length < 20 ∧ kbel (A.2 0) 1 30 = 0) ∧ kbel (A.2 1) 1 30 = 0 := by
  unfold aRoom
  rw [Bool.and_eq_true, Bool.and_eq_true, decide_eq_true_iff, beq_iff_eq, beq_iff_eq]
theorem m_bar (h : RM g A) (x : Int32) : sx4_barFeed g x ∧ fx4_barFeed g x = if fx4_within x 0 3 = 0 then 1 else if aRoom A = true then 0 else 2 := by
  have hl := len0 h
  have z := fun y => m_barI h x (A.2 0) 0 kfu y rfl (Nat.zero_le _) (by unfold kfu; omega)
  unfold sx4_barFeed fx4_barFeed
  by_cases q : fx4_within x 0 3 = 0
  · rw [if_pos q, if_pos q, if_pos q]
    exact ⟨trivial, rfl⟩
  · rw [if_neg q, if_neg q, if_neg q, cnt0 h]
    by_cases q2 : (A.2 0).length < 20
    · rw [if_neg (show ¬ (20 : Int32) ≤ nI (A.2 0).length from nI_ge q2 (by decide)), if_neg (show ¬ (20 : Int32) ≤ nI (A.2 0).length from nI_ge q2 (by decide))]
      obtain ⟨a1, a2⟩ := z 1
      refine ⟨a1, a2.trans ?_⟩
      rw [if_neg (show ¬ (1 : Int32) = 0 by decide)]
      by_cases q3 : kbel (A.2 0) 1 30 = 0
      · rw [if_pos q3]
        by_cases q4 : kbel (A.2 1) 1 30 = 0
        · rw [if_pos q4, if_pos (room_iff.mpr ⟨⟨q2, q3⟩, q4⟩)]
        · rw [if_neg q4, if_neg fun z => q4 (room_iff.mp z).2]
      · rw [if_neg q3, if_neg fun z => q3 (room_iff.mp z).1.2]
    · rw [if_pos (show (20 : Int32) ≤ nI (A.2 0).length from nI_le (a := 20) (by omega) (by omega)), if_pos (show (20 : Int32) ≤ nI (A.2 0).length from nI_le (a := 20) (by omega) (by omega))]
      obtain ⟨a1, a2⟩ := z 0
      refine ⟨a1, a2.trans ?_⟩
      rw [if_pos (show (0 : Int32) = 0 from rfl), if_neg fun z => q2 (room_iff.mp z).1.1]
theorem m_feed_L (x y2 y3 : Int32) {n : Nat} (hn : n < 60) (A : Ab) (hl : (A.2 1).length = n) : ∀ (d c k : Nat) (g : Nat → Int32), c + d = 6 → 1 ≤ c → d < k → RM g A → (∀ c', c' < c → g (118 + 6 * n + c') = upd kz 0 y2 c') → sx4_feeds_L100 k x y2 y3 (nI n) (nI c) g ∧ (fx4_feeds_L100 k x y2 y3 (nI n) (nI c) g).1 = y2 ∧ RM (fx4_feeds_L100 k x y2 y3 (nI n) (nI c) g).2 (aPush A 1 (upd kz 0 y2)) := by
  intro d
  induction d with
  | zero =>
    intro c k g hc h1 hk h hv
    cases k with
    | zero => omega
    | succ k =>
      simp only [fx4_feeds_L100, sx4_feeds_L100, bnd]
      rw [if_pos (show (6 : Int32) ≤ nI c from nI_le (a := 6) (by omega) (by omega)), if_pos (show (6 : Int32) ≤ nI c from nI_le (a := 6) (by omega) (by omega))]
      refine ⟨trivial, rfl, ?_⟩
      exact rm_push h (k := 1) (v := upd kz 0 y2) (by decide) (by rw [hl]; exact hn) (fun c' hc' => by
        rw [hl]
        have hc6 : c' < 6 := hc'
        exact hv c' (by omega))
  | succ d ih =>
    intro c k g hc h1 hk h hv
    cases k with
    | zero => omega
    | succ k =>
      simp only [fx4_feeds_L100, sx4_feeds_L100, bnd]
      rw [if_neg (show ¬ (6 : Int32) ≤ nI c from nI_ge (b := 6) (by omega) (by omega)), if_neg (show ¬ (6 : Int32) ≤ nI c from nI_ge (b := 6) (by omega) (by omega)), nI_1, e_en, nI_clamp (show 118 + 6 * n + c < 2 ^ 31 by omega)]
      have b := rm_bey h (k := 1) (x := 118 + 6 * n + c) (by decide) (by rw [hl]; show 118 + 6 * n ≤ _; omega) (by show _ < 118 + 6 * 60; omega) 0
      obtain ⟨f1, f2, f3⟩ := ih (c + 1) k _ (by omega) (by omega) (by omega) b (fun c' hc' => by
        by_cases q : c' = c
        · rw [q, upd_same, upd_ne _ _ (by omega)]
          rfl
        · rw [upd_ne _ _ (by omega)]
          exact hv c' (by omega))
      exact ⟨⟨vp_in_nI (by omega) (by omega), f1⟩, f2, f3⟩
theorem m_feeds (h : RM g A) (hi : (A.2 0).length < 20) (hr : (A.2 1).length < 60) (x : Int32) : sx4_feeds g x ∧ (fx4_feeds g x).1 = A.1 17 ∧ RM (fx4_feeds g x).2 (aEnter A x) := by
  obtain ⟨a1, a2⟩ := m_count h (x := 0) (i := 0) rfl (by decide)
  have e17 := rm_g h (i := 17) (Or.inl (by decide))
  generalize hn : (A.2 0).length = n at hi
  generalize hm : (A.2 1).length = m at hr
  unfold sx4_feeds fx4_feeds
  repeat rw [bnd_o]
  rw [e17]
  generalize fx4_counts g 0 = g1 at a2 ⊢
  have hn' : ((aCount A 0).2 0).length = n := hn
  have c0 : g1 36 = nI n := by rw [cnt0 a2, hn']
  have e0 : fx4_thing (nI n) 0 = nI (37 + 4 * n + 0) := e_th n 0
  have e1 : fx4_thing (nI n) 1 = nI (37 + 4 * n + 1) := e_th n 1
  have e2 : fx4_thing (nI n) 2 = nI (37 + 4 * n + 2) := e_th n 2
  have e3 : fx4_thing (nI n) 3 = nI (37 + 4 * n + 3) := e_th n 3
  rw [c0, e0, e1, e2, e3, nI_clamp (show 37 + 4 * n + 0 < 2 ^ 31 by omega), nI_clamp (show 37 + 4 * n + 1 < 2 ^ 31 by omega), nI_clamp (show 37 + 4 * n + 2 < 2 ^ 31 by omega), nI_clamp (show 37 + 4 * n + 3 < 2 ^ 31 by omega)]
  have b0 := rm_bey a2 (k := 0) (x := 37 + 4 * n + 0) (by decide) (by rw [hn']; show 37 + 4 * n ≤ _; omega) (by show _ < 37 + 4 * 20; omega) (A.1 17)
  have b1 := rm_bey b0 (k := 0) (x := 37 + 4 * n + 1) (by decide) (by rw [hn']; show 37 + 4 * n ≤ _; omega) (by show _ < 37 + 4 * 20; omega) 0
  have b2 := rm_bey b1 (k := 0) (x := 37 + 4 * n + 2) (by decide) (by rw [hn']; show 37 + 4 * n ≤ _; omega) (by show _ < 37 + 4 * 20; omega) x
  have b3 := rm_bey b2 (k := 0) (x := 37 + 4 * n + 3) (by decide) (by rw [hn']; show 37 + 4 * n ≤ _; omega) (by show _ < 37 + 4 * 20; omega) 0
  have b4 := rm_push b3 (k := 0) (v := upd (upd kz 0 (A.1 17)) 2 x) (by decide) (by rw [hn']; exact hi) (fun c' hc' => by
    rw [hn']
    have hc4 : c' < 4 := hc'
    show upd (upd (upd (upd g1 (37 + 4 * n + 0) _) (37 + 4 * n + 1) _) (37 + 4 * n + 2) _) (37 + 4 * n + 3) _ (37 + 4 * n + c') = _
    rcases (show c' = 0 ∨ c' = 1 ∨ c' = 2 ∨ c' = 3 by omega) with rfl | rfl | rfl | rfl
    · rw [upd_ne _ _ (by omega), upd_ne _ _ (by omega), upd_ne _ _ (by omega), upd_same]
      rfl
    · rw [upd_ne _ _ (by omega), upd_ne _ _ (by omega), upd_same]
      rfl
    · rw [upd_ne _ _ (by omega), upd_same]
      rfl
    · rw [upd_same]
      rfl)
  have b4' : RM (upd (upd (upd (upd (upd g1 (37 + 4 * n + 0) (A.1 17)) (37 + 4 * n + 1) 0) (37 + 4 * n + 2) x) (37 + 4 * n + 3) 0) 36 (upd (upd (upd (upd g1 (37 + 4 * n + 0) (A.1 17)) (37 + 4 * n + 1) 0) (37 + 4 * n + 2) x) (37 + 4 * n + 3) 0 36 + 1)) (aPush (aCount A 0) 0 (upd (upd kz 0 (A.1 17)) 2 x)) := b4
  generalize upd (upd (upd (upd (upd g1 (37 + 4 * n + 0) (A.1 17)) (37 + 4 * n + 1) 0) (37 + 4 * n + 2) x) (37 + 4 * n + 3) 0) 36 (upd (upd (upd (upd g1 (37 + 4 * n + 0) (A.1 17)) (37 + 4 * n + 1) 0) (37 + 4 * n + 2) x) (37 + 4 * n + 3) 0 36 + 1) = g10 at b4' ⊢
  have hm' : ((aPush (aCount A 0) 0 (upd (upd kz 0 (A.1 17)) 2 x)).2 1).length = m := by
    unfold aPush
    rw [aT_ne _ _ (by decide)]
    exact hm
  have c1 : g10 117 = nI m := by rw [cnt1 b4', hm']
  have e5 : fx4_entry (nI m) 0 = nI (118 + 6 * m + 0) := e_en m 0
  rw [c1, e5, nI_clamp (show 118 + 6 * m + 0 < 2 ^ 31 by omega)]
  have b5 := rm_bey b4' (k := 1) (x := 118 + 6 * m + 0) (by decide) (by rw [hm']; show 118 + 6 * m ≤ _; omega) (by show _ < 118 + 6 * 60; omega) (A.1 17)
  obtain ⟨f1, f2, f3⟩ := m_feed_L x (A.1 17) (nI n) hr _ hm' 5 1 kfu _ (by decide) (Nat.le_refl _) (by unfold kfu; omega) b5 (fun c' hc' => by
    rw [show c' = 0 by omega, upd_same]
    rfl)
  exact ⟨⟨a1, vp_in_nI (by omega) (by omega), vp_in_nI (by omega) (by omega), vp_in_nI (by omega) (by omega), vp_in_nI (by omega) (by omega), vp_in_nI (by omega) (by omega), f1⟩, f2, f3⟩
end MOD6
