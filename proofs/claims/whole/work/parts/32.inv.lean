/-! what holds of the records, the verdicts, the expectations: pure data -/
abbrev tr : Type := Int × Int × Int32
def rv (r : kRow) : tr := ((r 0).toInt, (r 1).toInt, r 2)
def kM (l : List kRow) : List tr := l.map rv
def kNm (l : List kRow) : List Int := l.map fun r => (r 0).toInt
def kNn (l : List kRow) : List Int := l.map fun r => (r 1).toInt
theorem ti_add {a b : Int32} (h1 : -2147483648 ≤ a.toInt + b.toInt) (h2 : a.toInt + b.toInt < 2147483648) : (a + b).toInt = a.toInt + b.toInt := by
  rw [Int32.toInt_add]
  unfold Int.bmod
  dsimp only
  split <;> omega
def RG (M : List tr) : Prop := M.Pairwise fun a b => a.1 < b.1 ∧ b.2.1 + 30 ≤ a.2.1
theorem rg_gap : ∀ {M : List tr}, RG M → ∀ {a b : tr}, a ∈ M → b ∈ M → a = b ∨ (a.1 < b.1 ∧ b.2.1 + 30 ≤ a.2.1) ∨ (b.1 < a.1 ∧ a.2.1 + 30 ≤ b.2.1) := by
  intro M
  induction M with
  | nil => intro _ a b ha _; cases ha
  | cons x t ih =>
    intro h a b ha hb
    obtain ⟨h1, h2⟩ := List.pairwise_cons.mp h
    rcases List.mem_cons.mp ha with ea | ha'
    · rcases List.mem_cons.mp hb with eb | hb'
      · exact Or.inl (ea.trans eb.symm)
      · rw [ea]
        exact Or.inr (Or.inl (h1 b hb'))
    · rcases List.mem_cons.mp hb with eb | hb'
      · rw [eb]
        exact Or.inr (Or.inr (h1 a ha'))
      · exact ih h2 ha' hb'
theorem rg_num {M : List tr} (h : RG M) {a b : tr} (ha : a ∈ M) (hb : b ∈ M) (e : a.1 = b.1) : a = b := by
  rcases rg_gap h ha hb with q | q | q
  · exact q
  · omega
  · omega
section RXS
variable {C1 C2 G j : Int} {p1 p2 q1 q2 qg : Bool} {M M' : List tr} {N N' : List Int}
def RX (C1 C2 G j : Int) (p1 p2 q1 q2 qg : Bool) (M : List tr) (N : List Int) : Prop :=
  (q1 = true → ∀ a ∈ M, C1 ≤ a.2.1 ∨ a.2.1 + 31 ≤ C1 + j) ∧
  (q2 = true → ∀ a ∈ M, C2 ≤ a.2.1 ∨ a.2.1 + 31 ≤ C2 + j) ∧
  (qg = true → ∀ a ∈ M, G ≤ a.2.1 ∨ a.2.1 + 31 ≤ G + j) ∧
  (∀ a ∈ M, a.2.2 ≠ 0 → C1 + j ≤ a.2.1) ∧
  (∀ n ∈ N, ∀ a ∈ M, a.1 = n → C1 ≤ a.2.1) ∧
  (p1 = true → (∃ a ∈ M, C1 + j ≤ a.2.1 ∧ a.2.1 ≤ C1 + 9 + j) ∨ C2 < C1 + 21 ∨ (q2 = false ∧ ∀ a ∈ M, a.2.1 < C1 + j)) ∧
  (p1 = true → p2 = true → C1 + 21 ≤ C2 ∧ ∃ a ∈ M, C1 + j ≤ a.2.1 ∧ a.2.1 ≤ C1 + 9 + j) ∧
  (p2 = true → ∀ a ∈ M, a.2.1 < C1 + j ∨ C2 + j ≤ a.2.1 ∨ a.2.1 + 21 ≤ C2 + j) ∧
  (q1 = true → (∃ a ∈ M, C1 ≤ a.2.1 ∧ a.2.1 + 1 ≤ C1 + j) ∨ C2 < C1 + 21) ∧
  (q1 = true → ∀ a ∈ M, C1 + j ≤ a.2.1 → C1 + 30 ≤ a.2.1) ∧
  (q1 = true → q2 = true → C1 + 21 ≤ C2) ∧ (p2 = true → q2 = true → False) ∧ (p1 = true → q1 = true → q2 = true → False) ∧ (p1 = true → p2 = true → q1 = true → False)
/-- what has yet to act in this pulse -/
def RU (C1 C2 G : Int) (q1 q2 qg : Bool) (M : List tr) : Prop := ∀ a ∈ M, (q1 = true → a.2.1 ≠ C1) ∧ (q2 = true → a.2.1 ≠ C2) ∧ (qg = true → a.2.1 ≠ G)
def tinc (a : tr) : tr := (a.1, a.2.1 + 1, a.2.2)
theorem ti2 (a : tr) : (tinc a).2.1 = a.2.1 + 1 := rfl
theorem rx_inc (hj : 0 ≤ j) (hj9 : j ≤ 9) (h : RX C1 C2 G j p1 p2 q1 q2 qg M N) : RX C1 C2 G (j + 1) p1 p2 q1 q2 qg (M.map tinc) N ∧ RU C1 C2 G q1 q2 qg (M.map tinc) := by
  obtain ⟨x1, x2, x3, x4, x5, x6, x7, x8, x9, x10, x11, x12, x13, x14⟩ := h
  have mm : ∀ {a : tr}, a ∈ M.map tinc → ∃ b ∈ M, a = tinc b := fun {a} ha => by
    obtain ⟨b, hb, e⟩ := List.mem_map.mp ha
    exact ⟨b, hb, e.symm⟩
  have ex : ∀ {P : tr → Prop} {P' : tr → Prop}, (∃ a ∈ M, P a) → (∀ a, P a → P' (tinc a)) → ∃ a ∈ M.map tinc, P' a := fun {P P'} ⟨a, ha, hp⟩ f => ⟨tinc a, List.mem_map_of_mem ha, f a hp⟩
  refine ⟨⟨fun q a ha => ?_, fun q a ha => ?_, fun q a ha => ?_, fun a ha hv => ?_, fun n hn a ha hv => ?_, fun q => ?_, fun q q' => ?_, fun q a ha => ?_, fun q => ?_, fun q a ha hx => ?_, x11, x12, x13, x14⟩, fun a ha => ⟨fun q e => ?_, fun q e => ?_, fun q e => ?_⟩⟩
  · obtain ⟨b, hb, rfl⟩ := mm ha
    have := x1 q b hb
    rw [ti2]
    omega
  · obtain ⟨b, hb, rfl⟩ := mm ha
    have := x2 q b hb
    rw [ti2]
    omega
  · obtain ⟨b, hb, rfl⟩ := mm ha
    have := x3 q b hb
    rw [ti2]
    omega
  · obtain ⟨b, hb, rfl⟩ := mm ha
    have := x4 b hb hv
    rw [ti2]
    omega
  · obtain ⟨b, hb, rfl⟩ := mm ha
    have := x5 n hn b hb hv
    rw [ti2]
    omega
  · rcases x6 q with y | y | ⟨y1, y2⟩
    · exact Or.inl (ex y fun a z => by rw [ti2]; omega)
    · exact Or.inr (Or.inl y)
    · refine Or.inr (Or.inr ⟨y1, fun a ha => ?_⟩)
      obtain ⟨b, hb, rfl⟩ := mm ha
      have := y2 b hb
      rw [ti2]
      omega
  · obtain ⟨y1, y2⟩ := x7 q q'
    exact ⟨y1, ex y2 fun a z => by rw [ti2]; omega⟩
  · obtain ⟨b, hb, rfl⟩ := mm ha
    have := x8 q b hb
    rw [ti2]
    omega
  · rcases x9 q with y | y
    · exact Or.inl (ex y fun a z => by rw [ti2]; omega)
    · exact Or.inr y
  · obtain ⟨b, hb, rfl⟩ := mm ha
    have := x10 q b hb
    rw [ti2] at hx ⊢
    omega
  · obtain ⟨b, hb, rfl⟩ := mm ha
    have := x1 q b hb
    rw [ti2] at e
    omega
  · obtain ⟨b, hb, rfl⟩ := mm ha
    have := x2 q b hb
    rw [ti2] at e
    omega
  · obtain ⟨b, hb, rfl⟩ := mm ha
    have := x3 q b hb
    rw [ti2] at e
    omega
/-- a record goes out that is at the gate or beyond -/
theorem rx_sub (hj : j ≤ 10) (hG : C2 < G) (h : RX C1 C2 G j p1 p2 q1 q2 qg M N) (hs : ∀ a ∈ M', a ∈ M) (hb : ∀ a ∈ M, a ∈ M' ∨ G ≤ a.2.1) : RX C1 C2 G j p1 p2 q1 q2 qg M' N := by
  obtain ⟨x1, x2, x3, x4, x5, x6, x7, x8, x9, x10, x11, x12, x13, x14⟩ := h
  have ex : C1 + 21 ≤ C2 → (∃ a ∈ M, C1 + j ≤ a.2.1 ∧ a.2.1 ≤ C1 + 9 + j) → ∃ a ∈ M', C1 + j ≤ a.2.1 ∧ a.2.1 ≤ C1 + 9 + j := fun hc ⟨a, ha, hp⟩ => by
    rcases hb a ha with q | q
    · exact ⟨a, q, hp⟩
    · omega
  refine ⟨fun q a ha => x1 q a (hs a ha), fun q a ha => x2 q a (hs a ha), fun q a ha => x3 q a (hs a ha), fun a ha hv => x4 a (hs a ha) hv, fun n hn a ha hv => x5 n hn a (hs a ha) hv, fun q => ?_, fun q q' => ?_, fun q a ha => x8 q a (hs a ha), fun q => ?_, fun q a ha hx => x10 q a (hs a ha) hx, x11, x12, x13, x14⟩
  · rcases x6 q with y | y | ⟨y1, y2⟩
    · by_cases hc : C2 < C1 + 21
      · exact Or.inr (Or.inl hc)
      · exact Or.inl (ex (by omega) y)
    · exact Or.inr (Or.inl y)
    · exact Or.inr (Or.inr ⟨y1, fun a ha => y2 a (hs a ha)⟩)
  · obtain ⟨y1, y2⟩ := x7 q q'
    exact ⟨y1, ex y1 y2⟩
  · by_cases hc : C2 < C1 + 21
    · exact Or.inr hc
    · rcases x9 q with ⟨a, ha, hp⟩ | y
      · rcases hb a ha with z | z
        · exact Or.inl ⟨a, z, hp⟩
        · omega
      · exact Or.inr y
theorem rx_N (h : RX C1 C2 G j p1 p2 q1 q2 qg M N) (hs : ∀ n ∈ N', n ∈ N) : RX C1 C2 G j p1 p2 q1 q2 qg M N' := by
  obtain ⟨x1, x2, x3, x4, x5, x6⟩ := h
  exact ⟨x1, x2, x3, x4, fun n hn => x5 n (hs n hn), x6⟩
/-- the first camera acts -/
theorem rx_c1 (hj : 1 ≤ j) (hj10 : j ≤ 10) (hC : C1 < C2) (h : RX C1 C2 G j p1 p2 q1 q2 qg M N) (hg : RG M) {a : tr} (ha : a ∈ M) (hp : a.2.1 = C1) (hq : q1 = true → a.2.1 ≠ C1) : p1.toNat + p2.toNat + q1.toNat + q2.toNat ≤ 1 ∧ q1 = false ∧ RX C1 C2 G j p1 p2 true q2 qg M (N ++ [a.1]) := by
  obtain ⟨x1, x2, x3, x4, x5, x6, x7, x8, x9, x10, x11, x12, x13, x14⟩ := h
  have nq : q1 = false := by
    cases q1
    · rfl
    · exact absurd hp (hq rfl)
  have gap : ∀ b ∈ M, b = a ∨ b.2.1 + 30 ≤ C1 ∨ C1 + 30 ≤ b.2.1 := fun b hb => by
    rcases rg_gap hg hb ha with y | y | y
    · exact Or.inl y
    · exact Or.inr (Or.inr (by omega))
    · exact Or.inr (Or.inl (by omega))
  have nx : ¬ ∃ b ∈ M, C1 + j ≤ b.2.1 ∧ b.2.1 ≤ C1 + 9 + j := fun ⟨b, hb, z⟩ => by
    rcases gap b hb with y | y | y
    · rw [y] at z; omega
    · omega
    · omega
  have n12 : p1 = true → p2 = true → False := fun u v => nx (x7 u v).2
  have c21 : q2 = true → C1 + 21 ≤ C2 := fun u => by
    have := x2 u a ha
    omega
  have n1q : p1 = true → q2 = true → False := fun u v => by
    rcases x6 u with y | y | y
    · exact nx y
    · have := c21 v; omega
    · rw [y.1] at v; cases v
  have n2q := x12
  refine ⟨?_, nq, ?_⟩
  · rw [nq]
    cases p1 <;> cases p2 <;> cases q2 <;> first | decide | exact absurd (n12 rfl rfl) id | exact absurd (n1q rfl rfl) id | exact absurd (n2q rfl rfl) id
  · refine ⟨fun _ b hb => ?_, x2, x3, x4, fun n hn b hb e => ?_, x6, x7, x8, fun _ => Or.inl ⟨a, ha, by omega⟩, fun _ b hb hx => ?_, fun _ => c21, x12, fun u _ v => n1q u v, fun u v _ => n12 u v⟩
    · rcases gap b hb with y | y | y
      · rw [y]; omega
      · omega
      · omega
    · rcases List.mem_append.mp hn with y | y
      · exact x5 n y b hb e
      · rw [List.mem_singleton] at y
        rw [rg_num hg hb ha (by omega)]
        omega
    · rcases gap b hb with y | y | y
      · rw [y] at hx; omega
      · omega
      · omega
/-- the second camera acts -/
theorem rx_c2 (hj : 1 ≤ j) (hj10 : j ≤ 10) (hC : C1 < C2) (h : RX C1 C2 G j p1 p2 q1 q2 qg M N) (hg : RG M) {a : tr} (ha : a ∈ M) (hp : a.2.1 = C2) (hv : a.2.2 ≠ 0) (hq : q2 = true → a.2.1 ≠ C2) : p1.toNat + p2.toNat + q1.toNat + q2.toNat ≤ 1 ∧ q2 = false ∧ RX C1 C2 G j p1 p2 q1 true qg M (N ++ [a.1]) := by
  obtain ⟨x1, x2, x3, x4, x5, x6, x7, x8, x9, x10, x11, x12, x13, x14⟩ := h
  have nq : q2 = false := by
    cases q2
    · rfl
    · exact absurd hp (hq rfl)
  have gap : ∀ b ∈ M, b = a ∨ b.2.1 + 30 ≤ C2 ∨ C2 + 30 ≤ b.2.1 := fun b hb => by
    rcases rg_gap hg hb ha with y | y | y
    · exact Or.inl y
    · exact Or.inr (Or.inr (by omega))
    · exact Or.inr (Or.inl (by omega))
  have h4 := x4 a ha hv
  have np2 : p2 = true → False := fun u => by
    have := x8 u a ha
    omega
  have c30 : q1 = true → C1 + 30 ≤ C2 := fun u => by
    have := x10 u a ha h4
    omega
  have n1q : p1 = true → q1 = true → False := fun u v => by
    have e := c30 v
    rcases x6 u with ⟨b, hb, z⟩ | y | y
    · have := x10 v b hb z.1
      omega
    · omega
    · have := y.2 a ha
      omega
  refine ⟨?_, nq, ?_⟩
  · rw [nq]
    cases p1 <;> cases p2 <;> cases q1 <;> first | decide | exact absurd (np2 rfl) id | exact absurd (n1q rfl rfl) id
  · refine ⟨x1, fun _ b hb => ?_, x3, x4, fun n hn b hb e => ?_, fun u => ?_, x7, x8, x9, x10, fun u _ => ?_, fun u _ => np2 u, fun u v _ => n1q u v, x14⟩
    · rcases gap b hb with y | y | y
      · rw [y]; omega
      · omega
      · omega
    · rcases List.mem_append.mp hn with y | y
      · exact x5 n y b hb e
      · rw [List.mem_singleton] at y
        rw [rg_num hg hb ha (by omega)]
        omega
    · rcases x6 u with y | y | y
      · exact Or.inl y
      · exact Or.inr (Or.inl y)
      · have := y.2 a ha
        omega
    · have := c30 u
      omega
/-- the gate acts -/
theorem rx_gt (h : RX C1 C2 G j p1 p2 q1 q2 qg M N) (hj : 1 ≤ j) (hg : RG M) {a : tr} (ha : a ∈ M) (hp : a.2.1 = G) : RX C1 C2 G j p1 p2 q1 q2 true M N := by
  obtain ⟨x1, x2, x3, x4⟩ := h
  refine ⟨x1, x2, fun _ b hb => ?_, x4⟩
  rcases rg_gap hg hb ha with y | y | y
  · rw [y]; omega
  · omega
  · omega
/-- a verdict is told -/
theorem rx_v (h : RX C1 C2 G j p1 p2 q1 q2 qg M N) (h1 : ∀ b ∈ M', ∃ a ∈ M, b.1 = a.1 ∧ b.2.1 = a.2.1 ∧ (b.2.2 = a.2.2 ∨ C1 + j ≤ a.2.1)) (h2 : ∀ a ∈ M, ∃ b ∈ M', b.1 = a.1 ∧ b.2.1 = a.2.1) : RX C1 C2 G j p1 p2 q1 q2 qg M' N := by
  obtain ⟨x1, x2, x3, x4, x5, x6, x7, x8, x9, x10, x11⟩ := h
  have ex : ∀ {P : Int → Prop}, (∃ a ∈ M, P a.2.1) → ∃ a ∈ M', P a.2.1 := fun {P} ⟨a, ha, hp⟩ => by
    obtain ⟨b, hb, e1, e2⟩ := h2 a ha
    exact ⟨b, hb, by rw [e2]; exact hp⟩
  refine ⟨fun q b hb => ?_, fun q b hb => ?_, fun q b hb => ?_, fun b hb hv => ?_, fun n hn b hb e => ?_, fun q => ?_, fun q q' => ?_, fun q b hb => ?_, fun q => ?_, fun q b hb hx => ?_, x11⟩
  · obtain ⟨a, ha, e1, e2, e3⟩ := h1 b hb
    rw [e2]; exact x1 q a ha
  · obtain ⟨a, ha, e1, e2, e3⟩ := h1 b hb
    rw [e2]; exact x2 q a ha
  · obtain ⟨a, ha, e1, e2, e3⟩ := h1 b hb
    rw [e2]; exact x3 q a ha
  · obtain ⟨a, ha, e1, e2, e3⟩ := h1 b hb
    rw [e2]
    rcases e3 with e3 | e3
    · exact x4 a ha (by rw [← e3]; exact hv)
    · exact e3
  · obtain ⟨a, ha, e1, e2, e3⟩ := h1 b hb
    rw [e2]; exact x5 n hn a ha (by rw [← e1]; exact e)
  · rcases x6 q with y | y | ⟨y1, y2⟩
    · exact Or.inl (ex (P := fun z => C1 + j ≤ z ∧ z ≤ C1 + 9 + j) y)
    · exact Or.inr (Or.inl y)
    · refine Or.inr (Or.inr ⟨y1, fun b hb => ?_⟩)
      obtain ⟨a, ha, e1, e2, e3⟩ := h1 b hb
      rw [e2]; exact y2 a ha
  · obtain ⟨y1, y2⟩ := x7 q q'
    exact ⟨y1, ex (P := fun z => C1 + j ≤ z ∧ z ≤ C1 + 9 + j) y2⟩
  · obtain ⟨a, ha, e1, e2, e3⟩ := h1 b hb
    rw [e2]; exact x8 q a ha
  · rcases x9 q with y | y
    · exact Or.inl (ex (P := fun z => C1 ≤ z ∧ z + 1 ≤ C1 + j) y)
    · exact Or.inr y
  · obtain ⟨a, ha, e1, e2, e3⟩ := h1 b hb
    rw [e2] at hx ⊢; exact x10 q a ha hx
/-- a tick has ended -/
theorem rx_end (hj : 0 ≤ j) (hj10 : j ≤ 10) (h : RX C1 C2 G j p1 p2 q1 q2 qg M N) : RX C1 C2 G 0 q1 q2 false false false M N := by
  obtain ⟨x1, x2, x3, x4, x5, x6, x7, x8, x9, x10, x11, x12, x13, x14⟩ := h
  have ff : ∀ {P : Prop}, false = true → P := fun z => by cases z
  refine ⟨ff, ff, ff, fun a ha hv => ?_, x5, fun u => ?_, fun u v => ?_, fun u a ha => ?_, ff, ff, ff, fun _ => ff, fun _ => ff, fun _ _ => ff⟩
  · have := x4 a ha hv
    omega
  · rcases x9 u with ⟨a, ha, z⟩ | y
    · exact Or.inl ⟨a, ha, by omega⟩
    · exact Or.inr (Or.inl y)
  · have e := x11 u v
    rcases x9 u with ⟨a, ha, z⟩ | y
    · exact ⟨e, a, ha, by omega⟩
    · omega
  · have := x2 u a ha
    omega
/-- a record enters -/
theorem rx_new (h : RX C1 C2 G 0 p1 p2 false false false M N) {n : Int} (hC : 1 ≤ C1) (hn : n ∉ N) : RX C1 C2 G 0 p1 p2 false false false (M ++ [(n, 0, 0)]) N := by
  obtain ⟨x1, x2, x3, x4, x5, x6, x7, x8, x9, x10, x11⟩ := h
  have ff : ∀ {P : Prop}, false = true → P := fun z => by cases z
  have mm : ∀ {a : tr}, a ∈ M ++ [(n, 0, 0)] → a ∈ M ∨ a = (n, 0, 0) := fun {a} ha => by
    rcases List.mem_append.mp ha with y | y
    · exact Or.inl y
    · exact Or.inr (List.mem_singleton.mp y)
  refine ⟨ff, ff, ff, fun a ha hv => ?_, fun n' hn' a ha e => ?_, fun u => ?_, fun u v => ?_, fun u a ha => ?_, ff, ff, x11⟩
  · rcases mm ha with y | y
    · exact x4 a y hv
    · rw [y] at hv; exact absurd rfl hv
  · rcases mm ha with y | y
    · exact x5 n' hn' a y e
    · rw [y] at e
      have e' : n = n' := e
      rw [e'] at hn
      exact absurd hn' hn
  · rcases x6 u with ⟨a, ha, z⟩ | y | ⟨y1, y2⟩
    · exact Or.inl ⟨a, List.mem_append_left _ ha, z⟩
    · exact Or.inr (Or.inl y)
    · refine Or.inr (Or.inr ⟨rfl, fun a ha => ?_⟩)
      rcases mm ha with y | y
      · exact y2 a y
      · rw [y]
        show (0 : Int) < C1 + 0
        omega
  · obtain ⟨y1, a, ha, z⟩ := x7 u v
    exact ⟨y1, a, List.mem_append_left _ ha, z⟩
  · rcases mm ha with y | y
    · exact x8 u a y
    · rw [y]
      left
      show (0 : Int) < C1 + 0
      omega
/-- with no record any places do -/
theorem rx_nil {C1' C2' G' : Int} (h : RX C1 C2 G 0 p1 p2 false false false [] N) : RX C1' C2' G' 0 p1 p2 false false false [] N := by
  obtain ⟨x1, x2, x3, x4, x5, x6, x7, x8, x9, x10, x11⟩ := h
  have ff : ∀ {P : Prop}, false = true → P := fun z => by cases z
  have nn : ∀ {a : tr} {P : Prop}, a ∈ ([] : List tr) → P := fun z => by cases z
  refine ⟨ff, ff, ff, fun a ha _ => nn ha, fun n _ a ha _ => nn ha, fun _ => Or.inr (Or.inr ⟨rfl, fun a ha => nn ha⟩), fun u v => ?_, fun _ a ha => nn ha, ff, ff, ff, fun _ => ff, fun _ => ff, fun _ _ => ff⟩
  obtain ⟨y1, a, ha, z⟩ := x7 u v
  cases ha
end RXS
