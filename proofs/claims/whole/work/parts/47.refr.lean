/-! the reference's queries, on: ranges, codes, letters, most, least, true counts -/
def inR (x lo hi : Int32) : Bool := if x < lo then false else if hi < x then false else true
theorem e110 {x lo hi : Int32} {σ : Hp} {K : Option Value → Hp → Prop} : X 110 0 [.int x, .int lo, .int hi] [] σ K = K (some (.int (bI (inR x lo hi)))) σ := by
  unfold inR
  by_cases h1 : x < lo
  · simp only [x110_0, x110_1, x110_2, x110_5, x110_6, x110_7, x110_10, x110_11, x110_14, x110_15 (x := 0) (by decide +kernel), pushO, List.length_cons, List.length_nil, Nat.reduceAdd, Nat.reduceLeDiff, Nat.le_refl, Nat.zero_le, isD_i, isD_r, isD_l, isD_n, if_true, if_false, ite_true, ite_false, reduceIte, h1, bI_f]
  · by_cases h2 : hi < x
    · simp only [x110_0, x110_1, x110_2, x110_5, x110_6, x110_7, x110_10, x110_11, x110_14, x110_15 (x := 0) (by decide +kernel), pushO, List.length_cons, List.length_nil, Nat.reduceAdd, Nat.reduceLeDiff, Nat.le_refl, Nat.zero_le, isD_i, isD_r, isD_l, isD_n, if_true, if_false, ite_true, ite_false, reduceIte, h1, h2, bI_f]
    · simp only [x110_0, x110_1, x110_2, x110_5, x110_6, x110_7, x110_10, x110_11, x110_14, x110_15 (x := 1) (by decide +kernel), pushO, List.length_cons, List.length_nil, Nat.reduceAdd, Nat.reduceLeDiff, Nat.le_refl, Nat.zero_le, isD_i, isD_r, isD_l, isD_n, if_true, if_false, ite_true, ite_false, reduceIte, h1, h2, bI_t]
theorem bI_b {b : Bool} : (bI b == 0 || bI b == 1) = true := by cases b <;> rfl
theorem inR_st {x : Int32} : inR x 0 1 = isSt x := by
  unfold inR isSt
  have e0 : Int32.toInt 0 = 0 := by decide +kernel
  have e1 : Int32.toInt 1 = 1 := by decide +kernel
  by_cases h0 : x = 0
  · subst h0
    decide +kernel
  · rw [if_neg h0]
    by_cases h1 : x = 1
    · subst h1
      decide +kernel
    · rw [decide_eq_false h1]
      have a0 : ¬ x.toInt = 0 := fun q => h0 (Int32.toInt_inj.mp (by omega))
      have a1 : ¬ x.toInt = 1 := fun q => h1 (Int32.toInt_inj.mp (by omega))
      by_cases h2 : x < 0
      · rw [if_pos h2]
      · rw [if_neg h2]
        have h3 : 1 < x := by
          have := Int32.le_iff_toInt_le.mp (Int32.not_lt.mp h2)
          rw [Int32.lt_iff_toInt_lt]
          omega
        rw [if_pos h3]
theorem e111 {x : Int32} {σ : Hp} {K : Option Value → Hp → Prop} : X 111 0 [.int x] [] σ K = K (some (.int (bI (isSt x)))) σ := by
  simp only [x111_0, x111_1, x111_2, x111_3, x111_6 bI_b, pushO, List.length_cons, List.length_nil, Nat.reduceAdd, Nat.reduceLeDiff, Nat.le_refl, Nat.zero_le, isD_i, isD_r, isD_l, isD_n, if_true, if_false, ite_true, ite_false, reduceIte, e110, inR_st]
theorem l112z {l0 : Value} {y : Int32} {σ : Hp} {K : Option Value → Hp → Prop} : X 112 10 [l0, .int 0, .int y] [] σ K = K (some (.int 0)) σ := by
  by_cases h : 0 < y
  · simp only [x112_10, x112_11, x112_14, x112_15, x112_39, x112_40 (x := 0) (by decide +kernel), pushO, List.length_cons, List.length_nil, Nat.reduceAdd, Nat.reduceLeDiff, Nat.le_refl, Nat.zero_le, isD_i, isD_r, isD_l, isD_n, if_true, if_false, ite_true, ite_false, reduceIte, h]
  · simp only [x112_10, x112_11, x112_14, x112_15, x112_39, x112_40 (x := 0) (by decide +kernel), pushO, List.length_cons, List.length_nil, Nat.reduceAdd, Nat.reduceLeDiff, Nat.le_refl, Nat.zero_le, isD_i, isD_r, isD_l, isD_n, if_true, if_false, ite_true, ite_false, reduceIte, h]
theorem l112 {l0 : Value} {σ : Hp} {K : Option Value → Hp → Prop} : ∀ n r, r < 27 ^ n → r < 2 ^ 31 → X 112 10 [l0, .int 1, .int (nI r)] [] σ K = K (some (.int (bI (codeN n r)))) σ := by
  intro n
  induction n with
  | zero =>
    intro r hr hr2
    have h0 : r = 0 := by simpa using hr
    subst h0
    have n1 : ¬ 0 < nI 0 := by decide +kernel
    rw [x112_10]
    simp only [x112_11, x112_14, x112_15, x112_39, x112_40 (x := 1) (by decide +kernel), pushO, List.length_cons, List.length_nil, Nat.reduceAdd, Nat.reduceLeDiff, Nat.le_refl, Nat.zero_le, isD_i, isD_r, isD_l, isD_n, if_true, if_false, ite_true, ite_false, reduceIte, n1, codeN, bI_t]
  | succ n ih =>
    intro r hr hr2
    rw [x112_10]
    by_cases h0 : r = 0
    · subst h0
      have n1 : ¬ 0 < nI 0 := by decide +kernel
      simp only [x112_11, x112_14, x112_15, x112_39, x112_40 (x := 1) (by decide +kernel), pushO, List.length_cons, List.length_nil, Nat.reduceAdd, Nat.reduceLeDiff, Nat.le_refl, Nat.zero_le, isD_i, isD_r, isD_l, isD_n, if_true, if_false, ite_true, ite_false, reduceIte, n1, codeN, bI_t]
    · have h1 : 0 < nI r := by rw [nI_0lt hr2]; omega
      have h3 : r / 27 < 27 ^ n := by rw [Nat.pow_succ] at hr; omega
      have h4 : r / 27 < 2 ^ 31 := by omega
      have i1 : ¬ (1 : Int32) = 0 := by decide +kernel
      unfold codeN
      rw [if_neg h0]
      by_cases h2 : r % 27 = 0
      · have h5 : ¬ 0 < nI (r % 27) := by rw [h2]; decide +kernel
        rw [if_pos h2, bI_f]
        simp only [x112_11, x112_14, x112_15, x112_18, x112_19, x112_22, x112_25, x112_26, x112_29, x112_30, x112_31, x112_32, x112_35, x112_36, x112_21 i27_ne, x112_34 i27_ne, pushO, List.length_cons, List.length_nil, Nat.reduceAdd, Nat.reduceLeDiff, Nat.le_refl, Nat.zero_le, isD_i, isD_r, isD_l, isD_n, if_true, if_false, ite_true, ite_false, reduceIte, h1, i1, rem27 hr2, rem27b hr2, div27 hr2, h5]
        exact l112z
      · have h5 : 0 < nI (r % 27) := by rw [nI_0lt (by omega)]; omega
        rw [if_neg h2]
        simp only [x112_11, x112_14, x112_15, x112_18, x112_19, x112_22, x112_25, x112_26, x112_29, x112_30, x112_31, x112_32, x112_35, x112_36, x112_21 i27_ne, x112_34 i27_ne, pushO, List.length_cons, List.length_nil, Nat.reduceAdd, Nat.reduceLeDiff, Nat.le_refl, Nat.zero_le, isD_i, isD_r, isD_l, isD_n, if_true, if_false, ite_true, ite_false, reduceIte, h1, i1, rem27 hr2, rem27b hr2, div27 hr2, h5]
        exact ih _ h3 h4
theorem inR_cd {x : Int32} : isCd x = if inR x 1 531440 = true then codeN 5 x.toNatClampNeg else false := by
  unfold isCd inR
  by_cases h1 : x < 1
  · rw [if_pos h1, if_pos h1, if_neg Bool.false_ne_true]
  · rw [if_neg h1, if_neg h1]
    by_cases h2 : 531440 < x
    · rw [if_pos h2, if_pos h2, if_neg Bool.false_ne_true]
    · rw [if_neg h2, if_neg h2, if_pos rfl]
theorem e112 {x : Int32} {σ : Hp} {K : Option Value → Hp → Prop} : X 112 0 [.int x, .null, .null] [] σ K = K (some (.int (bI (isCd x)))) σ := by
  rw [inR_cd]
  cases h1 : inR x 1 531440
  · simp only [x112_0, x112_1, x112_2, x112_4, x112_7, x112_8, x112_9, pushO, List.length_cons, List.length_nil, Nat.reduceAdd, Nat.reduceLeDiff, Nat.le_refl, Nat.zero_le, isD_i, isD_r, isD_l, isD_n, if_true, if_false, ite_true, ite_false, reduceIte, e110, h1, bI_f, Bool.false_eq_true]
    exact l112z
  · simp only [x112_0, x112_1, x112_2, x112_4, x112_7, x112_8, x112_9, pushO, List.length_cons, List.length_nil, Nat.reduceAdd, Nat.reduceLeDiff, Nat.le_refl, Nat.zero_le, isD_i, isD_r, isD_l, isD_n, if_true, if_false, ite_true, ite_false, reduceIte, e110, h1, bI_t]
    unfold inR at h1
    by_cases k1 : x < 1
    · rw [if_pos k1] at h1; cases h1
    · by_cases k2 : 531440 < x
      · rw [if_neg k1, if_pos k2] at h1; cases h1
      · obtain ⟨e1, e2, e3⟩ := cd_nn k1 k2
        have q := l112 (l0 := .int x) (σ := σ) (K := K) 5 x.toNatClampNeg (by omega) (by omega)
        rw [← e1] at q
        exact q
theorem l142 {x : Int32} {σ : Hp} {K : Option Value → Hp → Prop} : ∀ n r a, r < 27 ^ n → r < 2 ^ 31 → X 142 4 [.int x, .int (nI a), .int (nI r)] [] σ K = K (some (.int (nI (letN n r a)))) σ := by
  intro n
  induction n with
  | zero =>
    intro r a hr hr2
    have h0 : r = 0 := by simpa using hr
    subst h0
    have n1 : ¬ 0 < nI 0 := by decide +kernel
    rw [x142_4]
    simp only [x142_5, x142_8, x142_11, x142_12, x142_14, x142_15, x142_16, x142_19, x142_20, pushO, List.length_cons, List.length_nil, Nat.reduceAdd, Nat.reduceLeDiff, Nat.le_refl, Nat.zero_le, isD_i, isD_r, isD_l, isD_n, if_true, if_false, ite_true, ite_false, reduceIte, n1, letN]
  | succ n ih =>
    intro r a hr hr2
    rw [x142_4]
    by_cases h0 : r = 0
    · subst h0
      have n1 : ¬ 0 < nI 0 := by decide +kernel
      simp only [x142_5, x142_8, x142_11, x142_12, x142_14, x142_15, x142_16, x142_19, x142_20, pushO, List.length_cons, List.length_nil, Nat.reduceAdd, Nat.reduceLeDiff, Nat.le_refl, Nat.zero_le, isD_i, isD_r, isD_l, isD_n, if_true, if_false, ite_true, ite_false, reduceIte, n1, letN]
    · have h1 : 0 < nI r := by rw [nI_0lt hr2]; omega
      have h3 : r / 27 < 27 ^ n := by rw [Nat.pow_succ] at hr; omega
      unfold letN
      rw [if_neg h0]
      simp only [x142_5, x142_8, x142_11, x142_12, x142_15, x142_16, x142_19, x142_20, x142_14 i27_ne, pushO, List.length_cons, List.length_nil, Nat.reduceAdd, Nat.reduceLeDiff, Nat.le_refl, Nat.zero_le, isD_i, isD_r, isD_l, isD_n, if_true, if_false, ite_true, ite_false, reduceIte, h1, div27 hr2, ← nI_succ]
      exact ih _ _ h3 (by omega)
theorem e142 {x : Int32} {σ : Hp} {K : Option Value → Hp → Prop} (hx : isCd x = true) : X 142 0 [.int x, .null, .null] [] σ K = K (some (.int (nI (letS x)))) σ := by
  unfold isCd at hx
  by_cases h1 : x < 1
  · rw [if_pos h1] at hx; cases hx
  · by_cases h2 : 531440 < x
    · rw [if_neg h1, if_pos h2] at hx; cases hx
    · obtain ⟨e1, e2, e3⟩ := cd_nn h1 h2
      have q := l142 (x := x) (σ := σ) (K := K) 5 x.toNatClampNeg 0 (by omega) (by omega)
      rw [← e1, nI_0] at q
      simp only [x142_0, x142_1, x142_2, x142_3, pushO, List.length_cons, List.length_nil, Nat.reduceAdd, Nat.reduceLeDiff, Nat.le_refl, Nat.zero_le, isD_i, isD_r, isD_l, isD_n, if_true, if_false, ite_true, ite_false, reduceIte, q, letS]
theorem seatR_cases {g : Nat → Int32} {t : Nat} {x : Int32} : (seatO g t x = none ∧ seatOfR g t x = -6) ∨ (∃ j, j < t ∧ g j = x ∧ seatO g t x = some j ∧ seatOfR g t x = nI j) := by
  rw [seatOf_O]
  cases h : seatO g t x with
  | none => exact Or.inl ⟨rfl, rfl⟩
  | some j => exact Or.inr ⟨j, (seatO_lt h).1, (seatO_lt h).2, rfl, rfl⟩
theorem nI_n6 {j : Nat} (h : j < 2 ^ 31) : ¬ nI j = -6 := by
  intro q
  have := congrArg Int32.toInt q
  rw [nI_toInt h, show Int32.toInt (-6) = -6 by decide +kernel] at this
  omega
theorem e124 {t n N S : Nat} {y : Int32} {K : Option Value → Hp → Prop} {m : Nat} {μ : ModM} {σ : Hp} (h : modAt m μ σ) (ht : t < 2) (o : rvOK (ks μ) t n N S) : X 124 0 [.ref m, .int (nI t), .int y, .null] [] σ K = K (some (.int (mostR (vG (ks μ) t) (vC (ks μ) t) S n y))) σ := by
  have o' := o
  obtain ⟨o1, o2, o3, o4, o5, o6, o7, o8⟩ := o
  unfold mostR
  rcases seatR_cases (g := vG (ks μ) t) (t := n) (x := y) with ⟨_, q⟩ | ⟨j, j1, _, _, q⟩
  · have n1 : ¬ ((-6 : Int32) ≠ -6) := fun k => k rfl
    simp only [x124_0, x124_1, x124_2, x124_3, x124_6, x124_7, x124_8, x124_10, x124_13, x124_14, x124_15, x124_18, x124_21, x124_22, x124_23, x124_24, x124_27, pushO, List.length_cons, List.length_nil, Nat.reduceAdd, Nat.reduceLeDiff, Nat.le_refl, Nat.zero_le, isD_i, isD_r, isD_l, isD_n, if_true, if_false, ite_true, ite_false, reduceIte, mdF h, e119 h ht o1 (by omega), q, e123 h ht o']
  · have n1 : ¬ nI j = -6 := nI_n6 (by omega)
    have p := fun K => e116 (K := K) h ht (show j < 52 by omega)
    have p2 : gt (ks μ) t (4 + 3 * j) = at_ (vC (ks μ) t) n (nI j) := (at_nI (f := vC (ks μ) t) j1 (by omega)).symm
    simp only [x124_0, x124_1, x124_2, x124_3, x124_6, x124_7, x124_8, x124_10, x124_13, x124_14, x124_15, x124_18, x124_21, x124_22, x124_23, x124_24, x124_27, pushO, List.length_cons, List.length_nil, Nat.reduceAdd, Nat.reduceLeDiff, Nat.le_refl, Nat.zero_le, isD_i, isD_r, isD_l, isD_n, if_true, if_false, ite_true, ite_false, reduceIte, mdF h, e119 h ht o1 (by omega), q, n1, p, p2]
theorem at_n6 {f : Nat → Int32} {t : Nat} : at_ f t (-6) = 0 := if_pos (by decide +kernel)
theorem e125 {t n N S : Nat} {y : Int32} {K : Option Value → Hp → Prop} {m : Nat} {μ : ModM} {σ : Hp} (h : modAt m μ σ) (ht : t < 2) (o : rvOK (ks μ) t n N S) : X 125 0 [.ref m, .int (nI t), .int y, .null] [] σ K = K (some (.int (leastAtR (vC (ks μ) t) (vE (ks μ) t) n (seatOfR (vG (ks μ) t) n y)))) σ := by
  have o' := o
  obtain ⟨o1, o2, o3, o4, o5, o6, o7, o8⟩ := o
  unfold leastAtR
  rcases seatR_cases (g := vG (ks μ) t) (t := n) (x := y) with ⟨_, q⟩ | ⟨j, j1, _, _, q⟩
  · have z : (0 : Int32) - 0 = 0 := by decide +kernel
    simp only [x125_0, x125_1, x125_2, x125_3, x125_6, x125_7, x125_8, x125_10, x125_13, x125_14, x125_17, x125_18, x125_19, x125_20, x125_23, x125_24, x125_25, x125_26, x125_29, x125_30, pushO, List.length_cons, List.length_nil, Nat.reduceAdd, Nat.reduceLeDiff, Nat.le_refl, Nat.zero_le, isD_i, isD_r, isD_l, isD_n, if_true, if_false, ite_true, ite_false, reduceIte, mdF h, e119 h ht o1 (by omega), q, at_n6, z]
  · have n1 : ¬ nI j = -6 := nI_n6 (by omega)
    have p := fun K => e116 (K := K) h ht (show j < 52 by omega)
    have p2 : gt (ks μ) t (4 + 3 * j) = at_ (vC (ks μ) t) n (nI j) := (at_nI (f := vC (ks μ) t) j1 (by omega)).symm
    have r := fun K => e117 (K := K) h ht (show j < 51 by omega)
    have r2 : gt (ks μ) t (5 + 3 * j) = at_ (vE (ks μ) t) n (nI j) := (at_nI (f := vE (ks μ) t) j1 (by omega)).symm
    simp only [x125_0, x125_1, x125_2, x125_3, x125_6, x125_7, x125_8, x125_10, x125_13, x125_14, x125_17, x125_18, x125_19, x125_20, x125_23, x125_24, x125_25, x125_26, x125_29, x125_30, pushO, List.length_cons, List.length_nil, Nat.reduceAdd, Nat.reduceLeDiff, Nat.le_refl, Nat.zero_le, isD_i, isD_r, isD_l, isD_n, if_true, if_false, ite_true, ite_false, reduceIte, mdF h, e119 h ht o1 (by omega), q, n1, p, p2, r, r2]
theorem e127 {t n : Nat} {y : Int32} {K : Option Value → Hp → Prop} {m : Nat} {μ : ModM} {σ : Hp} (h : modAt m μ σ) (ht : t < 2) (hn : gt (ks μ) t 39 = nI n) (hb : n ≤ 60) : X 127 0 [.ref m, .int (nI t), .int y, .null] [] σ K = K (some (.int (at_ (vD (ks μ) t) n (seatOfR (vH (ks μ) t) n y)))) σ := by
  rcases seatR_cases (g := vH (ks μ) t) (t := n) (x := y) with ⟨_, q⟩ | ⟨j, j1, _, _, q⟩
  · simp only [x127_0, x127_1, x127_2, x127_3, x127_6, x127_7, x127_8, x127_10, x127_13, x127_14, x127_17, x127_18, x127_19, x127_21, x127_22, x127_23, x127_24, x127_25, x127_26, x127_27, x127_30, pushO, List.length_cons, List.length_nil, Nat.reduceAdd, Nat.reduceLeDiff, Nat.le_refl, Nat.zero_le, isD_i, isD_r, isD_l, isD_n, if_true, if_false, ite_true, ite_false, reduceIte, mdF h, e126 h ht hn hb, q, at_n6]
  · have n1 : ¬ nI j = -6 := nI_n6 (by omega)
    have p := fun K => e113 (K := K) h ht (show 41 + 2 * j < 160 by omega)
    have p2 : gt (ks μ) t (41 + 2 * j) = at_ (vD (ks μ) t) n (nI j) := (at_nI (f := vD (ks μ) t) j1 (by omega)).symm
    simp only [x127_0, x127_1, x127_2, x127_3, x127_6, x127_7, x127_8, x127_10, x127_13, x127_14, x127_17, x127_18, x127_19, x127_21, x127_22, x127_23, x127_24, x127_25, x127_26, x127_27, x127_30, pushO, List.length_cons, List.length_nil, Nat.reduceAdd, Nat.reduceLeDiff, Nat.le_refl, Nat.zero_le, isD_i, isD_r, isD_l, isD_n, if_true, if_false, ite_true, ite_false, reduceIte, mdF h, e126 h ht hn hb, q, n1, ix40, ix41, p, p2]
theorem e129 {t n N S : Nat} {y : Int32} {K : Option Value → Hp → Prop} {m : Nat} {μ : ModM} {σ : Hp} (h : modAt m μ σ) (ht : t < 2) (o : rvOK (ks μ) t n N S) : X 129 0 [.ref m, .int (nI t), .int y, .null] [] σ K = K (some (.int (seatForR (vG (ks μ) t) (vC (ks μ) t) (vE (ks μ) t) S n y))) σ := by
  have o' := o
  obtain ⟨o1, o2, o3, o4, o5, o6, o7, o8⟩ := o
  have q1 := fun K => e113 (K := K) h ht (show 1 < 160 by omega)
  rw [← L1] at q1
  unfold seatForR
  rcases seatR_cases (g := vG (ks μ) t) (t := n) (x := y) with ⟨_, q⟩ | ⟨j, j1, _, _, q⟩
  · by_cases h1 : n = S
    · subst h1
      have d1 : ∀ K, X 122 0 [.ref m, .int (nI t)] [] σ K = K (some (.int 1)) σ := fun K => by
        rw [e122 h ht o1 (by omega) o5 o4, decide_eq_true rfl]
        rfl
      simp only [x129_0, x129_1, x129_2, x129_3, x129_6, x129_7, x129_8, x129_10, x129_13, x129_14, x129_17, x129_18, x129_19, x129_22, x129_25, x129_26, x129_27, x129_30, x129_33, x129_34, x129_35, x129_36, x129_39, pushO, List.length_cons, List.length_nil, Nat.reduceAdd, Nat.reduceLeDiff, Nat.le_refl, Nat.zero_le, isD_i, isD_r, isD_l, isD_n, if_true, if_false, ite_true, ite_false, reduceIte, mdF h, e119 h ht o1 (by omega), q, d1, i1_ne, e120 h ht o1 (by omega), wk_ftg o8, Nat.lt_irrefl]
    · have d1 : decide (n = S) = false := decide_eq_false h1
      have h2 : n < S := by omega
      simp only [x129_0, x129_1, x129_2, x129_3, x129_6, x129_7, x129_8, x129_10, x129_13, x129_14, x129_17, x129_18, x129_19, x129_22, x129_25, x129_26, x129_27, x129_30, x129_33, x129_34, x129_35, x129_36, x129_39, pushO, List.length_cons, List.length_nil, Nat.reduceAdd, Nat.reduceLeDiff, Nat.le_refl, Nat.zero_le, isD_i, isD_r, isD_l, isD_n, if_true, if_false, ite_true, ite_false, reduceIte, mdF h, e119 h ht o1 (by omega), q, e122 h ht o1 (by omega) o5 o4, d1, bI_f, q1, o1, h2]
  · have n1 : ¬ nI j = -6 := nI_n6 (by omega)
    simp only [x129_0, x129_1, x129_2, x129_3, x129_6, x129_7, x129_8, x129_10, x129_13, x129_14, x129_17, x129_18, x129_19, x129_22, x129_25, x129_26, x129_27, x129_30, x129_33, x129_34, x129_35, x129_36, x129_39, pushO, List.length_cons, List.length_nil, Nat.reduceAdd, Nat.reduceLeDiff, Nat.le_refl, Nat.zero_le, isD_i, isD_r, isD_l, isD_n, if_true, if_false, ite_true, ite_false, reduceIte, mdF h, e119 h ht o1 (by omega), q, n1]
