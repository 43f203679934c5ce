/-! what the methods of a row of seats do -/
theorem lt24 {i : Int32} {t : Nat} (hn : ¬ i < 0) (ht : t ≤ 24) (h : i < nI t) : i < 24 := by
  rw [lt_clamp hn (by omega)] at h
  rw [show (24 : Int32) = nI 24 by decide +kernel, lt_clamp hn (by omega)]
  omega
theorem inB24 {i : Int32} {t : Nat} (hn : ¬ i < 0) (ht : t ≤ 24) (h : i < nI t) : inB i 24 = true := by
  rw [lt_clamp hn (by omega)] at h
  exact decide_eq_true (fun q => q.elim hn (fun q => by omega))
theorem e21 {i : Int32} {r : Nat} {g c e : Nat → Int32} {s t : Nat} {σ : Hp} {K : Option Value → Hp → Prop} (h : rowAt r (g, c, e, s, t) σ) (ht : t ≤ 24) : X 21 0 [.ref r, .int i] [] σ K = K (some (.int (bI (in_ t i)))) σ := by
  unfold in_
  by_cases h1 : i < 0
  · simp only [x21_0, x21_1, x21_4, x21_5, x21_6, x21_9, x21_12, x21_13, x21_14, x21_17, x21_18, x21_21, x21_22, x21_25, x21_26, pushO, List.length_cons, List.length_nil, Nat.reduceAdd, Nat.reduceLeDiff, Nat.le_refl, Nat.zero_le, isD_i, isD_r, isD_l, isD_n, if_true, if_false, ite_true, ite_false, reduceIte, rowS h, h1, ok_0, bI_f]
  · by_cases h2 : i < nI t
    · have h3 := lt24 h1 ht h2
      simp only [x21_0, x21_1, x21_4, x21_5, x21_6, x21_9, x21_12, x21_13, x21_14, x21_17, x21_18, x21_21, x21_22, x21_25, x21_26, pushO, List.length_cons, List.length_nil, Nat.reduceAdd, Nat.reduceLeDiff, Nat.le_refl, Nat.zero_le, isD_i, isD_r, isD_l, isD_n, if_true, if_false, ite_true, ite_false, reduceIte, rowS h, h1, h2, h3, ok_1, decide_true, bI_t]
    · simp only [x21_0, x21_1, x21_4, x21_5, x21_6, x21_9, x21_12, x21_13, x21_14, x21_17, x21_18, x21_21, x21_22, x21_25, x21_26, pushO, List.length_cons, List.length_nil, Nat.reduceAdd, Nat.reduceLeDiff, Nat.le_refl, Nat.zero_le, isD_i, isD_r, isD_l, isD_n, if_true, if_false, ite_true, ite_false, reduceIte, rowS h, h1, h2, ok_0, decide_false, bI_f]
theorem e22 {i : Int32} {r : Nat} {g c e : Nat → Int32} {s t : Nat} {σ : Hp} {K : Option Value → Hp → Prop} (h : rowAt r (g, c, e, s, t) σ) (ht : t ≤ 24) : X 22 0 [.ref r, .int i] [] σ K = K (some (.int (at_ g t i))) σ := by
  unfold at_
  by_cases h1 : i < 0
  · simp only [x22_0, x22_1, x22_4, x22_5, x22_6, x22_9, x22_12, x22_13, x22_14, x22_17, x22_18, x22_21, x22_22, x22_25, x22_26, x22_27, x22_30, x22_31, pushO, List.length_cons, List.length_nil, Nat.reduceAdd, Nat.reduceLeDiff, Nat.le_refl, Nat.zero_le, isD_i, isD_r, isD_l, isD_n, if_true, if_false, ite_true, ite_false, reduceIte, rowS h, h1]
  · by_cases h2 : i < nI t
    · have h3 := lt24 h1 ht h2
      have h4 := inB24 h1 ht h2
      simp only [x22_0, x22_1, x22_4, x22_5, x22_6, x22_9, x22_12, x22_13, x22_14, x22_17, x22_18, x22_21, x22_22, x22_25, x22_26, x22_27, x22_30, x22_31, pushO, List.length_cons, List.length_nil, Nat.reduceAdd, Nat.reduceLeDiff, Nat.le_refl, Nat.zero_le, isD_i, isD_r, isD_l, isD_n, if_true, if_false, ite_true, ite_false, reduceIte, rowS h, h1, h2, h3, h4]
    · simp only [x22_0, x22_1, x22_4, x22_5, x22_6, x22_9, x22_12, x22_13, x22_14, x22_17, x22_18, x22_21, x22_22, x22_25, x22_26, x22_27, x22_30, x22_31, pushO, List.length_cons, List.length_nil, Nat.reduceAdd, Nat.reduceLeDiff, Nat.le_refl, Nat.zero_le, isD_i, isD_r, isD_l, isD_n, if_true, if_false, ite_true, ite_false, reduceIte, rowS h, h1, h2]
theorem e23 {i : Int32} {r : Nat} {g c e : Nat → Int32} {s t : Nat} {σ : Hp} {K : Option Value → Hp → Prop} (h : rowAt r (g, c, e, s, t) σ) (ht : t ≤ 24) : X 23 0 [.ref r, .int i] [] σ K = K (some (.int (at_ c t i))) σ := by
  unfold at_
  by_cases h1 : i < 0
  · simp only [x23_0, x23_1, x23_4, x23_5, x23_6, x23_9, x23_12, x23_13, x23_14, x23_17, x23_18, x23_21, x23_22, x23_25, x23_26, x23_27, x23_30, x23_31, pushO, List.length_cons, List.length_nil, Nat.reduceAdd, Nat.reduceLeDiff, Nat.le_refl, Nat.zero_le, isD_i, isD_r, isD_l, isD_n, if_true, if_false, ite_true, ite_false, reduceIte, rowS h, h1]
  · by_cases h2 : i < nI t
    · have h3 := lt24 h1 ht h2
      have h4 := inB24 h1 ht h2
      simp only [x23_0, x23_1, x23_4, x23_5, x23_6, x23_9, x23_12, x23_13, x23_14, x23_17, x23_18, x23_21, x23_22, x23_25, x23_26, x23_27, x23_30, x23_31, pushO, List.length_cons, List.length_nil, Nat.reduceAdd, Nat.reduceLeDiff, Nat.le_refl, Nat.zero_le, isD_i, isD_r, isD_l, isD_n, if_true, if_false, ite_true, ite_false, reduceIte, rowS h, h1, h2, h3, h4]
    · simp only [x23_0, x23_1, x23_4, x23_5, x23_6, x23_9, x23_12, x23_13, x23_14, x23_17, x23_18, x23_21, x23_22, x23_25, x23_26, x23_27, x23_30, x23_31, pushO, List.length_cons, List.length_nil, Nat.reduceAdd, Nat.reduceLeDiff, Nat.le_refl, Nat.zero_le, isD_i, isD_r, isD_l, isD_n, if_true, if_false, ite_true, ite_false, reduceIte, rowS h, h1, h2]
theorem e24 {i : Int32} {r : Nat} {g c e : Nat → Int32} {s t : Nat} {σ : Hp} {K : Option Value → Hp → Prop} (h : rowAt r (g, c, e, s, t) σ) (ht : t ≤ 24) : X 24 0 [.ref r, .int i] [] σ K = K (some (.int (at_ e t i))) σ := by
  unfold at_
  by_cases h1 : i < 0
  · simp only [x24_0, x24_1, x24_4, x24_5, x24_6, x24_9, x24_12, x24_13, x24_14, x24_17, x24_18, x24_21, x24_22, x24_25, x24_26, x24_27, x24_30, x24_31, pushO, List.length_cons, List.length_nil, Nat.reduceAdd, Nat.reduceLeDiff, Nat.le_refl, Nat.zero_le, isD_i, isD_r, isD_l, isD_n, if_true, if_false, ite_true, ite_false, reduceIte, rowS h, h1]
  · by_cases h2 : i < nI t
    · have h3 := lt24 h1 ht h2
      have h4 := inB24 h1 ht h2
      simp only [x24_0, x24_1, x24_4, x24_5, x24_6, x24_9, x24_12, x24_13, x24_14, x24_17, x24_18, x24_21, x24_22, x24_25, x24_26, x24_27, x24_30, x24_31, pushO, List.length_cons, List.length_nil, Nat.reduceAdd, Nat.reduceLeDiff, Nat.le_refl, Nat.zero_le, isD_i, isD_r, isD_l, isD_n, if_true, if_false, ite_true, ite_false, reduceIte, rowS h, h1, h2, h3, h4]
    · simp only [x24_0, x24_1, x24_4, x24_5, x24_6, x24_9, x24_12, x24_13, x24_14, x24_17, x24_18, x24_21, x24_22, x24_25, x24_26, x24_27, x24_30, x24_31, pushO, List.length_cons, List.length_nil, Nat.reduceAdd, Nat.reduceLeDiff, Nat.le_refl, Nat.zero_le, isD_i, isD_r, isD_l, isD_n, if_true, if_false, ite_true, ite_false, reduceIte, rowS h, h1, h2]
theorem l25 {x : Int32} {r : Nat} {g c e : Nat → Int32} {s t : Nat} {σ : Hp} {K : Option Value → Hp → Prop} (h : rowAt r (g, c, e, s, t) σ) (ht : t ≤ 24) : ∀ n k, k + n = t → X 25 2 [.ref r, .int x, .int (nI k)] [] σ K = K (some (.int (fnd (fun k => decide (g k = x)) n k))) σ := by
  intro n
  induction n with
  | zero =>
    intro k hk
    have h1 : ¬ nI k < nI t := nI_nlt (by omega) (by omega)
    rw [x25_2]
    simp only [x25_0, x25_1, x25_3, x25_4, x25_7, x25_10, x25_11, x25_12, x25_15, x25_16, x25_19, x25_20, x25_21, x25_24, x25_27, x25_29, pushO, List.length_cons, List.length_nil, Nat.reduceAdd, Nat.reduceLeDiff, Nat.le_refl, Nat.zero_le, isD_i, isD_r, isD_l, isD_n, if_true, if_false, ite_true, ite_false, reduceIte, rowS h, h1, fnd]
  | succ n ih =>
    intro k hk
    have h1 : nI k < nI t := nI_lt (by omega) (by omega)
    rw [x25_2]
    simp only [x25_0, x25_1, x25_3, x25_4, x25_7, x25_10, x25_11, x25_12, x25_15, x25_16, x25_19, x25_20, x25_21, x25_24, x25_27, x25_29, pushO, List.length_cons, List.length_nil, Nat.reduceAdd, Nat.reduceLeDiff, Nat.le_refl, Nat.zero_le, isD_i, isD_r, isD_l, isD_n, if_true, if_false, ite_true, ite_false, reduceIte, rowS h, h1, e22 h ht, at_nI (f := g) (show k < t by omega) (by omega), fnd, decide_eq_true_eq, ← nI_succ, ih (k + 1) (by omega)]
    by_cases h2 : g k = x
    · simp only [h2, if_true]
    · simp only [h2, if_false]
def seatOfR (g : Nat → Int32) (t : Nat) (x : Int32) : Int32 := fnd (fun k => decide (g k = x)) t 0
theorem e25 {x : Int32} {r : Nat} {g c e : Nat → Int32} {s t : Nat} {σ : Hp} {K : Option Value → Hp → Prop} (h : rowAt r (g, c, e, s, t) σ) (ht : t ≤ 24) : X 25 0 [.ref r, .int x, .null] [] σ K = K (some (.int (seatOfR g t x))) σ := by
  simp only [x25_0, x25_1, pushO, List.length_cons, List.length_nil, Nat.reduceAdd, Nat.reduceLeDiff, Nat.le_refl, Nat.zero_le, isD_i, isD_r, isD_l, isD_n, if_true, if_false, ite_true, ite_false, reduceIte]
  exact l25 h ht t 0 (by omega)
theorem ite_K {p : Prop} {_ : Decidable p} {K : Option Value → Hp → Prop} {a b : Int32} {σ : Hp} : (if p then K (some (.int a)) σ else K (some (.int b)) σ) = K (some (.int (if p then a else b))) σ := by
  by_cases hp : p
  · rw [if_pos hp, if_pos hp]
  · rw [if_neg hp, if_neg hp]
theorem l29 {a : Int32} {r : Nat} {g c e : Nat → Int32} {s t : Nat} {σ : Hp} {K : Option Value → Hp → Prop} (h : rowAt r (g, c, e, s, t) σ) (ht : t ≤ 24) : ∀ n k, t - k = n → k ≤ t + 1 → ∀ a : Int32, X 29 21 [.ref r, .int a, .int (nI k)] [] σ K = K (some (.int (fold (fun a k => if c k < a then c k else a) n k a))) σ := by
  intro n
  induction n with
  | zero =>
    intro k hk hk2 a
    have h1 : ¬ nI k < nI t := nI_nlt (by omega) (by omega)
    rw [x29_21]
    simp only [x29_0, x29_1, x29_4, x29_5, x29_8, x29_11, x29_12, x29_13, x29_14, x29_15, x29_18, x29_19, x29_20, x29_22, x29_23, x29_26, x29_29, x29_30, x29_31, x29_32, x29_35, x29_38, x29_39, x29_42, x29_45, x29_46, pushO, List.length_cons, List.length_nil, Nat.reduceAdd, Nat.reduceLeDiff, Nat.le_refl, Nat.zero_le, isD_i, isD_r, isD_l, isD_n, if_true, if_false, ite_true, ite_false, reduceIte, rowS h, h1, fold]
  | succ n ih =>
    intro k hk hk2 a
    have h1 : nI k < nI t := nI_lt (by omega) (by omega)
    rw [x29_21]
    simp only [x29_0, x29_1, x29_4, x29_5, x29_8, x29_11, x29_12, x29_13, x29_14, x29_15, x29_18, x29_19, x29_20, x29_22, x29_23, x29_26, x29_29, x29_30, x29_31, x29_32, x29_35, x29_38, x29_39, x29_42, x29_45, x29_46, pushO, List.length_cons, List.length_nil, Nat.reduceAdd, Nat.reduceLeDiff, Nat.le_refl, Nat.zero_le, isD_i, isD_r, isD_l, isD_n, if_true, if_false, ite_true, ite_false, reduceIte, rowS h, h1, e23 h ht, at_nI (f := c) (show k < t by omega) (by omega), fold, ← nI_succ, ih (k + 1) (by omega) (by omega)]
def mwsR (c : Nat → Int32) (s t : Nat) : Int32 := if t < s then 0 else fold (fun a k => if c k < a then c k else a) (t - 1) 1 (at_ c t 0)
theorem e29 {r : Nat} {g c e : Nat → Int32} {s t : Nat} {σ : Hp} {K : Option Value → Hp → Prop} (h : rowAt r (g, c, e, s, t) σ) (ht : t ≤ 24) (hs : s ≤ 24) : X 29 0 [.ref r, .null, .null] [] σ K = K (some (.int (mwsR c s t))) σ := by
  unfold mwsR
  simp only [x29_0, x29_1, x29_4, x29_5, x29_8, x29_11, x29_12, x29_13, x29_14, x29_15, x29_18, x29_19, x29_20, x29_22, x29_23, x29_26, x29_29, x29_30, x29_31, x29_32, x29_35, x29_38, x29_39, x29_42, x29_45, x29_46, pushO, List.length_cons, List.length_nil, Nat.reduceAdd, Nat.reduceLeDiff, Nat.le_refl, Nat.zero_le, isD_i, isD_r, isD_l, isD_n, if_true, if_false, ite_true, ite_false, reduceIte, rowS h, nI_lt_iff (show t < 2 ^ 31 by omega) (show s < 2 ^ 31 by omega), e23 h ht]
  by_cases h1 : t < s
  · simp only [h1, if_true]
  · simp only [h1, if_false]
    exact l29 (a := 0) h ht (t - 1) 1 rfl (by omega) _
def mostR (g c : Nat → Int32) (s t : Nat) (x : Int32) : Int32 := if seatOfR g t x = -6 then mwsR c s t else at_ c t (seatOfR g t x)
theorem e26 {x : Int32} {r : Nat} {g c e : Nat → Int32} {s t : Nat} {σ : Hp} {K : Option Value → Hp → Prop} (h : rowAt r (g, c, e, s, t) σ) (ht : t ≤ 24) (hs : s ≤ 24) : X 26 0 [.ref r, .int x, .null] [] σ K = K (some (.int (mostR g c s t x))) σ := by
  simp only [x26_0, x26_1, x26_2, x26_5, x26_6, x26_7, x26_9, x26_12, x26_13, x26_16, x26_19, x26_20, x26_21, x26_24, pushO, List.length_cons, List.length_nil, Nat.reduceAdd, Nat.reduceLeDiff, Nat.le_refl, Nat.zero_le, isD_i, isD_r, isD_l, isD_n, if_true, if_false, ite_true, ite_false, reduceIte, e25 h ht, rowS h, e29 h ht hs, e23 h ht, ite_K, mostR]
def leastAtR (c e : Nat → Int32) (t : Nat) (i : Int32) : Int32 := at_ c t i - at_ e t i
theorem e28 {i : Int32} {r : Nat} {g c e : Nat → Int32} {s t : Nat} {σ : Hp} {K : Option Value → Hp → Prop} (h : rowAt r (g, c, e, s, t) σ) (ht : t ≤ 24) : X 28 0 [.ref r, .int i] [] σ K = K (some (.int (leastAtR c e t i))) σ := by
  simp only [x28_0, x28_1, x28_2, x28_5, x28_6, x28_7, x28_10, x28_11, pushO, List.length_cons, List.length_nil, Nat.reduceAdd, Nat.reduceLeDiff, Nat.le_refl, Nat.zero_le, isD_i, isD_r, isD_l, isD_n, if_true, if_false, ite_true, ite_false, reduceIte, e23 h ht, e24 h ht, rowS h, leastAtR]
theorem e27 {x : Int32} {r : Nat} {g c e : Nat → Int32} {s t : Nat} {σ : Hp} {K : Option Value → Hp → Prop} (h : rowAt r (g, c, e, s, t) σ) (ht : t ≤ 24) : X 27 0 [.ref r, .int x] [] σ K = K (some (.int (leastAtR c e t (seatOfR g t x)))) σ := by
  simp only [x27_0, x27_1, x27_2, x27_3, x27_6, x27_9, pushO, List.length_cons, List.length_nil, Nat.reduceAdd, Nat.reduceLeDiff, Nat.le_refl, Nat.zero_le, isD_i, isD_r, isD_l, isD_n, if_true, if_false, ite_true, ite_false, reduceIte, e25 h ht, e28 h ht, rowS h]
theorem l30 {r : Nat} {g c e : Nat → Int32} {s t : Nat} {σ : Hp} {K : Option Value → Hp → Prop} (h : rowAt r (g, c, e, s, t) σ) (ht : t ≤ 24) : ∀ n k, t - k = n → k ≤ t → ∀ a : Int32, X 30 4 [.ref r, .int a, .int (nI k)] [] σ K = K (some (.int (fold (fun a k => a + c k) n k a))) σ := by
  intro n
  induction n with
  | zero =>
    intro k hk hk2 a
    have h1 : ¬ nI k < nI t := nI_nlt (by omega) (by omega)
    rw [x30_4]
    simp only [x30_0, x30_1, x30_2, x30_3, x30_5, x30_6, x30_9, x30_12, x30_13, x30_14, x30_15, x30_18, x30_19, x30_20, x30_23, x30_26, x30_27, pushO, List.length_cons, List.length_nil, Nat.reduceAdd, Nat.reduceLeDiff, Nat.le_refl, Nat.zero_le, isD_i, isD_r, isD_l, isD_n, if_true, if_false, ite_true, ite_false, reduceIte, rowS h, h1, fold]
  | succ n ih =>
    intro k hk hk2 a
    have h1 : nI k < nI t := nI_lt (by omega) (by omega)
    rw [x30_4]
    simp only [x30_0, x30_1, x30_2, x30_3, x30_5, x30_6, x30_9, x30_12, x30_13, x30_14, x30_15, x30_18, x30_19, x30_20, x30_23, x30_26, x30_27, pushO, List.length_cons, List.length_nil, Nat.reduceAdd, Nat.reduceLeDiff, Nat.le_refl, Nat.zero_le, isD_i, isD_r, isD_l, isD_n, if_true, if_false, ite_true, ite_false, reduceIte, rowS h, h1, e23 h ht, at_nI (f := c) (show k < t by omega) (by omega), fold, ← nI_succ, ih (k + 1) (by omega) (by omega)]
theorem e30 {r : Nat} {g c e : Nat → Int32} {s t : Nat} {σ : Hp} {K : Option Value → Hp → Prop} (h : rowAt r (g, c, e, s, t) σ) (ht : t ≤ 24) : X 30 0 [.ref r, .null, .null] [] σ K = K (some (.int (fold (fun a k => a + c k) t 0 0))) σ := by
  simp only [x30_0, x30_1, x30_2, x30_3, pushO, List.length_cons, List.length_nil, Nat.reduceAdd, Nat.reduceLeDiff, Nat.le_refl, Nat.zero_le, isD_i, isD_r, isD_l, isD_n, if_true, if_false, ite_true, ite_false, reduceIte]
  exact l30 h ht t 0 rfl (by omega) 0
theorem l31 {r : Nat} {g c e : Nat → Int32} {s t : Nat} {σ : Hp} {K : Option Value → Hp → Prop} (h : rowAt r (g, c, e, s, t) σ) (ht : t ≤ 24) : ∀ n k, t - k = n → k ≤ t → ∀ a : Int32, X 31 4 [.ref r, .int a, .int (nI k)] [] σ K = K (some (.int (fold (fun a k => if a < e k then e k else a) n k a))) σ := by
  intro n
  induction n with
  | zero =>
    intro k hk hk2 a
    have h1 : ¬ nI k < nI t := nI_nlt (by omega) (by omega)
    rw [x31_4]
    simp only [x31_0, x31_1, x31_2, x31_3, x31_5, x31_6, x31_9, x31_12, x31_13, x31_14, x31_15, x31_18, x31_21, x31_22, x31_25, x31_28, x31_29, pushO, List.length_cons, List.length_nil, Nat.reduceAdd, Nat.reduceLeDiff, Nat.le_refl, Nat.zero_le, isD_i, isD_r, isD_l, isD_n, if_true, if_false, ite_true, ite_false, reduceIte, rowS h, h1, fold]
  | succ n ih =>
    intro k hk hk2 a
    have h1 : nI k < nI t := nI_lt (by omega) (by omega)
    rw [x31_4]
    simp only [x31_0, x31_1, x31_2, x31_3, x31_5, x31_6, x31_9, x31_12, x31_13, x31_14, x31_15, x31_18, x31_21, x31_22, x31_25, x31_28, x31_29, pushO, List.length_cons, List.length_nil, Nat.reduceAdd, Nat.reduceLeDiff, Nat.le_refl, Nat.zero_le, isD_i, isD_r, isD_l, isD_n, if_true, if_false, ite_true, ite_false, reduceIte, rowS h, h1, e24 h ht, at_nI (f := e) (show k < t by omega) (by omega), fold, ← nI_succ, ih (k + 1) (by omega) (by omega)]
theorem e31 {r : Nat} {g c e : Nat → Int32} {s t : Nat} {σ : Hp} {K : Option Value → Hp → Prop} (h : rowAt r (g, c, e, s, t) σ) (ht : t ≤ 24) : X 31 0 [.ref r, .null, .null] [] σ K = K (some (.int (fold (fun a k => if a < e k then e k else a) t 0 0))) σ := by
  simp only [x31_0, x31_1, x31_2, x31_3, pushO, List.length_cons, List.length_nil, Nat.reduceAdd, Nat.reduceLeDiff, Nat.le_refl, Nat.zero_le, isD_i, isD_r, isD_l, isD_n, if_true, if_false, ite_true, ite_false, reduceIte]
  exact l31 h ht t 0 rfl (by omega) 0
theorem least_nI {c e : Nat → Int32} {t k : Nat} (h : k < t) (ht : t < 2 ^ 31) : leastAtR c e t (nI k) = c k - e k := by unfold leastAtR; rw [at_nI h ht, at_nI h ht]
theorem l32 {x : Int32} {r : Nat} {g c e : Nat → Int32} {s t : Nat} {σ : Hp} {K : Option Value → Hp → Prop} (h : rowAt r (g, c, e, s, t) σ) (ht : t ≤ 24) : ∀ n k, t - k = n → k ≤ t → ∀ a : Nat, X 32 4 [.ref r, .int x, .int (nI a), .int (nI k)] [] σ K = K (some (.int (nI (fold (fun a k => if x < 100 * (c k - e k) then a + 1 else a) n k a)))) σ := by
  intro n
  induction n with
  | zero =>
    intro k hk hk2 a
    have h1 : ¬ nI k < nI t := nI_nlt (by omega) (by omega)
    rw [x32_4]
    simp only [x32_0, x32_1, x32_2, x32_3, x32_5, x32_6, x32_9, x32_12, x32_14, x32_15, x32_16, x32_19, x32_20, x32_21, x32_24, x32_27, x32_30, x32_33, x32_34, pushO, List.length_cons, List.length_nil, Nat.reduceAdd, Nat.reduceLeDiff, Nat.le_refl, Nat.zero_le, isD_i, isD_r, isD_l, isD_n, if_true, if_false, ite_true, ite_false, reduceIte, rowS h, h1, fold]
  | succ n ih =>
    intro k hk hk2 a
    have h1 : nI k < nI t := nI_lt (by omega) (by omega)
    rw [x32_4]
    simp only [x32_0, x32_1, x32_2, x32_3, x32_5, x32_6, x32_9, x32_12, x32_14, x32_15, x32_16, x32_19, x32_20, x32_21, x32_24, x32_27, x32_30, x32_33, x32_34, pushO, List.length_cons, List.length_nil, Nat.reduceAdd, Nat.reduceLeDiff, Nat.le_refl, Nat.zero_le, isD_i, isD_r, isD_l, isD_n, if_true, if_false, ite_true, ite_false, reduceIte, rowS h, h1, e28 h ht, least_nI (c := c) (e := e) (show k < t by omega) (by omega), fold, ← nI_succ, ih (k + 1) (by omega) (by omega)]
    by_cases h2 : x < 100 * (c k - e k)
    · simp only [h2, if_true]
    · simp only [h2, if_false]
theorem e32 {x : Int32} {r : Nat} {g c e : Nat → Int32} {s t : Nat} {σ : Hp} {K : Option Value → Hp → Prop} (h : rowAt r (g, c, e, s, t) σ) (ht : t ≤ 24) : X 32 0 [.ref r, .int x, .null, .null] [] σ K = K (some (.int (nI (fold (fun a k => if x < 100 * (c k - e k) then a + 1 else a) t 0 0)))) σ := by
  simp only [x32_0, x32_1, x32_2, x32_3, pushO, List.length_cons, List.length_nil, Nat.reduceAdd, Nat.reduceLeDiff, Nat.le_refl, Nat.zero_le, isD_i, isD_r, isD_l, isD_n, if_true, if_false, ite_true, ite_false, reduceIte]
  exact l32 h ht t 0 rfl (by omega) 0
theorem l33 {x : Int32} {r : Nat} {g c e : Nat → Int32} {s t : Nat} {σ : Hp} {K : Option Value → Hp → Prop} (h : rowAt r (g, c, e, s, t) σ) (ht : t ≤ 24) : ∀ n k, t - k = n → k ≤ t → ∀ a : Nat, X 33 4 [.ref r, .int x, .int (nI a), .int (nI k)] [] σ K = K (some (.int (nI (fold (fun a k => if x < 100 * c k then a + 1 else a) n k a)))) σ := by
  intro n
  induction n with
  | zero =>
    intro k hk hk2 a
    have h1 : ¬ nI k < nI t := nI_nlt (by omega) (by omega)
    rw [x33_4]
    simp only [x33_0, x33_1, x33_2, x33_3, x33_5, x33_6, x33_9, x33_12, x33_14, x33_15, x33_16, x33_19, x33_20, x33_21, x33_24, x33_27, x33_30, x33_33, x33_34, pushO, List.length_cons, List.length_nil, Nat.reduceAdd, Nat.reduceLeDiff, Nat.le_refl, Nat.zero_le, isD_i, isD_r, isD_l, isD_n, if_true, if_false, ite_true, ite_false, reduceIte, rowS h, h1, fold]
  | succ n ih =>
    intro k hk hk2 a
    have h1 : nI k < nI t := nI_lt (by omega) (by omega)
    rw [x33_4]
    simp only [x33_0, x33_1, x33_2, x33_3, x33_5, x33_6, x33_9, x33_12, x33_14, x33_15, x33_16, x33_19, x33_20, x33_21, x33_24, x33_27, x33_30, x33_33, x33_34, pushO, List.length_cons, List.length_nil, Nat.reduceAdd, Nat.reduceLeDiff, Nat.le_refl, Nat.zero_le, isD_i, isD_r, isD_l, isD_n, if_true, if_false, ite_true, ite_false, reduceIte, rowS h, h1, e23 h ht, at_nI (f := c) (show k < t by omega) (by omega), fold, ← nI_succ, ih (k + 1) (by omega) (by omega)]
    by_cases h2 : x < 100 * c k
    · simp only [h2, if_true]
    · simp only [h2, if_false]
theorem e33 {x : Int32} {r : Nat} {g c e : Nat → Int32} {s t : Nat} {σ : Hp} {K : Option Value → Hp → Prop} (h : rowAt r (g, c, e, s, t) σ) (ht : t ≤ 24) : X 33 0 [.ref r, .int x, .null, .null] [] σ K = K (some (.int (nI (fold (fun a k => if x < 100 * c k then a + 1 else a) t 0 0)))) σ := by
  simp only [x33_0, x33_1, x33_2, x33_3, pushO, List.length_cons, List.length_nil, Nat.reduceAdd, Nat.reduceLeDiff, Nat.le_refl, Nat.zero_le, isD_i, isD_r, isD_l, isD_n, if_true, if_false, ite_true, ite_false, reduceIte]
  exact l33 h ht t 0 rfl (by omega) 0
def gbR (c e : Nat → Int32) (t : Nat) (i j : Int32) : Bool := if at_ c t i = at_ c t j then decide (at_ e t j < at_ e t i) else decide (at_ c t i < at_ c t j)
theorem e36 {i j : Int32} {r : Nat} {g c e : Nat → Int32} {s t : Nat} {σ : Hp} {K : Option Value → Hp → Prop} (h : rowAt r (g, c, e, s, t) σ) (ht : t ≤ 24) : X 36 0 [.ref r, .int i, .int j] [] σ K = K (some (.int (bI (gbR c e t i j)))) σ := by
  unfold gbR
  by_cases h1 : at_ c t i = at_ c t j
  · by_cases h2 : at_ e t j < at_ e t i
    · simp only [x36_0, x36_1, x36_2, x36_5, x36_6, x36_7, x36_10, x36_13, x36_14, x36_15, x36_18, x36_19, x36_20, x36_23, x36_26, x36_27, x36_30, x36_31, x36_32, x36_33, x36_34, x36_37, x36_38, x36_39, x36_42, x36_45, x36_46, x36_49, x36_50, pushO, List.length_cons, List.length_nil, Nat.reduceAdd, Nat.reduceLeDiff, Nat.le_refl, Nat.zero_le, isD_i, isD_r, isD_l, isD_n, if_true, if_false, ite_true, ite_false, reduceIte, rowS h, e23 h ht, e24 h ht, h1, h2, ok_1, decide_true, bI_t]
    · simp only [x36_0, x36_1, x36_2, x36_5, x36_6, x36_7, x36_10, x36_13, x36_14, x36_15, x36_18, x36_19, x36_20, x36_23, x36_26, x36_27, x36_30, x36_31, x36_32, x36_33, x36_34, x36_37, x36_38, x36_39, x36_42, x36_45, x36_46, x36_49, x36_50, pushO, List.length_cons, List.length_nil, Nat.reduceAdd, Nat.reduceLeDiff, Nat.le_refl, Nat.zero_le, isD_i, isD_r, isD_l, isD_n, if_true, if_false, ite_true, ite_false, reduceIte, rowS h, e23 h ht, e24 h ht, h1, h2, ok_0, decide_false, bI_f]
  · by_cases h2 : at_ c t i < at_ c t j
    · simp only [x36_0, x36_1, x36_2, x36_5, x36_6, x36_7, x36_10, x36_13, x36_14, x36_15, x36_18, x36_19, x36_20, x36_23, x36_26, x36_27, x36_30, x36_31, x36_32, x36_33, x36_34, x36_37, x36_38, x36_39, x36_42, x36_45, x36_46, x36_49, x36_50, pushO, List.length_cons, List.length_nil, Nat.reduceAdd, Nat.reduceLeDiff, Nat.le_refl, Nat.zero_le, isD_i, isD_r, isD_l, isD_n, if_true, if_false, ite_true, ite_false, reduceIte, rowS h, e23 h ht, e24 h ht, h1, h2, ok_1, decide_true, bI_t]
    · simp only [x36_0, x36_1, x36_2, x36_5, x36_6, x36_7, x36_10, x36_13, x36_14, x36_15, x36_18, x36_19, x36_20, x36_23, x36_26, x36_27, x36_30, x36_31, x36_32, x36_33, x36_34, x36_37, x36_38, x36_39, x36_42, x36_45, x36_46, x36_49, x36_50, pushO, List.length_cons, List.length_nil, Nat.reduceAdd, Nat.reduceLeDiff, Nat.le_refl, Nat.zero_le, isD_i, isD_r, isD_l, isD_n, if_true, if_false, ite_true, ite_false, reduceIte, rowS h, e23 h ht, e24 h ht, h1, h2, ok_0, decide_false, bI_f]
def gbN (c e : Nat → Int32) (i j : Nat) : Bool := if c i = c j then decide (e j < e i) else decide (c i < c j)
theorem gb_nI {c e : Nat → Int32} {t i j : Nat} (hi : i < t) (hj : j < t) (ht : t < 2 ^ 31) : gbR c e t (nI i) (nI j) = gbN c e i j := by unfold gbR gbN; rw [at_nI hi ht, at_nI hj ht, at_nI hi ht, at_nI hj ht]
theorem l35 {r : Nat} {g c e : Nat → Int32} {s t : Nat} {σ : Hp} {K : Option Value → Hp → Prop} (h : rowAt r (g, c, e, s, t) σ) (ht : t ≤ 24) : ∀ n k, t - k = n → k ≤ t + 1 → ∀ b : Nat, (0 < t → b < t) → X 35 4 [.ref r, .int (nI b), .int (nI k)] [] σ K = K (some (.int (nI (fold (fun b k => if gbN c e k b = true then k else b) n k b)))) σ := by
  intro n
  induction n with
  | zero =>
    intro k hk hk2 b hb
    have h1 : ¬ nI k < nI t := nI_nlt (by omega) (by omega)
    rw [x35_4]
    simp only [x35_0, x35_1, x35_2, x35_3, x35_5, x35_6, x35_9, x35_12, x35_13, x35_14, x35_15, x35_18, x35_21, x35_22, x35_23, x35_26, x35_29, x35_30, pushO, List.length_cons, List.length_nil, Nat.reduceAdd, Nat.reduceLeDiff, Nat.le_refl, Nat.zero_le, isD_i, isD_r, isD_l, isD_n, if_true, if_false, ite_true, ite_false, reduceIte, rowS h, h1, fold]
  | succ n ih =>
    intro k hk hk2 b hb
    have h1 : nI k < nI t := nI_lt (by omega) (by omega)
    rw [x35_4]
    simp only [x35_0, x35_1, x35_2, x35_3, x35_5, x35_6, x35_9, x35_12, x35_13, x35_14, x35_15, x35_18, x35_21, x35_22, x35_23, x35_26, x35_29, x35_30, pushO, List.length_cons, List.length_nil, Nat.reduceAdd, Nat.reduceLeDiff, Nat.le_refl, Nat.zero_le, isD_i, isD_r, isD_l, isD_n, if_true, if_false, ite_true, ite_false, reduceIte, rowS h, h1, e36 h ht, gb_nI (c := c) (e := e) (show k < t by omega) (hb (by omega)) (by omega), fold, ← nI_succ, bI_0]
    cases h2 : gbN c e k b
    · simp only [Bool.false_eq_true, if_false, if_true]
      exact ih (k + 1) (by omega) (by omega) b hb
    · simp only [Bool.true_eq_false, if_false, if_true]
      exact ih (k + 1) (by omega) (by omega) k (fun _ => by omega)
def ftgN (c e : Nat → Int32) (t : Nat) : Nat := fold (fun b k => if gbN c e k b = true then k else b) (t - 1) 1 0
theorem e35 {r : Nat} {g c e : Nat → Int32} {s t : Nat} {σ : Hp} {K : Option Value → Hp → Prop} (h : rowAt r (g, c, e, s, t) σ) (ht : t ≤ 24) : X 35 0 [.ref r, .null, .null] [] σ K = K (some (.int (nI (ftgN c e t)))) σ := by
  simp only [x35_0, x35_1, x35_2, x35_3, pushO, List.length_cons, List.length_nil, Nat.reduceAdd, Nat.reduceLeDiff, Nat.le_refl, Nat.zero_le, isD_i, isD_r, isD_l, isD_n, if_true, if_false, ite_true, ite_false, reduceIte]
  exact l35 h ht (t - 1) 1 rfl (by omega) 0 (fun h => h)
def seatForR (g c e : Nat → Int32) (s t : Nat) (x : Int32) : Int32 := if seatOfR g t x = -6 then (if t < s then nI t else nI (ftgN c e t)) else seatOfR g t x
theorem e34 {x : Int32} {r : Nat} {g c e : Nat → Int32} {s t : Nat} {σ : Hp} {K : Option Value → Hp → Prop} (h : rowAt r (g, c, e, s, t) σ) (ht : t ≤ 24) (hs : s ≤ 24) : X 34 0 [.ref r, .int x, .null] [] σ K = K (some (.int (seatForR g c e s t x))) σ := by
  simp only [x34_0, x34_1, x34_2, x34_5, x34_6, x34_7, x34_9, x34_12, x34_13, x34_14, x34_15, x34_18, x34_19, x34_22, x34_25, x34_26, x34_29, x34_32, x34_33, x34_36, pushO, List.length_cons, List.length_nil, Nat.reduceAdd, Nat.reduceLeDiff, Nat.le_refl, Nat.zero_le, isD_i, isD_r, isD_l, isD_n, if_true, if_false, ite_true, ite_false, reduceIte, e25 h ht, rowS h, e35 h ht, nI_lt_iff (show t < 2 ^ 31 by omega) (show s < 2 ^ 31 by omega), ite_K, seatForR]
def ihR (g c e : Nat → Int32) (t : Nat) (i j : Int32) : Bool := if at_ c t i = at_ c t j then (if at_ e t i = at_ e t j then decide (at_ g t i < at_ g t j) else decide (at_ e t i < at_ e t j)) else decide (at_ c t j < at_ c t i)
theorem e37 {i j : Int32} {r : Nat} {g c e : Nat → Int32} {s t : Nat} {σ : Hp} {K : Option Value → Hp → Prop} (h : rowAt r (g, c, e, s, t) σ) (ht : t ≤ 24) : X 37 0 [.ref r, .int i, .int j] [] σ K = K (some (.int (bI (ihR g c e t i j)))) σ := by
  unfold ihR
  by_cases h1 : at_ c t i = at_ c t j
  · by_cases h3 : at_ e t i = at_ e t j
    · by_cases h2 : at_ g t i < at_ g t j
      · simp only [x37_0, x37_1, x37_2, x37_5, x37_6, x37_7, x37_10, x37_13, x37_14, x37_15, x37_18, x37_19, x37_20, x37_23, x37_26, x37_27, x37_30, x37_31, x37_32, x37_33, x37_34, x37_37, x37_38, x37_39, x37_42, x37_45, x37_46, x37_47, x37_50, x37_51, x37_52, x37_55, x37_58, x37_59, x37_62, x37_63, x37_64, x37_65, x37_66, x37_69, x37_70, x37_71, x37_74, x37_77, x37_78, x37_81, x37_82, pushO, List.length_cons, List.length_nil, Nat.reduceAdd, Nat.reduceLeDiff, Nat.le_refl, Nat.zero_le, isD_i, isD_r, isD_l, isD_n, if_true, if_false, ite_true, ite_false, reduceIte, rowS h, e22 h ht, e23 h ht, e24 h ht, h1, h2, h3, ok_1, decide_true, bI_t]
      · simp only [x37_0, x37_1, x37_2, x37_5, x37_6, x37_7, x37_10, x37_13, x37_14, x37_15, x37_18, x37_19, x37_20, x37_23, x37_26, x37_27, x37_30, x37_31, x37_32, x37_33, x37_34, x37_37, x37_38, x37_39, x37_42, x37_45, x37_46, x37_47, x37_50, x37_51, x37_52, x37_55, x37_58, x37_59, x37_62, x37_63, x37_64, x37_65, x37_66, x37_69, x37_70, x37_71, x37_74, x37_77, x37_78, x37_81, x37_82, pushO, List.length_cons, List.length_nil, Nat.reduceAdd, Nat.reduceLeDiff, Nat.le_refl, Nat.zero_le, isD_i, isD_r, isD_l, isD_n, if_true, if_false, ite_true, ite_false, reduceIte, rowS h, e22 h ht, e23 h ht, e24 h ht, h1, h2, h3, ok_0, decide_false, bI_f]
    · by_cases h2 : at_ e t i < at_ e t j
      · simp only [x37_0, x37_1, x37_2, x37_5, x37_6, x37_7, x37_10, x37_13, x37_14, x37_15, x37_18, x37_19, x37_20, x37_23, x37_26, x37_27, x37_30, x37_31, x37_32, x37_33, x37_34, x37_37, x37_38, x37_39, x37_42, x37_45, x37_46, x37_47, x37_50, x37_51, x37_52, x37_55, x37_58, x37_59, x37_62, x37_63, x37_64, x37_65, x37_66, x37_69, x37_70, x37_71, x37_74, x37_77, x37_78, x37_81, x37_82, pushO, List.length_cons, List.length_nil, Nat.reduceAdd, Nat.reduceLeDiff, Nat.le_refl, Nat.zero_le, isD_i, isD_r, isD_l, isD_n, if_true, if_false, ite_true, ite_false, reduceIte, rowS h, e22 h ht, e23 h ht, e24 h ht, h1, h2, h3, ok_1, decide_true, bI_t]
      · simp only [x37_0, x37_1, x37_2, x37_5, x37_6, x37_7, x37_10, x37_13, x37_14, x37_15, x37_18, x37_19, x37_20, x37_23, x37_26, x37_27, x37_30, x37_31, x37_32, x37_33, x37_34, x37_37, x37_38, x37_39, x37_42, x37_45, x37_46, x37_47, x37_50, x37_51, x37_52, x37_55, x37_58, x37_59, x37_62, x37_63, x37_64, x37_65, x37_66, x37_69, x37_70, x37_71, x37_74, x37_77, x37_78, x37_81, x37_82, pushO, List.length_cons, List.length_nil, Nat.reduceAdd, Nat.reduceLeDiff, Nat.le_refl, Nat.zero_le, isD_i, isD_r, isD_l, isD_n, if_true, if_false, ite_true, ite_false, reduceIte, rowS h, e22 h ht, e23 h ht, e24 h ht, h1, h2, h3, ok_0, decide_false, bI_f]
  · by_cases h2 : at_ c t j < at_ c t i
    · simp only [x37_0, x37_1, x37_2, x37_5, x37_6, x37_7, x37_10, x37_13, x37_14, x37_15, x37_18, x37_19, x37_20, x37_23, x37_26, x37_27, x37_30, x37_31, x37_32, x37_33, x37_34, x37_37, x37_38, x37_39, x37_42, x37_45, x37_46, x37_47, x37_50, x37_51, x37_52, x37_55, x37_58, x37_59, x37_62, x37_63, x37_64, x37_65, x37_66, x37_69, x37_70, x37_71, x37_74, x37_77, x37_78, x37_81, x37_82, pushO, List.length_cons, List.length_nil, Nat.reduceAdd, Nat.reduceLeDiff, Nat.le_refl, Nat.zero_le, isD_i, isD_r, isD_l, isD_n, if_true, if_false, ite_true, ite_false, reduceIte, rowS h, e22 h ht, e23 h ht, e24 h ht, h1, h2, ok_1, decide_true, bI_t]
    · simp only [x37_0, x37_1, x37_2, x37_5, x37_6, x37_7, x37_10, x37_13, x37_14, x37_15, x37_18, x37_19, x37_20, x37_23, x37_26, x37_27, x37_30, x37_31, x37_32, x37_33, x37_34, x37_37, x37_38, x37_39, x37_42, x37_45, x37_46, x37_47, x37_50, x37_51, x37_52, x37_55, x37_58, x37_59, x37_62, x37_63, x37_64, x37_65, x37_66, x37_69, x37_70, x37_71, x37_74, x37_77, x37_78, x37_81, x37_82, pushO, List.length_cons, List.length_nil, Nat.reduceAdd, Nat.reduceLeDiff, Nat.le_refl, Nat.zero_le, isD_i, isD_r, isD_l, isD_n, if_true, if_false, ite_true, ite_false, reduceIte, rowS h, e22 h ht, e23 h ht, e24 h ht, h1, h2, ok_0, decide_false, bI_f]