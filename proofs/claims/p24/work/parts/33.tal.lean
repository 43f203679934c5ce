/-! what the methods of a tally and of the pad do -/
theorem nI_60 : (60 : Int32) = nI 60 := by decide +kernel
theorem nI_80 : (80 : Int32) = nI 80 := by decide +kernel
theorem ltN {i : Int32} {t N : Nat} (hN : N < 2 ^ 31) (hn : ¬ i < 0) (ht : t ≤ N) (h : i < nI t) : i < nI N := by
  rw [lt_clamp hn (by omega)] at h
  rw [lt_clamp hn hN]
  omega
theorem inBN {i : Int32} {t N : Nat} (hN : N < 2 ^ 31) (hn : ¬ i < 0) (ht : t ≤ N) (h : i < nI t) : inB i N = true := by
  rw [lt_clamp hn (by omega)] at h
  exact decide_eq_true (fun q => q.elim hn (fun q => by omega))
theorem e67 {i : Int32} {r : Nat} {g c : Nat → Int32} {n : Nat} {σ : Hp} {K : Option Value → Hp → Prop} (h : talAt r (g, c, n) σ) (hn : n ≤ 60) : X 67 0 [.ref r, .int i] [] σ K = K (some (.int (bI (in_ n i)))) σ := by
  unfold in_
  by_cases h1 : i < 0
  · simp only [x67_0, x67_1, x67_4, x67_5, x67_6, x67_9, x67_12, x67_13, x67_14, x67_17, x67_18, x67_21, x67_22, x67_25, x67_26, pushO, List.length_cons, List.length_nil, Nat.reduceAdd, Nat.reduceLeDiff, Nat.le_refl, Nat.zero_le, isD_i, isD_r, isD_l, isD_n, if_true, if_false, ite_true, ite_false, reduceIte, talS h, h1, ok_0, bI_f]
  · by_cases h2 : i < nI n
    · have h3 := ltN (N := 60) (by omega) h1 hn h2
      simp only [x67_0, x67_1, x67_4, x67_5, x67_6, x67_9, x67_12, x67_13, x67_14, x67_17, x67_18, x67_21, x67_22, x67_25, x67_26, pushO, List.length_cons, List.length_nil, Nat.reduceAdd, Nat.reduceLeDiff, Nat.le_refl, Nat.zero_le, isD_i, isD_r, isD_l, isD_n, if_true, if_false, ite_true, ite_false, reduceIte, talS h, h1, h2, nI_60, h3, ok_1, decide_true, bI_t]
    · simp only [x67_0, x67_1, x67_4, x67_5, x67_6, x67_9, x67_12, x67_13, x67_14, x67_17, x67_18, x67_21, x67_22, x67_25, x67_26, pushO, List.length_cons, List.length_nil, Nat.reduceAdd, Nat.reduceLeDiff, Nat.le_refl, Nat.zero_le, isD_i, isD_r, isD_l, isD_n, if_true, if_false, ite_true, ite_false, reduceIte, talS h, h1, h2, ok_0, decide_false, bI_f]
theorem e68 {i : Int32} {r : Nat} {g c : Nat → Int32} {n : Nat} {σ : Hp} {K : Option Value → Hp → Prop} (h : talAt r (g, c, n) σ) (hn : n ≤ 60) : X 68 0 [.ref r, .int i] [] σ K = K (some (.int (at_ g n i))) σ := by
  unfold at_
  by_cases h1 : i < 0
  · simp only [x68_0, x68_1, x68_4, x68_5, x68_6, x68_9, x68_12, x68_13, x68_14, x68_17, x68_18, x68_21, x68_22, x68_25, x68_26, x68_27, x68_30, x68_31, pushO, List.length_cons, List.length_nil, Nat.reduceAdd, Nat.reduceLeDiff, Nat.le_refl, Nat.zero_le, isD_i, isD_r, isD_l, isD_n, if_true, if_false, ite_true, ite_false, reduceIte, talS h, h1]
  · by_cases h2 : i < nI n
    · have h3 := ltN (N := 60) (by omega) h1 hn h2
      have h4 := inBN (N := 60) (by omega) h1 hn h2
      simp only [x68_0, x68_1, x68_4, x68_5, x68_6, x68_9, x68_12, x68_13, x68_14, x68_17, x68_18, x68_21, x68_22, x68_25, x68_26, x68_27, x68_30, x68_31, pushO, List.length_cons, List.length_nil, Nat.reduceAdd, Nat.reduceLeDiff, Nat.le_refl, Nat.zero_le, isD_i, isD_r, isD_l, isD_n, if_true, if_false, ite_true, ite_false, reduceIte, talS h, h1, h2, nI_60, h3, h4]
    · simp only [x68_0, x68_1, x68_4, x68_5, x68_6, x68_9, x68_12, x68_13, x68_14, x68_17, x68_18, x68_21, x68_22, x68_25, x68_26, x68_27, x68_30, x68_31, pushO, List.length_cons, List.length_nil, Nat.reduceAdd, Nat.reduceLeDiff, Nat.le_refl, Nat.zero_le, isD_i, isD_r, isD_l, isD_n, if_true, if_false, ite_true, ite_false, reduceIte, talS h, h1, h2]
theorem e69 {i : Int32} {r : Nat} {g c : Nat → Int32} {n : Nat} {σ : Hp} {K : Option Value → Hp → Prop} (h : talAt r (g, c, n) σ) (hn : n ≤ 60) : X 69 0 [.ref r, .int i] [] σ K = K (some (.int (at_ c n i))) σ := by
  unfold at_
  by_cases h1 : i < 0
  · simp only [x69_0, x69_1, x69_4, x69_5, x69_6, x69_9, x69_12, x69_13, x69_14, x69_17, x69_18, x69_21, x69_22, x69_25, x69_26, x69_27, x69_30, x69_31, pushO, List.length_cons, List.length_nil, Nat.reduceAdd, Nat.reduceLeDiff, Nat.le_refl, Nat.zero_le, isD_i, isD_r, isD_l, isD_n, if_true, if_false, ite_true, ite_false, reduceIte, talS h, h1]
  · by_cases h2 : i < nI n
    · have h3 := ltN (N := 60) (by omega) h1 hn h2
      have h4 := inBN (N := 60) (by omega) h1 hn h2
      simp only [x69_0, x69_1, x69_4, x69_5, x69_6, x69_9, x69_12, x69_13, x69_14, x69_17, x69_18, x69_21, x69_22, x69_25, x69_26, x69_27, x69_30, x69_31, pushO, List.length_cons, List.length_nil, Nat.reduceAdd, Nat.reduceLeDiff, Nat.le_refl, Nat.zero_le, isD_i, isD_r, isD_l, isD_n, if_true, if_false, ite_true, ite_false, reduceIte, talS h, h1, h2, nI_60, h3, h4]
    · simp only [x69_0, x69_1, x69_4, x69_5, x69_6, x69_9, x69_12, x69_13, x69_14, x69_17, x69_18, x69_21, x69_22, x69_25, x69_26, x69_27, x69_30, x69_31, pushO, List.length_cons, List.length_nil, Nat.reduceAdd, Nat.reduceLeDiff, Nat.le_refl, Nat.zero_le, isD_i, isD_r, isD_l, isD_n, if_true, if_false, ite_true, ite_false, reduceIte, talS h, h1, h2]
theorem l70 {x : Int32} {r : Nat} {g c : Nat → Int32} {n : Nat} {σ : Hp} {K : Option Value → Hp → Prop} (h : talAt r (g, c, n) σ) (hn : n ≤ 60) : ∀ m k, k + m = n → X 70 2 [.ref r, .int x, .int (nI k)] [] σ K = K (some (.int (fnd (fun k => decide (g k = x)) m k))) σ := by
  intro m
  induction m with
  | zero =>
    intro k hk
    have h1 : ¬ nI k < nI n := nI_nlt (by omega) (by omega)
    rw [x70_2]
    simp only [x70_0, x70_1, x70_3, x70_4, x70_7, x70_10, x70_11, x70_12, x70_15, x70_16, x70_19, x70_20, x70_21, x70_24, x70_27, x70_29, pushO, List.length_cons, List.length_nil, Nat.reduceAdd, Nat.reduceLeDiff, Nat.le_refl, Nat.zero_le, isD_i, isD_r, isD_l, isD_n, if_true, if_false, ite_true, ite_false, reduceIte, talS h, h1, fnd]
  | succ m ih =>
    intro k hk
    have h1 : nI k < nI n := nI_lt (by omega) (by omega)
    rw [x70_2]
    simp only [x70_0, x70_1, x70_3, x70_4, x70_7, x70_10, x70_11, x70_12, x70_15, x70_16, x70_19, x70_20, x70_21, x70_24, x70_27, x70_29, pushO, List.length_cons, List.length_nil, Nat.reduceAdd, Nat.reduceLeDiff, Nat.le_refl, Nat.zero_le, isD_i, isD_r, isD_l, isD_n, if_true, if_false, ite_true, ite_false, reduceIte, talS h, h1, e68 h hn, at_nI (f := g) (show k < n by omega) (by omega), fnd, decide_eq_true_eq, ← nI_succ, ih (k + 1) (by omega)]
    by_cases h2 : g k = x
    · simp only [h2, if_true]
    · simp only [h2, if_false]
theorem e70 {x : Int32} {r : Nat} {g c : Nat → Int32} {n : Nat} {σ : Hp} {K : Option Value → Hp → Prop} (h : talAt r (g, c, n) σ) (hn : n ≤ 60) : X 70 0 [.ref r, .int x, .null] [] σ K = K (some (.int (seatOfR g n x))) σ := by
  simp only [x70_0, x70_1, pushO, List.length_cons, List.length_nil, Nat.reduceAdd, Nat.reduceLeDiff, Nat.le_refl, Nat.zero_le, isD_i, isD_r, isD_l, isD_n, if_true, if_false, ite_true, ite_false, reduceIte]
  exact l70 h hn n 0 (by omega)
theorem e71 {x : Int32} {r : Nat} {g c : Nat → Int32} {n : Nat} {σ : Hp} {K : Option Value → Hp → Prop} (h : talAt r (g, c, n) σ) (hn : n ≤ 60) : X 71 0 [.ref r, .int x] [] σ K = K (some (.int (at_ c n (seatOfR g n x)))) σ := by
  simp only [x71_0, x71_1, x71_2, x71_3, x71_6, x71_9, pushO, List.length_cons, List.length_nil, Nat.reduceAdd, Nat.reduceLeDiff, Nat.le_refl, Nat.zero_le, isD_i, isD_r, isD_l, isD_n, if_true, if_false, ite_true, ite_false, reduceIte, talS h, e70 h hn, e69 h hn]
theorem l72 {x : Int32} {r : Nat} {g c : Nat → Int32} {n : Nat} {σ : Hp} {K : Option Value → Hp → Prop} (h : talAt r (g, c, n) σ) (hn : n ≤ 60) : ∀ m k, n - k = m → k ≤ n → ∀ a : Nat, X 72 4 [.ref r, .int x, .int (nI a), .int (nI k)] [] σ K = K (some (.int (nI (fold (fun a k => if x < 100 * c k then a + 1 else a) m k a)))) σ := by
  intro m
  induction m with
  | zero =>
    intro k hk hk2 a
    have h1 : ¬ nI k < nI n := nI_nlt (by omega) (by omega)
    rw [x72_4]
    simp only [x72_0, x72_1, x72_2, x72_3, x72_5, x72_6, x72_9, x72_12, x72_14, x72_15, x72_16, x72_19, x72_20, x72_21, x72_24, x72_27, x72_30, x72_33, x72_34, pushO, List.length_cons, List.length_nil, Nat.reduceAdd, Nat.reduceLeDiff, Nat.le_refl, Nat.zero_le, isD_i, isD_r, isD_l, isD_n, if_true, if_false, ite_true, ite_false, reduceIte, talS h, h1, fold]
  | succ m ih =>
    intro k hk hk2 a
    have h1 : nI k < nI n := nI_lt (by omega) (by omega)
    rw [x72_4]
    simp only [x72_0, x72_1, x72_2, x72_3, x72_5, x72_6, x72_9, x72_12, x72_14, x72_15, x72_16, x72_19, x72_20, x72_21, x72_24, x72_27, x72_30, x72_33, x72_34, pushO, List.length_cons, List.length_nil, Nat.reduceAdd, Nat.reduceLeDiff, Nat.le_refl, Nat.zero_le, isD_i, isD_r, isD_l, isD_n, if_true, if_false, ite_true, ite_false, reduceIte, talS h, h1, e69 h hn, at_nI (f := c) (show k < n by omega) (by omega), fold, ← nI_succ, ih (k + 1) (by omega) (by omega)]
    by_cases h2 : x < 100 * c k
    · simp only [h2, if_true]
    · simp only [h2, if_false]
theorem e72 {x : Int32} {r : Nat} {g c : Nat → Int32} {n : Nat} {σ : Hp} {K : Option Value → Hp → Prop} (h : talAt r (g, c, n) σ) (hn : n ≤ 60) : X 72 0 [.ref r, .int x, .null, .null] [] σ K = K (some (.int (nI (fold (fun a k => if x < 100 * c k then a + 1 else a) n 0 0)))) σ := by
  simp only [x72_0, x72_1, x72_2, x72_3, pushO, List.length_cons, List.length_nil, Nat.reduceAdd, Nat.reduceLeDiff, Nat.le_refl, Nat.zero_le, isD_i, isD_r, isD_l, isD_n, if_true, if_false, ite_true, ite_false, reduceIte]
  exact l72 h hn n 0 rfl (by omega) 0
theorem l73 {q : Nat} {g2 c2 : Nat → Int32} {n2 : Nat} {r : Nat} {g c : Nat → Int32} {n : Nat} {σ : Hp} {K : Option Value → Hp → Prop} (h : talAt r (g, c, n) σ) (hn : n ≤ 60) (h2 : talAt q (g2, c2, n2) σ) (hn2 : n2 ≤ 60) : ∀ m k, n2 - k = m → k ≤ n2 → ∀ a : Nat, X 73 7 [.ref r, .ref q, .int (nI a), .int (nI k)] [] σ K = K (some (.int (nI (fold (fun a k => if seatOfR g n (g2 k) = -6 then a + 1 else a) m k a)))) σ := by
  intro m
  induction m with
  | zero =>
    intro k hk hk2 a
    have h1 : ¬ nI k < nI n2 := nI_nlt (by omega) (by omega)
    rw [x73_7]
    simp only [x73_0, x73_1, x73_4, x73_5, x73_6, x73_8, x73_9, x73_12, x73_15, x73_16, x73_17, x73_18, x73_21, x73_24, x73_26, x73_29, x73_32, x73_35, x73_38, x73_39, pushO, List.length_cons, List.length_nil, Nat.reduceAdd, Nat.reduceLeDiff, Nat.le_refl, Nat.zero_le, isD_i, isD_r, isD_l, isD_n, if_true, if_false, ite_true, ite_false, reduceIte, talS h2, h1, fold]
  | succ m ih =>
    intro k hk hk2 a
    have h1 : nI k < nI n2 := nI_lt (by omega) (by omega)
    rw [x73_7]
    simp only [x73_0, x73_1, x73_4, x73_5, x73_6, x73_8, x73_9, x73_12, x73_15, x73_16, x73_17, x73_18, x73_21, x73_24, x73_26, x73_29, x73_32, x73_35, x73_38, x73_39, pushO, List.length_cons, List.length_nil, Nat.reduceAdd, Nat.reduceLeDiff, Nat.le_refl, Nat.zero_le, isD_i, isD_r, isD_l, isD_n, if_true, if_false, ite_true, ite_false, reduceIte, talS h, talS h2, h1, e68 h2 hn2, e70 h hn, at_nI (f := g2) (show k < n2 by omega) (by omega), fold, ← nI_succ, ih (k + 1) (by omega) (by omega)]
    by_cases h3 : seatOfR g n (g2 k) = -6
    · simp only [h3, if_true]
    · simp only [h3, if_false]
theorem e73 {q : Nat} {g2 c2 : Nat → Int32} {n2 : Nat} {r : Nat} {g c : Nat → Int32} {n : Nat} {σ : Hp} {K : Option Value → Hp → Prop} (h : talAt r (g, c, n) σ) (hn : n ≤ 60) (h2 : talAt q (g2, c2, n2) σ) (hn2 : n2 ≤ 60) : X 73 0 [.ref r, .ref q, .null, .null] [] σ K = K (some (.int (nI (fold (fun a k => if seatOfR g n (g2 k) = -6 then a + 1 else a) n2 0 n)))) σ := by
  simp only [x73_0, x73_1, x73_4, x73_5, x73_6, pushO, List.length_cons, List.length_nil, Nat.reduceAdd, Nat.reduceLeDiff, Nat.le_refl, Nat.zero_le, isD_i, isD_r, isD_l, isD_n, if_true, if_false, ite_true, ite_false, reduceIte, talS h]
  exact l73 h hn h2 hn2 n2 0 rfl (by omega) n
theorem q78 {r : Nat} {g c : Nat → Int32} {n : Nat} {σ : Hp} {K : Option Value → Hp → Prop} : X 78 0 [.ref r] [] (talPut r (g, c, n) σ) K = K none (talPut r (g, c, 0) σ) := by
  simp only [x78_0, x78_1, x78_2, x78_5, pushO, List.length_cons, List.length_nil, Nat.reduceAdd, Nat.reduceLeDiff, Nat.le_refl, Nat.zero_le, isD_i, isD_r, isD_l, isD_n, if_true, if_false, ite_true, ite_false, reduceIte, talQ]
theorem q76 {x y : Int32} {r : Nat} {g c : Nat → Int32} {n : Nat} {σ : Hp} {K : Option Value → Hp → Prop} (hn : n < 60) : X 76 0 [.ref r, .int x, .int y] [] (talPut r (g, c, n) σ) K = K none (talPut r (upd g n x, upd c n y, n + 1) σ) := by
  have h2 : inB (nI n) 60 = true := inB_nI (by omega) (by omega)
  have h3 : ¬ nI n < 0 := nI_pos (by omega)
  have h4 : nI n < 60 := by rw [nI_60, nI_lt_iff (by omega) (by omega)]; omega
  simp only [x76_0, x76_1, x76_4, x76_7, x76_8, x76_11, x76_12, x76_15, x76_16, x76_19, x76_20, x76_23, x76_24, x76_27, x76_28, x76_29, x76_30, x76_33, x76_34, x76_37, x76_38, x76_39, x76_40, x76_40i, x76_41, x76_44, x76_45, x76_46, x76_49, pushO, List.length_cons, List.length_nil, Nat.reduceAdd, Nat.reduceLeDiff, Nat.le_refl, Nat.zero_le, isD_i, isD_r, isD_l, isD_n, if_true, if_false, ite_true, ite_false, reduceIte, talQ, h2, h3, h4, nI_clamp (show n < 2 ^ 31 by omega), ← nI_succ]
def muF (x y : Int32) : Nat → (Nat → Int32) × (Nat → Int32) → (Nat → Int32) × (Nat → Int32)
  | 0, q => (upd q.1 0 x, upd q.2 0 y)
  | k + 1, q => if q.2 k < y then muF x y k (upd q.1 (k + 1) (q.1 k), upd q.2 (k + 1) (q.2 k)) else if q.2 k = y then (if x < q.1 k then muF x y k (upd q.1 (k + 1) (q.1 k), upd q.2 (k + 1) (q.2 k)) else (upd q.1 (k + 1) x, upd q.2 (k + 1) y)) else (upd q.1 (k + 1) x, upd q.2 (k + 1) y)
theorem l77 {i x y : Int32} {r n : Nat} {σ : Hp} {K : Option Value → Hp → Prop} (hn : n ≤ 60) : ∀ (k : Nat) (g c : Nat → Int32), k < n → X 77 26 [.ref r, .int i, .int x, .int y, .int (nI k)] [] (talPut r (g, c, n) σ) K = K none (talPut r ((muF x y k (g, c)).1, (muF x y k (g, c)).2, n) σ) := by
  intro k
  induction k with
  | zero =>
    intro g c hk
    have h2 : inB (nI 0) 60 = true := inB_nI (by omega) (by omega)
    rw [x77_26]
    simp only [x77_0, x77_1, x77_2, x77_5, x77_8, x77_9, x77_10, x77_13, x77_14, x77_15, x77_16, x77_17, x77_20, x77_21, x77_22, x77_23, x77_24, x77_28, x77_31, x77_32, x77_35, x77_37, x77_38, x77_39, x77_40, x77_41, x77_44, x77_45, x77_48, x77_50, x77_51, x77_52, x77_53, x77_54, x77_57, x77_58, x77_61, x77_63, x77_64, x77_65, x77_66, x77_67, x77_70, x77_71, x77_74, x77_76, x77_77, x77_80, x77_82, x77_83, x77_84, x77_85, x77_86, x77_87, x77_90, x77_92, x77_93, x77_96, x77_98, x77_99, x77_100, x77_101, x77_102, x77_105, x77_108, x77_109, x77_112, x77_114, x77_115, x77_116, x77_117, x77_120, x77_122, x77_123, x77_124, pushO, List.length_cons, List.length_nil, Nat.reduceAdd, Nat.reduceLeDiff, Nat.le_refl, Nat.zero_le, isD_i, isD_r, isD_l, isD_n, if_true, if_false, ite_true, ite_false, reduceIte, talQ, nI_0lt (show 0 < 2 ^ 31 by omega), Nat.lt_irrefl, muF, h2, nI_clamp (show 0 < 2 ^ 31 by omega)]
  | succ k ih =>
    intro g c hk
    have h2 : inB (nI (k + 1)) 60 = true := inB_nI (by omega) (by omega)
    have h5 : inB (nI k) 60 = true := inB_nI (by omega) (by omega)
    rw [x77_26]
    simp only [x77_0, x77_1, x77_2, x77_5, x77_8, x77_9, x77_10, x77_13, x77_14, x77_15, x77_16, x77_17, x77_20, x77_21, x77_22, x77_23, x77_24, x77_28, x77_31, x77_32, x77_35, x77_37, x77_38, x77_39, x77_40, x77_41, x77_44, x77_45, x77_48, x77_50, x77_51, x77_52, x77_53, x77_54, x77_57, x77_58, x77_61, x77_63, x77_64, x77_65, x77_66, x77_67, x77_70, x77_71, x77_74, x77_76, x77_77, x77_80, x77_82, x77_83, x77_84, x77_85, x77_86, x77_87, x77_90, x77_92, x77_93, x77_96, x77_98, x77_99, x77_100, x77_101, x77_102, x77_105, x77_108, x77_109, x77_112, x77_114, x77_115, x77_116, x77_117, x77_120, x77_122, x77_123, x77_124, pushO, List.length_cons, List.length_nil, Nat.reduceAdd, Nat.reduceLeDiff, Nat.le_refl, Nat.zero_le, isD_i, isD_r, isD_l, isD_n, if_true, if_false, ite_true, ite_false, reduceIte, talQ, nI_0lt (show k + 1 < 2 ^ 31 by omega), Nat.succ_pos, nI_pred, nI_dec, h2, h5, nI_clamp (show k + 1 < 2 ^ 31 by omega), nI_clamp (show k < 2 ^ 31 by omega), muF]
    rw [ih _ _ (by omega)]
    by_cases h6 : c k < y
    · simp only [h6, if_true]
    · simp only [if_neg h6]
      by_cases h7 : c k = y
      · simp only [if_pos h7]
        by_cases h8 : x < g k
        · simp only [if_pos h8]
        · simp only [if_neg h8]
      · simp only [if_neg h7]
theorem q77 {k : Nat} {r : Nat} {g c : Nat → Int32} {n : Nat} {σ : Hp} {K : Option Value → Hp → Prop} (hn : n ≤ 60) (hk : k < n) : X 77 0 [.ref r, .int (nI k), .null, .null, .null] [] (talPut r (g, c, n) σ) K = K none (talPut r ((muF (g k) (c k) k (g, c)).1, (muF (g k) (c k) k (g, c)).2, n) σ) := by
  have h3 : in_ n (nI k) = true := by rw [in_nI (by omega) (by omega)]; exact decide_eq_true hk
  have h2 : inB (nI k) 60 = true := inB_nI (by omega) (by omega)
  simp only [x77_0, x77_1, x77_2, x77_5, x77_8, x77_9, x77_10, x77_13, x77_14, x77_15, x77_16, x77_17, x77_20, x77_21, x77_22, x77_23, x77_24, pushO, List.length_cons, List.length_nil, Nat.reduceAdd, Nat.reduceLeDiff, Nat.le_refl, Nat.zero_le, isD_i, isD_r, isD_l, isD_n, if_true, if_false, ite_true, ite_false, reduceIte, talQ, e67 talAP hn, h3, bI_t, i1_ne, h2, nI_clamp (show k < 2 ^ 31 by omega)]
  exact l77 hn k g c hk
def fndO (p : Nat → Bool) : Nat → Nat → Option Nat
  | 0, _ => none
  | n + 1, k => if p k = true then some k else fndO p n (k + 1)
def oI : Option Nat → Int32
  | some k => nI k
  | none => -6
theorem fnd_O {p : Nat → Bool} : ∀ n k, fnd p n k = oI (fndO p n k)
  | 0, _ => rfl
  | n + 1, k => by
    unfold fnd fndO
    by_cases h : p k = true
    · rw [if_pos h, if_pos h]; rfl
    · rw [if_neg h, if_neg h]; exact fnd_O n (k + 1)
theorem fndO_lt {p : Nat → Bool} : ∀ n k j, fndO p n k = some j → k ≤ j ∧ j < k + n ∧ p j = true
  | 0, k, j, h => by cases h
  | n + 1, k, j, h => by
    unfold fndO at h
    by_cases hp : p k = true
    · rw [if_pos hp] at h
      cases h
      exact ⟨Nat.le_refl _, by omega, hp⟩
    · rw [if_neg hp] at h
      obtain ⟨a, b, c⟩ := fndO_lt n (k + 1) j h
      exact ⟨by omega, by omega, c⟩
def seatO (g : Nat → Int32) (t : Nat) (x : Int32) : Option Nat := fndO (fun k => decide (g k = x)) t 0
theorem seatOf_O {g : Nat → Int32} {t : Nat} {x : Int32} : seatOfR g t x = oI (seatO g t x) := fnd_O t 0
theorem seatO_lt {g : Nat → Int32} {t : Nat} {x : Int32} {j : Nat} (h : seatO g t x = some j) : j < t ∧ g j = x := by
  obtain ⟨a, b, c⟩ := fndO_lt t 0 j h
  exact ⟨by omega, by simpa using c⟩
theorem m6_ne {k : Nat} (h : k < 2 ^ 31) : ¬ nI k = -6 := by
  intro q
  have := congrArg Int32.toInt q
  rw [nI_toInt h] at this
  have h2 : Int32.toInt (-6) = -6 := by decide +kernel
  omega
def addT (g c : Nat → Int32) (n : Nat) (x y : Int32) : TalM := match seatO g n x with
  | none => ((muF x y n (upd g n x, upd c n y)).1, (muF x y n (upd g n x, upd c n y)).2, n + 1)
  | some k => ((muF (g k) (c k + y) k (g, upd c k (c k + y))).1, (muF (g k) (c k + y) k (g, upd c k (c k + y))).2, n)
theorem upd_at {f : Nat → Int32} {k : Nat} {x : Int32} : upd f k x k = x := if_pos rfl
theorem q74 {x y : Int32} {r : Nat} {g c : Nat → Int32} {n : Nat} {σ : Hp} {K : Option Value → Hp → Prop} (hn : n ≤ 60) (hc : seatO g n x = none → n < 60) : X 74 0 [.ref r, .int x, .int y, .null] [] (talPut r (g, c, n) σ) K = K none (talPut r (addT g c n x y) σ) := by
  unfold addT
  cases hs : seatO g n x with
  | none =>
    have h1 := hc hs
    simp only [x74_0, x74_1, x74_2, x74_5, x74_6, x74_7, x74_9, x74_12, x74_13, x74_14, x74_15, x74_18, x74_19, x74_22, x74_23, x74_24, x74_25, x74_28, x74_29, x74_30, x74_33, x74_36, x74_37, x74_40, x74_41, x74_42, x74_43, x74_44, x74_45, x74_46, x74_47, x74_48, x74_51, pushO, List.length_cons, List.length_nil, Nat.reduceAdd, Nat.reduceLeDiff, Nat.le_refl, Nat.zero_le, isD_i, isD_r, isD_l, isD_n, if_true, if_false, ite_true, ite_false, reduceIte, talQ, e70 talAP hn, seatOf_O, hs, oI, q76 h1, nI_pred, q77 (show n + 1 ≤ 60 by omega) (show n < n + 1 by omega), upd_at]
  | some k =>
    obtain ⟨h1, h2⟩ := seatO_lt hs
    have h3 : in_ n (nI k) = true := by rw [in_nI (by omega) (by omega)]; exact decide_eq_true h1
    have h4 : inB (nI k) 60 = true := inB_nI (by omega) (by omega)
    simp only [x74_0, x74_1, x74_2, x74_5, x74_6, x74_7, x74_9, x74_12, x74_13, x74_14, x74_15, x74_18, x74_19, x74_22, x74_23, x74_24, x74_25, x74_28, x74_29, x74_30, x74_33, x74_36, x74_37, x74_40, x74_41, x74_42, x74_43, x74_44, x74_45, x74_46, x74_47, x74_48, x74_51, pushO, List.length_cons, List.length_nil, Nat.reduceAdd, Nat.reduceLeDiff, Nat.le_refl, Nat.zero_le, isD_i, isD_r, isD_l, isD_n, if_true, if_false, ite_true, ite_false, reduceIte, talQ, e70 talAP hn, seatOf_O, hs, oI, m6_ne (show k < 2 ^ 31 by omega), e67 talAP hn, h3, bI_t, i1_ne, h4, nI_clamp (show k < 2 ^ 31 by omega), q77 hn h1, upd_at]
def aaF (g2 c2 : Nat → Int32) : Nat → Nat → TalM → TalM
  | 0, _, τ => τ
  | m + 1, k, τ => aaF g2 c2 m (k + 1) (addT τ.1 τ.2.1 τ.2.2 (g2 k) (c2 k))
def aaOK (g2 c2 : Nat → Int32) : Nat → Nat → TalM → Prop
  | 0, _, τ => τ.2.2 ≤ 60
  | m + 1, k, τ => τ.2.2 ≤ 60 ∧ (seatO τ.1 τ.2.2 (g2 k) = none → τ.2.2 < 60) ∧ aaOK g2 c2 m (k + 1) (addT τ.1 τ.2.1 τ.2.2 (g2 k) (c2 k))
theorem l75 {r q : Nat} {g2 c2 : Nat → Int32} {n2 : Nat} {σ : Hp} {K : Option Value → Hp → Prop} (h2 : talAt q (g2, c2, n2) σ) (hq : q + 3 ≤ r ∨ r + 3 ≤ q) (hn2 : n2 ≤ 60) : ∀ (m k : Nat) (τ : TalM), n2 - k = m → k ≤ n2 → aaOK g2 c2 m k τ → X 75 2 [.ref r, .ref q, .int (nI k)] [] (talPut r τ σ) K = K none (talPut r (aaF g2 c2 m k τ) σ) := by
  intro m
  induction m with
  | zero =>
    intro k τ hk hk2 ho
    obtain ⟨g, c, n⟩ := τ
    have hq2 : talAt q (g2, c2, n2) (talPut r (g, c, n) σ) := talOff h2 hq
    have h1 : ¬ nI k < nI n2 := nI_nlt (by omega) (by omega)
    rw [x75_2]
    simp only [x75_0, x75_1, x75_3, x75_4, x75_7, x75_10, x75_11, x75_12, x75_13, x75_16, x75_17, x75_18, x75_21, x75_24, x75_27, x75_30, pushO, List.length_cons, List.length_nil, Nat.reduceAdd, Nat.reduceLeDiff, Nat.le_refl, Nat.zero_le, isD_i, isD_r, isD_l, isD_n, if_true, if_false, ite_true, ite_false, reduceIte, talS hq2, h1, aaF]
  | succ m ih =>
    intro k τ hk hk2 ho
    obtain ⟨g, c, n⟩ := τ
    obtain ⟨o1, o2, o3⟩ := ho
    have hq2 : talAt q (g2, c2, n2) (talPut r (g, c, n) σ) := talOff h2 hq
    have h1 : nI k < nI n2 := nI_lt (by omega) (by omega)
    rw [x75_2]
    simp only [x75_0, x75_1, x75_3, x75_4, x75_7, x75_10, x75_11, x75_12, x75_13, x75_16, x75_17, x75_18, x75_21, x75_24, x75_27, x75_30, pushO, List.length_cons, List.length_nil, Nat.reduceAdd, Nat.reduceLeDiff, Nat.le_refl, Nat.zero_le, isD_i, isD_r, isD_l, isD_n, if_true, if_false, ite_true, ite_false, reduceIte, talS hq2, talQ, h1, e68 hq2 hn2, e69 hq2 hn2, at_nI (f := g2) (show k < n2 by omega) (by omega), at_nI (f := c2) (show k < n2 by omega) (by omega), q74 o1 o2, ← nI_succ, aaF]
    exact ih (k + 1) _ (by omega) (by omega) o3
theorem q75 {q : Nat} {g2 c2 : Nat → Int32} {n2 : Nat} {r : Nat} {g c : Nat → Int32} {n : Nat} {σ : Hp} {K : Option Value → Hp → Prop} (h2 : talAt q (g2, c2, n2) σ) (hq : q + 3 ≤ r ∨ r + 3 ≤ q) (hn2 : n2 ≤ 60) (ho : aaOK g2 c2 n2 0 (g, c, n)) : X 75 0 [.ref r, .ref q, .null] [] (talPut r (g, c, n) σ) K = K none (talPut r (aaF g2 c2 n2 0 (g, c, n)) σ) := by
  simp only [x75_0, x75_1, pushO, List.length_cons, List.length_nil, Nat.reduceAdd, Nat.reduceLeDiff, Nat.le_refl, Nat.zero_le, isD_i, isD_r, isD_l, isD_n, if_true, if_false, ite_true, ite_false, reduceIte]
  exact l75 h2 hq hn2 n2 0 _ rfl (by omega) ho
def thF : Nat → Nat → (Nat → Int32) → (Nat → Int32) → Nat → TalM
  | 0, _, g, c, n1 => (g, c, n1)
  | m + 1, k, g, c, n1 => if 0 < c k / 2 then thF m (k + 1) (muF (g k) (c k / 2) n1 (upd g n1 (g k), upd c n1 (c k / 2))).1 (muF (g k) (c k / 2) n1 (upd g n1 (g k), upd c n1 (c k / 2))).2 (n1 + 1) else thF m (k + 1) g c n1
theorem l79 {r n0 : Nat} {σ : Hp} {K : Option Value → Hp → Prop} (hn0 : n0 ≤ 60) : ∀ (m k n1 : Nat) (g c : Nat → Int32), n0 - k = m → k ≤ n0 → n1 ≤ k → X 79 11 [.ref r, .int (nI n0), .int (nI k)] [] (talPut r (g, c, n1) σ) K = K none (talPut r (thF m k g c n1) σ) := by
  intro m
  induction m with
  | zero =>
    intro k n1 g c hn hk ht1
    have h1 : ¬ nI k < nI n0 := nI_nlt (by omega) (by omega)
    rw [x79_11]
    simp only [x79_0, x79_1, x79_4, x79_5, x79_6, x79_9, x79_10, x79_12, x79_13, x79_16, x79_17, x79_18, x79_21, x79_22, x79_25, x79_26, x79_29, x79_30, x79_31, x79_32, x79_33, x79_36, x79_37, x79_38, x79_41, x79_42, x79_43, x79_44, x79_47, x79_48, x79_49, x79_50, x79_51, x79_54, x79_55, x79_56, x79_59, x79_60, x79_61, x79_64, x79_67, x79_70, pushO, List.length_cons, List.length_nil, Nat.reduceAdd, Nat.reduceLeDiff, Nat.le_refl, Nat.zero_le, isD_i, isD_r, isD_l, isD_n, if_true, if_false, ite_true, ite_false, reduceIte, talQ, h1, thF]
  | succ m ih =>
    intro k n1 g c hn hk ht1
    have h1 : nI k < nI n0 := nI_lt (by omega) (by omega)
    have h2 : inB (nI k) 60 = true := inB_nI (by omega) (by omega)
    have h4 : nI k < 60 := by rw [nI_60, nI_lt_iff (by omega) (by omega)]; omega
    rw [x79_11]
    simp only [x79_0, x79_1, x79_4, x79_5, x79_6, x79_9, x79_10, x79_12, x79_13, x79_16, x79_17, x79_18, x79_21, x79_22, x79_25, x79_26, x79_29, x79_30, x79_31, x79_32, x79_33, x79_36, x79_37, x79_38, x79_41, x79_42, x79_43, x79_44, x79_47, x79_48, x79_49, x79_50, x79_51, x79_54, x79_55, x79_56, x79_59, x79_60, x79_61, x79_64, x79_67, x79_70, pushO, List.length_cons, List.length_nil, Nat.reduceAdd, Nat.reduceLeDiff, Nat.le_refl, Nat.zero_le, isD_i, isD_r, isD_l, isD_n, if_true, if_false, ite_true, ite_false, reduceIte, talQ, h1, h2, h4, nI_clamp (show k < 2 ^ 31 by omega), two_ne, not_false_eq_true, thF, q76 (show n1 < 60 by omega), q77 (show n1 + 1 ≤ 60 by omega) (show n1 < n1 + 1 by omega), nI_pred, upd_at, ← nI_succ]
    rw [ih (k + 1) (n1 + 1) _ _ (by omega) (by omega) (by omega), ih (k + 1) n1 _ _ (by omega) (by omega) (by omega)]
    by_cases h5 : 0 < c k / 2
    · simp only [h5, if_true]
    · simp only [h5, if_false]
theorem q79 {r : Nat} {g c : Nat → Int32} {n : Nat} {σ : Hp} {K : Option Value → Hp → Prop} (hn : n ≤ 60) : X 79 0 [.ref r, .null, .null] [] (talPut r (g, c, n) σ) K = K none (talPut r (thF n 0 g c 0) σ) := by
  simp only [x79_0, x79_1, x79_4, x79_5, x79_6, x79_9, x79_10, pushO, List.length_cons, List.length_nil, Nat.reduceAdd, Nat.reduceLeDiff, Nat.le_refl, Nat.zero_le, isD_i, isD_r, isD_l, isD_n, if_true, if_false, ite_true, ite_false, reduceIte, talQ, q78]
  exact l79 hn n 0 0 _ _ rfl (by omega) (by omega)