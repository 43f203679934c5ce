/-! what the writing methods of a row of seats do; the heap is told as an overlay of the row -/
theorem nI_dec (n : Nat) : nI (n + 1) + (-1) = nI n := by rw [← nI_pred n, Int32.sub_eq_add_neg]
theorem nI_0lt {k : Nat} (hk : k < 2 ^ 31) : (0 < nI k) = (0 < k) := by
  rw [← nI_0, nI_lt_iff (by omega) hk]
theorem nI_sub1 {t : Nat} (h : 0 < t) : nI t - 1 = nI (t - 1) := by
  obtain ⟨n, rfl⟩ : ∃ n, t = n + 1 := ⟨t - 1, by omega⟩
  exact nI_pred n
theorem nI_24 : (24 : Int32) = nI 24 := by decide +kernel
theorem q45 {r : Nat} {g c e : Nat → Int32} {s t : Nat} {σ : Hp} {K : Option Value → Hp → Prop} : X 45 0 [.ref r] [] (rowPut r (g, c, e, s, t) σ) K = K none (rowPut r (g, c, e, s, 0) σ) := by
  simp only [x45_0, x45_1, x45_2, x45_5, pushO, List.length_cons, List.length_nil, Nat.reduceAdd, Nat.reduceLeDiff, Nat.le_refl, Nat.zero_le, isD_i, isD_r, isD_l, isD_n, if_true, if_false, ite_true, ite_false, reduceIte, rowQ]
def appR (g c e : Nat → Int32) (s t : Nat) (x y z : Int32) : RowM := if t < s then (upd g t x, upd c t y, upd e t z, s, t + 1) else (g, c, e, s, t)
theorem q42 {x y z : Int32} {r : Nat} {g c e : Nat → Int32} {s t : Nat} {σ : Hp} {K : Option Value → Hp → Prop} (ht : t ≤ 24) (hs : s ≤ 24) : X 42 0 [.ref r, .int x, .int y, .int z] [] (rowPut r (g, c, e, s, t) σ) K = K none (rowPut r (appR g c e s t x y z) σ) := by
  unfold appR
  by_cases h1 : t < s
  · have h2 : inB (nI t) 24 = true := inB_nI (by omega) (by omega)
    have h3 : ¬ nI t < 0 := nI_pos (by omega)
    have h4 : nI t < 24 := by rw [nI_24, nI_lt_iff (by omega) (by omega)]; omega
    simp only [x42_0, x42_1, x42_4, x42_5, x42_8, x42_11, x42_12, x42_15, x42_18, x42_19, x42_22, x42_23, x42_26, x42_27, x42_30, x42_31, x42_34, x42_35, x42_38, x42_39, x42_40, x42_41, x42_44, x42_45, x42_48, x42_49, x42_50, x42_51, x42_54, x42_55, x42_58, x42_59, x42_60, x42_61, x42_61i, x42_62, x42_65, x42_66, x42_67, x42_70, pushO, List.length_cons, List.length_nil, Nat.reduceAdd, Nat.reduceLeDiff, Nat.le_refl, Nat.zero_le, isD_i, isD_r, isD_l, isD_n, if_true, if_false, ite_true, ite_false, reduceIte, rowQ, nI_lt_iff (show t < 2 ^ 31 by omega) (show s < 2 ^ 31 by omega), h1, h2, h3, h4, nI_clamp (show t < 2 ^ 31 by omega), ← nI_succ]
  · simp only [x42_0, x42_1, x42_4, x42_5, x42_8, x42_11, x42_12, x42_15, x42_18, x42_19, x42_22, x42_23, x42_26, x42_27, x42_30, x42_31, x42_34, x42_35, x42_38, x42_39, x42_40, x42_41, x42_44, x42_45, x42_48, x42_49, x42_50, x42_51, x42_54, x42_55, x42_58, x42_59, x42_60, x42_61, x42_61i, x42_62, x42_65, x42_66, x42_67, x42_70, pushO, List.length_cons, List.length_nil, Nat.reduceAdd, Nat.reduceLeDiff, Nat.le_refl, Nat.zero_le, isD_i, isD_r, isD_l, isD_n, if_true, if_false, ite_true, ite_false, reduceIte, rowQ, nI_lt_iff (show t < 2 ^ 31 by omega) (show s < 2 ^ 31 by omega), h1]
theorem q41a {k : Nat} {x y : Int32} {w : Value} {r : Nat} {g c e : Nat → Int32} {s t : Nat} {σ : Hp} {K : Option Value → Hp → Prop} (ht : t ≤ 24) (hk : k < t) (hw : isD w = false) : X 41 0 [.ref r, .int (nI k), .int x, .int y, w] [] (rowPut r (g, c, e, s, t) σ) K = if g k = x then K (some (.int 0)) (rowPut r (g, upd c k (c k + y), e, s, t) σ) else K (some (.int 1)) (rowPut r (upd g k x, upd c k (c k + y), upd e k (c k), s, t) σ) := by
  have h2 : inB (nI k) 24 = true := inB_nI (by omega) (by omega)
  have h3 : in_ t (nI k) = true := by rw [in_nI (by omega) (by omega)]; exact decide_eq_true hk
  by_cases h1 : g k = x
  · simp only [x41_0, x41_1, x41_2, x41_5, x41_8, x41_9, x41_10, x41_11, x41_12, x41_15, x41_16, x41_17, x41_18, x41_21, x41_22, x41_23, x41_24, x41_27, x41_28, x41_31, x41_32, x41_34, x41_36, x41_39, x41_40, x41_43, x41_44, x41_45, x41_46, x41_47, x41_50, x41_51, x41_52, x41_55, x41_56, x41_57, x41_58, x41_59, x41_62, x41_63, x41_64, x41_65, x41_66, x41_67, x41_68, x41_70, pushO, List.length_cons, List.length_nil, Nat.reduceAdd, Nat.reduceLeDiff, Nat.le_refl, Nat.zero_le, isD_i, isD_r, isD_l, isD_n, if_true, if_false, ite_true, ite_false, reduceIte, rowQ, e21 rowAP ht, h2, h3, bI_t, i1_ne, nI_clamp (show k < 2 ^ 31 by omega), h1, hw, ok_0]
  · simp only [x41_0, x41_1, x41_2, x41_5, x41_8, x41_9, x41_10, x41_11, x41_12, x41_15, x41_16, x41_17, x41_18, x41_21, x41_22, x41_23, x41_24, x41_27, x41_28, x41_31, x41_32, x41_34, x41_36, x41_39, x41_40, x41_43, x41_44, x41_45, x41_46, x41_47, x41_50, x41_51, x41_52, x41_55, x41_56, x41_57, x41_58, x41_59, x41_62, x41_63, x41_64, x41_65, x41_66, x41_67, x41_68, x41_70, pushO, List.length_cons, List.length_nil, Nat.reduceAdd, Nat.reduceLeDiff, Nat.le_refl, Nat.zero_le, isD_i, isD_r, isD_l, isD_n, if_true, if_false, ite_true, ite_false, reduceIte, rowQ, e21 rowAP ht, h2, h3, bI_t, i1_ne, nI_clamp (show k < 2 ^ 31 by omega), h1, hw, ok_1]
theorem q41b {x y : Int32} {w : Value} {r : Nat} {g c e : Nat → Int32} {s t : Nat} {σ : Hp} {K : Option Value → Hp → Prop} (ht : t ≤ 24) (hs : s ≤ 24) : X 41 0 [.ref r, .int (nI t), .int x, .int y, w] [] (rowPut r (g, c, e, s, t) σ) K = K (some (.int 0)) (rowPut r (appR g c e s t x y 0) σ) := by
  have h3 : in_ t (nI t) = false := by rw [in_nI (by omega) (by omega)]; exact decide_eq_false (by omega)
  simp only [x41_0, x41_1, x41_2, x41_5, x41_8, x41_9, x41_10, x41_11, x41_12, x41_15, x41_16, x41_17, x41_18, x41_21, x41_22, x41_23, x41_24, x41_27, x41_28, x41_31, x41_32, x41_34, x41_36, x41_39, x41_40, x41_43, x41_44, x41_45, x41_46, x41_47, x41_50, x41_51, x41_52, x41_55, x41_56, x41_57, x41_58, x41_59, x41_62, x41_63, x41_64, x41_65, x41_66, x41_67, x41_68, x41_70, pushO, List.length_cons, List.length_nil, Nat.reduceAdd, Nat.reduceLeDiff, Nat.le_refl, Nat.zero_le, isD_i, isD_r, isD_l, isD_n, if_true, if_false, ite_true, ite_false, reduceIte, rowQ, e21 rowAP ht, h3, bI_f, q42 ht hs, ok_0]
def swpF (f : Nat → Int32) (k : Nat) : Nat → Int32 := upd (upd f (k + 1) (f k)) k (f (k + 1))
theorem q44 {k : Nat} {r : Nat} {g c e : Nat → Int32} {s t : Nat} {σ : Hp} {K : Option Value → Hp → Prop} (ht : t ≤ 24) (hk : k + 1 < t) : X 44 0 [.ref r, .int (nI (k + 1)), .null, .null, .null] [] (rowPut r (g, c, e, s, t) σ) K = K none (rowPut r (swpF g k, swpF c k, swpF e k, s, t) σ) := by
  have h2 : inB (nI (k + 1)) 24 = true := inB_nI (by omega) (by omega)
  have h3 : in_ t (nI (k + 1)) = true := by rw [in_nI (by omega) (by omega)]; exact decide_eq_true hk
  have h4 : in_ t (nI k) = true := by rw [in_nI (by omega) (by omega)]; exact decide_eq_true (by omega)
  have h5 : inB (nI k) 24 = true := inB_nI (by omega) (by omega)
  have h6 : ∀ (f : Nat → Int32) (x : Int32), upd f (k + 1) x k = f k := fun f x => if_neg (by omega)
  have h7 : ∀ (f : Nat → Int32) (x : Int32), upd f k x (k + 1) = f (k + 1) := fun f x => if_neg (by omega)
  simp only [x44_0, x44_1, x44_2, x44_5, x44_8, x44_9, x44_10, x44_11, x44_12, x44_15, x44_18, x44_19, x44_20, x44_23, x44_24, x44_25, x44_26, x44_27, x44_30, x44_31, x44_32, x44_33, x44_34, x44_37, x44_38, x44_39, x44_41, x44_42, x44_45, x44_46, x44_47, x44_50, x44_51, x44_52, x44_53, x44_54, x44_55, x44_56, x44_59, x44_60, x44_61, x44_64, x44_65, x44_66, x44_67, x44_68, x44_69, x44_70, x44_73, x44_74, x44_75, x44_78, x44_79, x44_80, x44_81, x44_82, x44_83, x44_84, x44_87, x44_88, x44_89, x44_90, x44_91, x44_92, x44_93, x44_96, x44_97, x44_98, x44_99, x44_100, x44_101, x44_102, x44_105, x44_106, x44_107, x44_108, x44_110, x44_111, pushO, List.length_cons, List.length_nil, Nat.reduceAdd, Nat.reduceLeDiff, Nat.le_refl, Nat.zero_le, isD_i, isD_r, isD_l, isD_n, if_true, if_false, ite_true, ite_false, reduceIte, rowQ, e21 rowAP ht, nI_pred, h2, h3, h4, h5, bI_t, i1_ne, nI_clamp (show k + 1 < 2 ^ 31 by omega), nI_clamp (show k < 2 ^ 31 by omega), h6, h7, swpF]
def ihN (g c e : Nat → Int32) (i j : Nat) : Bool := if c i = c j then (if e i = e j then decide (g i < g j) else decide (e i < e j)) else decide (c j < c i)
theorem ih_nI {g c e : Nat → Int32} {t i j : Nat} (hi : i < t) (hj : j < t) (ht : t < 2 ^ 31) : ihR g c e t (nI i) (nI j) = ihN g c e i j := by unfold ihR ihN; rw [at_nI hi ht, at_nI hj ht, at_nI hi ht, at_nI hj ht, at_nI hi ht, at_nI hj ht]
def insF : Nat → (Nat → Int32) × (Nat → Int32) × (Nat → Int32) → (Nat → Int32) × (Nat → Int32) × (Nat → Int32)
  | 0, q => q
  | k + 1, q => if ihN q.1 q.2.1 q.2.2 (k + 1) k = true then insF k (swpF q.1 k, swpF q.2.1 k, swpF q.2.2 k) else q
theorem l43 {x y z : Int32} {r : Nat} {s t : Nat} {σ : Hp} {K : Option Value → Hp → Prop} (ht : t ≤ 24) : ∀ (k : Nat) (g c e : Nat → Int32), k < t → X 43 15 [.ref r, .int x, .int y, .int z, .int (nI k)] [] (rowPut r (g, c, e, s, t) σ) K = K none (rowPut r ((insF k (g, c, e)).1, (insF k (g, c, e)).2.1, (insF k (g, c, e)).2.2, s, t) σ) := by
  intro k
  induction k with
  | zero =>
    intro g c e hk
    rw [x43_15]
    simp only [x43_0, x43_1, x43_2, x43_3, x43_4, x43_7, x43_8, x43_11, x43_12, x43_13, x43_17, x43_20, x43_21, x43_23, x43_25, x43_26, x43_27, x43_30, x43_33, x43_34, x43_36, x43_39, x43_42, x43_45, pushO, List.length_cons, List.length_nil, Nat.reduceAdd, Nat.reduceLeDiff, Nat.le_refl, Nat.zero_le, isD_i, isD_r, isD_l, isD_n, if_true, if_false, ite_true, ite_false, reduceIte, nI_0lt (show 0 < 2 ^ 31 by omega), Nat.lt_irrefl, insF]
  | succ k ih =>
    intro g c e hk
    rw [x43_15]
    simp only [x43_0, x43_1, x43_2, x43_3, x43_4, x43_7, x43_8, x43_11, x43_12, x43_13, x43_17, x43_20, x43_21, x43_23, x43_25, x43_26, x43_27, x43_30, x43_33, x43_34, x43_36, x43_39, x43_42, x43_45, pushO, List.length_cons, List.length_nil, Nat.reduceAdd, Nat.reduceLeDiff, Nat.le_refl, Nat.zero_le, isD_i, isD_r, isD_l, isD_n, if_true, if_false, ite_true, ite_false, reduceIte, rowQ, nI_0lt (show k + 1 < 2 ^ 31 by omega), Nat.succ_pos, nI_pred, nI_dec, e37 rowAP ht, ih_nI (g := g) (c := c) (e := e) hk (show k < t by omega) (by omega), insF, bI_0]
    cases h2 : ihN g c e (k + 1) k
    · simp only [Bool.false_eq_true, if_false, if_true]
    · simp only [Bool.true_eq_false, if_false, if_true, q44 ht hk, x43_0, x43_1, x43_2, x43_3, x43_4, x43_7, x43_8, x43_11, x43_12, x43_13, x43_17, x43_20, x43_21, x43_23, x43_25, x43_26, x43_27, x43_30, x43_33, x43_34, x43_36, x43_39, x43_42, x43_45, pushO, List.length_cons, List.length_nil, Nat.reduceAdd, Nat.reduceLeDiff, Nat.le_refl, Nat.zero_le, isD_i, isD_r, isD_l, isD_n, if_true, if_false, ite_true, ite_false, reduceIte]
      exact ih _ _ _ (by omega)
theorem q43 {x y z : Int32} {r : Nat} {g c e : Nat → Int32} {s t : Nat} {σ : Hp} {K : Option Value → Hp → Prop} (hs : s ≤ 24) (ht : t < s) : X 43 0 [.ref r, .int x, .int y, .int z, .null] [] (rowPut r (g, c, e, s, t) σ) K = K none (rowPut r ((insF t (upd g t x, upd c t y, upd e t z)).1, (insF t (upd g t x, upd c t y, upd e t z)).2.1, (insF t (upd g t x, upd c t y, upd e t z)).2.2, s, t + 1) σ) := by
  simp only [x43_0, x43_1, x43_2, x43_3, x43_4, x43_7, x43_8, x43_11, x43_12, pushO, List.length_cons, List.length_nil, Nat.reduceAdd, Nat.reduceLeDiff, Nat.le_refl, Nat.zero_le, isD_i, isD_r, isD_l, isD_n, if_true, if_false, ite_true, ite_false, reduceIte, rowQ, q42 (show t ≤ 24 by omega) hs, appR, ht, x43_13, nI_pred]
  exact l43 (by omega) t _ _ _ (by omega)
def shF : (Nat → Int32) → Nat → Nat → Nat → Int32
  | f, 0, _ => f
  | f, n + 1, b => shF (upd f b (f (b + 1))) n (b + 1)
theorem l48 {i : Int32} {r : Nat} {s t : Nat} {σ : Hp} {K : Option Value → Hp → Prop} (ht : t ≤ 24) : ∀ (n b : Nat) (g c e : Nat → Int32), t - (b + 1) = n → b < t → X 48 13 [.ref r, .int i, .int (nI (b + 1))] [] (rowPut r (g, c, e, s, t) σ) K = K none (rowPut r (shF g n b, shF c n b, shF e n b, s, t - 1) σ) := by
  intro n
  induction n with
  | zero =>
    intro b g c e hn hb
    have h1 : ¬ nI (b + 1) < nI t := nI_nlt (by omega) (by omega)
    rw [x48_13]
    simp only [x48_0, x48_1, x48_2, x48_5, x48_8, x48_9, x48_10, x48_11, x48_12, x48_14, x48_15, x48_18, x48_21, x48_22, x48_23, x48_26, x48_27, x48_30, x48_31, x48_34, x48_35, x48_36, x48_37, x48_38, x48_41, x48_42, x48_43, x48_44, x48_45, x48_48, x48_49, x48_50, x48_51, x48_52, x48_55, x48_56, x48_57, x48_58, x48_59, x48_62, x48_63, x48_64, x48_65, x48_66, x48_69, x48_70, x48_71, x48_72, x48_75, x48_78, x48_79, x48_79i, x48_80, x48_83, x48_84, x48_85, x48_88, pushO, List.length_cons, List.length_nil, Nat.reduceAdd, Nat.reduceLeDiff, Nat.le_refl, Nat.zero_le, isD_i, isD_r, isD_l, isD_n, if_true, if_false, ite_true, ite_false, reduceIte, rowQ, h1, shF, nI_sub1 (show 0 < t by omega)]
  | succ n ih =>
    intro b g c e hn hb
    have h1 : nI (b + 1) < nI t := nI_lt (by omega) (by omega)
    have h2 : inB (nI (b + 1)) 24 = true := inB_nI (by omega) (by omega)
    have h5 : inB (nI b) 24 = true := inB_nI (by omega) (by omega)
    have h4 : nI (b + 1) < 24 := by rw [nI_24, nI_lt_iff (by omega) (by omega)]; omega
    rw [x48_13]
    simp only [x48_0, x48_1, x48_2, x48_5, x48_8, x48_9, x48_10, x48_11, x48_12, x48_14, x48_15, x48_18, x48_21, x48_22, x48_23, x48_26, x48_27, x48_30, x48_31, x48_34, x48_35, x48_36, x48_37, x48_38, x48_41, x48_42, x48_43, x48_44, x48_45, x48_48, x48_49, x48_50, x48_51, x48_52, x48_55, x48_56, x48_57, x48_58, x48_59, x48_62, x48_63, x48_64, x48_65, x48_66, x48_69, x48_70, x48_71, x48_72, x48_75, x48_78, x48_79, x48_79i, x48_80, x48_83, x48_84, x48_85, x48_88, pushO, List.length_cons, List.length_nil, Nat.reduceAdd, Nat.reduceLeDiff, Nat.le_refl, Nat.zero_le, isD_i, isD_r, isD_l, isD_n, if_true, if_false, ite_true, ite_false, reduceIte, rowQ, h1, h2, h4, h5, nI_pred, nI_clamp (show b + 1 < 2 ^ 31 by omega), nI_clamp (show b < 2 ^ 31 by omega), shF]
    rw [← nI_succ (b + 1)]
    exact ih (b + 1) _ _ _ (by omega) (by omega)
theorem q48 {k : Nat} {r : Nat} {g c e : Nat → Int32} {s t : Nat} {σ : Hp} {K : Option Value → Hp → Prop} (ht : t ≤ 24) (hk : k < t) : X 48 0 [.ref r, .int (nI k), .null] [] (rowPut r (g, c, e, s, t) σ) K = K none (rowPut r (shF g (t - (k + 1)) k, shF c (t - (k + 1)) k, shF e (t - (k + 1)) k, s, t - 1) σ) := by
  have h3 : in_ t (nI k) = true := by rw [in_nI (by omega) (by omega)]; exact decide_eq_true hk
  simp only [x48_0, x48_1, x48_2, x48_5, x48_8, x48_9, x48_10, x48_11, x48_12, pushO, List.length_cons, List.length_nil, Nat.reduceAdd, Nat.reduceLeDiff, Nat.le_refl, Nat.zero_le, isD_i, isD_r, isD_l, isD_n, if_true, if_false, ite_true, ite_false, reduceIte, rowQ, e21 rowAP ht, h3, bI_t, i1_ne, ← nI_succ]
  exact l48 ht _ k _ _ _ rfl hk
theorem ftgN_lt {c e : Nat → Int32} {t : Nat} : 0 < t → ftgN c e t < t := by
  have key : ∀ n k b, t - k = n → b < t → fold (fun b k => if gbN c e k b = true then k else b) n k b < t := by
    intro n
    induction n with
    | zero => intro k b _ hb; exact hb
    | succ n ih =>
      intro k b hk hb
      unfold fold
      refine ih (k + 1) _ (by omega) ?_
      by_cases h : gbN c e k b = true
      · rw [if_pos h]; omega
      · rw [if_neg h]; exact hb
  intro h
  exact key (t - 1) 1 0 rfl h
def chgF : Nat → (Nat → Int32) → (Nat → Int32) → (Nat → Int32) → Nat → (Nat → Int32) × (Nat → Int32) × (Nat → Int32)
  | 0, g, c, e, _ => (g, c, e)
  | n + 1, g, c, e, t => chgF n (shF g (t - (ftgN c e t + 1)) (ftgN c e t)) (shF c (t - (ftgN c e t + 1)) (ftgN c e t)) (shF e (t - (ftgN c e t + 1)) (ftgN c e t)) (t - 1)
theorem l47 {r m : Nat} {σ : Hp} {K : Option Value → Hp → Prop} (hm : m ≤ 24) : ∀ (n t : Nat) (g c e : Nat → Int32), t - m = n → t ≤ 24 → X 47 10 [.ref r, .int (nI m), .int (nI t)] [] (rowPut r (g, c, e, m, t) σ) K = K none (rowPut r ((chgF n g c e t).1, (chgF n g c e t).2.1, (chgF n g c e t).2.2, m, t - n) σ) := by
  intro n
  induction n with
  | zero =>
    intro t g c e hn ht
    have h1 : ¬ nI m < nI t := nI_nlt (by omega) (by omega)
    rw [x47_10]
    simp only [x47_0, x47_1, x47_2, x47_5, x47_6, x47_9, x47_11, x47_12, x47_15, x47_16, x47_17, x47_20, x47_23, x47_26, x47_29, pushO, List.length_cons, List.length_nil, Nat.reduceAdd, Nat.reduceLeDiff, Nat.le_refl, Nat.zero_le, isD_i, isD_r, isD_l, isD_n, if_true, if_false, ite_true, ite_false, reduceIte, rowQ, h1, chgF, Nat.sub_zero]
  | succ n ih =>
    intro t g c e hn ht
    have h1 : nI m < nI t := nI_lt (by omega) (by omega)
    rw [x47_10]
    simp only [x47_0, x47_1, x47_2, x47_5, x47_6, x47_9, x47_11, x47_12, x47_15, x47_16, x47_17, x47_20, x47_23, x47_26, x47_29, pushO, List.length_cons, List.length_nil, Nat.reduceAdd, Nat.reduceLeDiff, Nat.le_refl, Nat.zero_le, isD_i, isD_r, isD_l, isD_n, if_true, if_false, ite_true, ite_false, reduceIte, rowQ, h1, e35 rowAP ht, q48 ht (ftgN_lt (c := c) (e := e) (show 0 < t by omega)), chgF]
    have h2 : nI t + (-1) = nI (t - 1) := by
      obtain ⟨k, rfl⟩ : ∃ k, t = k + 1 := ⟨t - 1, by omega⟩
      exact nI_dec k
    rw [h2, ih (t - 1) _ _ _ (by omega) (by omega), show t - 1 - n = t - (n + 1) by omega]
theorem q47 {m : Nat} {r : Nat} {g c e : Nat → Int32} {s t : Nat} {σ : Hp} {K : Option Value → Hp → Prop} (hm : m ≤ 24) (ht : t ≤ 24) : X 47 0 [.ref r, .int (nI m), .null] [] (rowPut r (g, c, e, s, t) σ) K = K none (rowPut r ((chgF (t - m) g c e t).1, (chgF (t - m) g c e t).2.1, (chgF (t - m) g c e t).2.2, m, t - (t - m)) σ) := by
  simp only [x47_0, x47_1, x47_2, x47_5, x47_6, x47_9, pushO, List.length_cons, List.length_nil, Nat.reduceAdd, Nat.reduceLeDiff, Nat.le_refl, Nat.zero_le, isD_i, isD_r, isD_l, isD_n, if_true, if_false, ite_true, ite_false, reduceIte, rowQ]
  exact l47 hm _ t _ _ _ rfl ht
theorem two_ne : ¬ (2 : Int32) = 0 := by decide +kernel
def halF (s : Nat) : Nat → Nat → (Nat → Int32) → (Nat → Int32) → (Nat → Int32) → Nat → RowM
  | 0, _, g, c, e, t1 => (g, c, e, s, t1)
  | n + 1, k, g, c, e, t1 => if 0 < c k / 2 then halF s n (k + 1) (upd g t1 (g k)) (upd c t1 (c k / 2)) (upd e t1 (e k / 2)) (t1 + 1) else halF s n (k + 1) g c e t1
theorem l49 {r s t0 : Nat} {σ : Hp} {K : Option Value → Hp → Prop} (hs : s ≤ 24) (ht0 : t0 ≤ s) : ∀ (n k t1 : Nat) (g c e : Nat → Int32), t0 - k = n → k ≤ t0 → t1 ≤ k → X 49 11 [.ref r, .int (nI t0), .int (nI k)] [] (rowPut r (g, c, e, s, t1) σ) K = K none (rowPut r (halF s n k g c e t1) σ) := by
  intro n
  induction n with
  | zero =>
    intro k t1 g c e hn hk ht1
    have h1 : ¬ nI k < nI t0 := nI_nlt (by omega) (by omega)
    rw [x49_11]
    simp only [x49_0, x49_1, x49_4, x49_5, x49_6, x49_9, x49_10, x49_12, x49_13, x49_16, x49_17, x49_18, x49_21, x49_22, x49_25, x49_26, x49_29, x49_30, x49_31, x49_32, x49_33, x49_36, x49_37, x49_38, x49_41, x49_42, x49_43, x49_44, x49_47, x49_48, x49_49, x49_50, x49_51, x49_52, x49_55, x49_56, x49_57, x49_58, x49_59, x49_62, x49_65, x49_68, pushO, List.length_cons, List.length_nil, Nat.reduceAdd, Nat.reduceLeDiff, Nat.le_refl, Nat.zero_le, isD_i, isD_r, isD_l, isD_n, if_true, if_false, ite_true, ite_false, reduceIte, rowQ, h1, halF]
  | succ n ih =>
    intro k t1 g c e hn hk ht1
    have h1 : nI k < nI t0 := nI_lt (by omega) (by omega)
    have h2 : inB (nI k) 24 = true := inB_nI (by omega) (by omega)
    have h4 : nI k < 24 := by rw [nI_24, nI_lt_iff (by omega) (by omega)]; omega
    rw [x49_11]
    simp only [x49_0, x49_1, x49_4, x49_5, x49_6, x49_9, x49_10, x49_12, x49_13, x49_16, x49_17, x49_18, x49_21, x49_22, x49_25, x49_26, x49_29, x49_30, x49_31, x49_32, x49_33, x49_36, x49_37, x49_38, x49_41, x49_42, x49_43, x49_44, x49_47, x49_48, x49_49, x49_50, x49_51, x49_52, x49_55, x49_56, x49_57, x49_58, x49_59, x49_62, x49_65, x49_68, pushO, List.length_cons, List.length_nil, Nat.reduceAdd, Nat.reduceLeDiff, Nat.le_refl, Nat.zero_le, isD_i, isD_r, isD_l, isD_n, if_true, if_false, ite_true, ite_false, reduceIte, rowQ, h1, h2, h4, nI_clamp (show k < 2 ^ 31 by omega), two_ne, not_false_eq_true, halF, q42 (show t1 ≤ 24 by omega) hs, appR, show t1 < s by omega, ← nI_succ]
    rw [ih (k + 1) (t1 + 1) _ _ _ (by omega) (by omega) (by omega), ih (k + 1) t1 _ _ _ (by omega) (by omega) (by omega)]
    by_cases h5 : 0 < c k / 2
    · simp only [h5, if_true]
    · simp only [h5, if_false]
theorem q49 {r : Nat} {g c e : Nat → Int32} {s t : Nat} {σ : Hp} {K : Option Value → Hp → Prop} (hs : s ≤ 24) (ht : t ≤ s) : X 49 0 [.ref r, .null, .null] [] (rowPut r (g, c, e, s, t) σ) K = K none (rowPut r (halF s t 0 g c e 0) σ) := by
  simp only [x49_0, x49_1, x49_4, x49_5, x49_6, x49_9, x49_10, pushO, List.length_cons, List.length_nil, Nat.reduceAdd, Nat.reduceLeDiff, Nat.le_refl, Nat.zero_le, isD_i, isD_r, isD_l, isD_n, if_true, if_false, ite_true, ite_false, reduceIte, rowQ, q45]
  exact l49 hs ht t 0 0 _ _ _ rfl (by omega) (by omega)
def cpN (f2 : Nat → Int32) : (Nat → Int32) → Nat → Nat → Nat → Int32
  | f, 0, _ => f
  | f, n + 1, k => cpN f2 (upd f k (f2 k)) n (k + 1)
theorem l46 {r q : Nat} {g2 c2 e2 : Nat → Int32} {s2 t2 s : Nat} {σ : Hp} {K : Option Value → Hp → Prop} (h2 : rowAt q (g2, c2, e2, s2, t2) σ) (hq : q + 4 ≤ r ∨ r + 4 ≤ q) (hs : s ≤ 24) (ht2 : t2 ≤ 24) : ∀ (n k : Nat) (g c e : Nat → Int32), min s t2 - k = n → k ≤ min s t2 → X 46 6 [.ref r, .ref q, .int (nI k)] [] (rowPut r (g, c, e, s, k) σ) K = K none (rowPut r (cpN g2 g n k, cpN c2 c n k, cpN e2 e n k, s, min s t2) σ) := by
  intro n
  induction n with
  | zero =>
    intro k g c e hn hk
    have hq2 : rowAt q (g2, c2, e2, s2, t2) (rowPut r (g, c, e, s, k) σ) := rowOff h2 hq
    rw [x46_6]
    by_cases h1 : k < s
    · have h3 : ¬ k < t2 := by omega
      simp only [x46_0, x46_1, x46_4, x46_5, x46_7, x46_8, x46_11, x46_14, x46_15, x46_16, x46_19, x46_22, x46_23, x46_24, x46_25, x46_28, x46_29, x46_30, x46_33, x46_34, x46_35, x46_38, x46_41, x46_44, x46_47, pushO, List.length_cons, List.length_nil, Nat.reduceAdd, Nat.reduceLeDiff, Nat.le_refl, Nat.zero_le, isD_i, isD_r, isD_l, isD_n, if_true, if_false, ite_true, ite_false, reduceIte, rowQ, rowS hq2, nI_lt_iff (show k < 2 ^ 31 by omega) (show s < 2 ^ 31 by omega), nI_lt_iff (show k < 2 ^ 31 by omega) (show t2 < 2 ^ 31 by omega), h1, h3, cpN]
      rw [show min s t2 = k by omega]
    · simp only [x46_0, x46_1, x46_4, x46_5, x46_7, x46_8, x46_11, x46_14, x46_15, x46_16, x46_19, x46_22, x46_23, x46_24, x46_25, x46_28, x46_29, x46_30, x46_33, x46_34, x46_35, x46_38, x46_41, x46_44, x46_47, pushO, List.length_cons, List.length_nil, Nat.reduceAdd, Nat.reduceLeDiff, Nat.le_refl, Nat.zero_le, isD_i, isD_r, isD_l, isD_n, if_true, if_false, ite_true, ite_false, reduceIte, rowQ, rowS hq2, nI_lt_iff (show k < 2 ^ 31 by omega) (show s < 2 ^ 31 by omega), h1, cpN]
      rw [show min s t2 = k by omega]
  | succ n ih =>
    intro k g c e hn hk
    have hq2 : rowAt q (g2, c2, e2, s2, t2) (rowPut r (g, c, e, s, k) σ) := rowOff h2 hq
    have h1 : k < s := by omega
    have h3 : k < t2 := by omega
    rw [x46_6]
    simp only [x46_0, x46_1, x46_4, x46_5, x46_7, x46_8, x46_11, x46_14, x46_15, x46_16, x46_19, x46_22, x46_23, x46_24, x46_25, x46_28, x46_29, x46_30, x46_33, x46_34, x46_35, x46_38, x46_41, x46_44, x46_47, pushO, List.length_cons, List.length_nil, Nat.reduceAdd, Nat.reduceLeDiff, Nat.le_refl, Nat.zero_le, isD_i, isD_r, isD_l, isD_n, if_true, if_false, ite_true, ite_false, reduceIte, rowQ, rowS hq2, nI_lt_iff (show k < 2 ^ 31 by omega) (show s < 2 ^ 31 by omega), nI_lt_iff (show k < 2 ^ 31 by omega) (show t2 < 2 ^ 31 by omega), h1, h3, e22 hq2 ht2, e23 hq2 ht2, e24 hq2 ht2, at_nI (f := g2) h3 (by omega), at_nI (f := c2) h3 (by omega), at_nI (f := e2) h3 (by omega), q42 (show k ≤ 24 by omega) hs, appR, ← nI_succ, cpN]
    exact ih (k + 1) _ _ _ (by omega) (by omega)
theorem q46 {q : Nat} {g2 c2 e2 : Nat → Int32} {s2 t2 : Nat} {r : Nat} {g c e : Nat → Int32} {s t : Nat} {σ : Hp} {K : Option Value → Hp → Prop} (h2 : rowAt q (g2, c2, e2, s2, t2) σ) (hq : q + 4 ≤ r ∨ r + 4 ≤ q) (hs : s ≤ 24) (ht2 : t2 ≤ 24) : X 46 0 [.ref r, .ref q, .null] [] (rowPut r (g, c, e, s, t) σ) K = K none (rowPut r (cpN g2 g (min s t2) 0, cpN c2 c (min s t2) 0, cpN e2 e (min s t2) 0, s, min s t2) σ) := by
  simp only [x46_0, x46_1, x46_4, x46_5, pushO, List.length_cons, List.length_nil, Nat.reduceAdd, Nat.reduceLeDiff, Nat.le_refl, Nat.zero_le, isD_i, isD_r, isD_l, isD_n, if_true, if_false, ite_true, ite_false, reduceIte, rowQ, q45]
  exact l46 h2 hq hs ht2 _ 0 _ _ _ rfl (by omega)
theorem okC_ar {σ : Hp} {a b n0 n1 : Nat} {f g : Nat → Int32} {sp dp n : Int32} (h : σ.1 a = some (.inr (.inl (0, n0, f)))) (h2 : σ.1 b = some (.inr (.inl (0, n1, g)))) : okC σ a sp b dp n = (decide (¬ sp < 0) && decide (¬ dp < 0) && decide (¬ n < 0) && decide (sp.toNatClampNeg + n.toNatClampNeg ≤ n0) && decide (dp.toNatClampNeg + n.toNatClampNeg ≤ n1)) := by
  unfold okC
  rw [h, h2]
  rfl
theorem cpyF_all {f g : Nat → Int32} {n : Nat} : cpyF f g 0 0 n n = f := by
  funext k
  unfold cpyF va_cpy
  by_cases h : k < n
  · rw [if_pos h, if_pos (by omega)]
    simp
  · rw [if_neg h]
theorem pC_ar {σ : Hp} {a b n : Nat} {f g : Nat → Int32} {m : Int32} (hm : m.toNatClampNeg = n) (h : σ.1 a = some (.inr (.inl (0, n, f)))) (h2 : σ.1 b = some (.inr (.inl (0, n, g)))) : pC σ a 0 b 0 m = hset σ b (.inr (.inl (0, n, f))) := by
  unfold pC
  rw [h, h2]
  dsimp only
  rw [hm, show (0 : Int32).toNatClampNeg = 0 from rfl, cpyF_all]
