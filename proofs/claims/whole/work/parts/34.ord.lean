/-! what the reader of orders does, sign by sign -/
def ordB : OrdM := (0, 0, 0, 0, 0, 1)
theorem q5 {r : Nat} {pl kd sm gu le ti : Int32} {σ : Hp} {K : Option Value → Hp → Prop} : X 5 0 [.ref r] [] (ordPut r (pl, kd, sm, gu, le, ti) σ) K = K none (ordPut r ordB σ) := by
  simp only [x5_0, x5_1, x5_2, x5_5, x5_6, x5_7, x5_10, x5_11, x5_12, x5_15, x5_16, x5_17, x5_20, x5_21, x5_22, x5_25, x5_26, x5_27, x5_30, pushO, List.length_cons, List.length_nil, Nat.reduceAdd, Nat.reduceLeDiff, Nat.le_refl, Nat.zero_le, isD_i, isD_r, isD_l, isD_n, if_true, if_false, ite_true, ite_false, reduceIte, ordQ, ordB]
def ordE (pl : Int32) : Bool := if pl = 2 then true else if pl = 4 then true else decide (pl = 6)
theorem q6 {r : Nat} {pl kd sm gu le ti : Int32} {σ : Hp} {K : Option Value → Hp → Prop} : X 6 0 [.ref r] [] (ordPut r (pl, kd, sm, gu, le, ti) σ) K = K (some (.int (bI (ordE pl)))) (ordPut r (pl, kd, sm, gu, le, ti) σ) := by
  unfold ordE
  by_cases h1 : pl = 2
  · simp only [x6_0, x6_1, x6_4, x6_5, x6_8, x6_9, x6_12, x6_13, x6_16, x6_17, x6_20, x6_22, x6_25, x6_26, x6_29, x6_30, pushO, List.length_cons, List.length_nil, Nat.reduceAdd, Nat.reduceLeDiff, Nat.le_refl, Nat.zero_le, isD_i, isD_r, isD_l, isD_n, if_true, if_false, ite_true, ite_false, reduceIte, ordQ, h1, ok_1, bI_t]
  · by_cases h2 : pl = 4
    · subst h2
      simp only [x6_0, x6_1, x6_4, x6_5, x6_8, x6_9, x6_12, x6_13, x6_16, x6_17, x6_20, x6_22, x6_25, x6_26, x6_29, x6_30, pushO, List.length_cons, List.length_nil, Nat.reduceAdd, Nat.reduceLeDiff, Nat.le_refl, Nat.zero_le, isD_i, isD_r, isD_l, isD_n, if_true, if_false, ite_true, ite_false, reduceIte, ordQ, h1, ok_1, bI_t]
    · by_cases h3 : pl = 6
      · subst h3
        simp only [x6_0, x6_1, x6_4, x6_5, x6_8, x6_9, x6_12, x6_13, x6_16, x6_17, x6_20, x6_22, x6_25, x6_26, x6_29, x6_30, pushO, List.length_cons, List.length_nil, Nat.reduceAdd, Nat.reduceLeDiff, Nat.le_refl, Nat.zero_le, isD_i, isD_r, isD_l, isD_n, if_true, if_false, ite_true, ite_false, reduceIte, ordQ, h1, h2, ok_1, bI_t, decide_true]
      · simp only [x6_0, x6_1, x6_4, x6_5, x6_8, x6_9, x6_12, x6_13, x6_16, x6_17, x6_20, x6_22, x6_25, x6_26, x6_29, x6_30, pushO, List.length_cons, List.length_nil, Nat.reduceAdd, Nat.reduceLeDiff, Nat.le_refl, Nat.zero_le, isD_i, isD_r, isD_l, isD_n, if_true, if_false, ite_true, ite_false, reduceIte, ordQ, h1, h2, h3, ok_0, bI_f, decide_false]
def letF (O : OrdM) (x : Int32) : Bool × OrdM := if x < 97 then (false, O) else if 122 < x then (false, O) else if O.2.2.2.2.1 < 4 then (true, (2, O.2.1, O.2.2.1, 27 * O.2.2.2.1 + (x - 97 + 1), O.2.2.2.2.1 + 1, O.2.2.2.2.2)) else (false, O)
theorem q10 {x : Int32} {r : Nat} {pl kd sm gu le ti : Int32} {σ : Hp} {K : Option Value → Hp → Prop} : X 10 0 [.ref r, .int x] [] (ordPut r (pl, kd, sm, gu, le, ti) σ) K = K (some (.int (bI (letF (pl, kd, sm, gu, le, ti) x).1))) (ordPut r (letF (pl, kd, sm, gu, le, ti) x).2 σ) := by
  unfold letF
  by_cases h1 : x < 97
  · simp only [x10_0, x10_1, x10_3, x10_6, x10_7, x10_9, x10_12, x10_13, x10_16, x10_17, x10_20, x10_21, x10_22, x10_23, x10_25, x10_26, x10_29, x10_30, x10_31, x10_33, x10_34, x10_35, x10_36, x10_37, x10_40, x10_41, x10_41i, x10_42, x10_45, x10_46, x10_47, x10_50, x10_51, x10_52, x10_55, x10_56, pushO, List.length_cons, List.length_nil, Nat.reduceAdd, Nat.reduceLeDiff, Nat.le_refl, Nat.zero_le, isD_i, isD_r, isD_l, isD_n, if_true, if_false, ite_true, ite_false, reduceIte, ordQ, h1, ok_0, bI_f]
  · by_cases h2 : 122 < x
    · simp only [x10_0, x10_1, x10_3, x10_6, x10_7, x10_9, x10_12, x10_13, x10_16, x10_17, x10_20, x10_21, x10_22, x10_23, x10_25, x10_26, x10_29, x10_30, x10_31, x10_33, x10_34, x10_35, x10_36, x10_37, x10_40, x10_41, x10_41i, x10_42, x10_45, x10_46, x10_47, x10_50, x10_51, x10_52, x10_55, x10_56, pushO, List.length_cons, List.length_nil, Nat.reduceAdd, Nat.reduceLeDiff, Nat.le_refl, Nat.zero_le, isD_i, isD_r, isD_l, isD_n, if_true, if_false, ite_true, ite_false, reduceIte, ordQ, h1, h2, ok_0, bI_f]
    · by_cases h3 : le < 4
      · simp only [x10_0, x10_1, x10_3, x10_6, x10_7, x10_9, x10_12, x10_13, x10_16, x10_17, x10_20, x10_21, x10_22, x10_23, x10_25, x10_26, x10_29, x10_30, x10_31, x10_33, x10_34, x10_35, x10_36, x10_37, x10_40, x10_41, x10_41i, x10_42, x10_45, x10_46, x10_47, x10_50, x10_51, x10_52, x10_55, x10_56, pushO, List.length_cons, List.length_nil, Nat.reduceAdd, Nat.reduceLeDiff, Nat.le_refl, Nat.zero_le, isD_i, isD_r, isD_l, isD_n, if_true, if_false, ite_true, ite_false, reduceIte, ordQ, h1, h2, h3, ok_1, bI_t]
      · simp only [x10_0, x10_1, x10_3, x10_6, x10_7, x10_9, x10_12, x10_13, x10_16, x10_17, x10_20, x10_21, x10_22, x10_23, x10_25, x10_26, x10_29, x10_30, x10_31, x10_33, x10_34, x10_35, x10_36, x10_37, x10_40, x10_41, x10_41i, x10_42, x10_45, x10_46, x10_47, x10_50, x10_51, x10_52, x10_55, x10_56, pushO, List.length_cons, List.length_nil, Nat.reduceAdd, Nat.reduceLeDiff, Nat.le_refl, Nat.zero_le, isD_i, isD_r, isD_l, isD_n, if_true, if_false, ite_true, ite_false, reduceIte, ordQ, h1, h2, h3, ok_0, bI_f]
def staF (O : OrdM) (x : Int32) : Bool × OrdM := if x = 37 then (true, (5, 1, O.2.2)) else if x = 38 then (true, (6, 2, O.2.2)) else if x = 62 then (true, (1, O.2.1, 1, O.2.2.2)) else letF O x
theorem q9 {x : Int32} {r : Nat} {pl kd sm gu le ti : Int32} {σ : Hp} {K : Option Value → Hp → Prop} : X 9 0 [.ref r, .int x] [] (ordPut r (pl, kd, sm, gu, le, ti) σ) K = K (some (.int (bI (staF (pl, kd, sm, gu, le, ti) x).1))) (ordPut r (staF (pl, kd, sm, gu, le, ti) x).2 σ) := by
  unfold staF
  by_cases h1 : x = 37
  · simp only [x9_0, x9_1, x9_36, x9_37, x9_38, x9_41, x9_42, x9_43, x9_46, x9_47, x9_48, x9_49, x9_50, x9_53, x9_54, x9_55, x9_58, x9_59, x9_60, x9_61, x9_62, x9_65, x9_66, x9_68, x9_71, x9_72, x9_73, x9_74, x9_75, x9_78, pushO, List.length_cons, List.length_nil, Nat.reduceAdd, Nat.reduceLeDiff, Nat.le_refl, Nat.zero_le, isD_i, isD_r, isD_l, isD_n, if_true, if_false, ite_true, ite_false, reduceIte, ordQ, h1, ok_1, bI_t]
  · by_cases h2 : x = 38
    · subst h2
      simp only [x9_0, x9_1, x9_36, x9_37, x9_38, x9_41, x9_42, x9_43, x9_46, x9_47, x9_48, x9_49, x9_50, x9_53, x9_54, x9_55, x9_58, x9_59, x9_60, x9_61, x9_62, x9_65, x9_66, x9_68, x9_71, x9_72, x9_73, x9_74, x9_75, x9_78, pushO, List.length_cons, List.length_nil, Nat.reduceAdd, Nat.reduceLeDiff, Nat.le_refl, Nat.zero_le, isD_i, isD_r, isD_l, isD_n, if_true, if_false, ite_true, ite_false, reduceIte, ordQ, h1, ok_1, bI_t]
    · by_cases h3 : x = 62
      · subst h3
        simp only [x9_0, x9_1, x9_36, x9_37, x9_38, x9_41, x9_42, x9_43, x9_46, x9_47, x9_48, x9_49, x9_50, x9_53, x9_54, x9_55, x9_58, x9_59, x9_60, x9_61, x9_62, x9_65, x9_66, x9_68, x9_71, x9_72, x9_73, x9_74, x9_75, x9_78, pushO, List.length_cons, List.length_nil, Nat.reduceAdd, Nat.reduceLeDiff, Nat.le_refl, Nat.zero_le, isD_i, isD_r, isD_l, isD_n, if_true, if_false, ite_true, ite_false, reduceIte, ordQ, h1, h2, ok_1, bI_t]
      · simp only [x9_0, x9_1, x9_36, x9_37, x9_38, x9_41, x9_42, x9_43, x9_46, x9_47, x9_48, x9_49, x9_50, x9_53, x9_54, x9_55, x9_58, x9_59, x9_60, x9_61, x9_62, x9_65, x9_66, x9_68, x9_71, x9_72, x9_73, x9_74, x9_75, x9_78, pushO, List.length_cons, List.length_nil, Nat.reduceAdd, Nat.reduceLeDiff, Nat.le_refl, Nat.zero_le, isD_i, isD_r, isD_l, isD_n, if_true, if_false, ite_true, ite_false, reduceIte, ordQ, h1, h2, h3, q10, bI_ok]
theorem q11 {r : Nat} {pl kd sm gu le ti : Int32} {σ : Hp} {K : Option Value → Hp → Prop} : X 11 0 [.ref r] [] (ordPut r (pl, kd, sm, gu, le, ti) σ) K = K (some (.int 1)) (ordPut r (3, kd, sm, gu, le, ti) σ) := by
  simp only [x11_0, x11_1, x11_2, x11_5, x11_6, pushO, List.length_cons, List.length_nil, Nat.reduceAdd, Nat.reduceLeDiff, Nat.le_refl, Nat.zero_le, isD_i, isD_r, isD_l, isD_n, if_true, if_false, ite_true, ite_false, reduceIte, ordQ, ok_1]
def isDg (x : Int32) : Bool := if x < 48 then false else !(decide (57 < x))
theorem e15 {x : Int32} {σ : Hp} {K : Option Value → Hp → Prop} : X 15 0 [.int x] [] σ K = K (some (.int (bI (isDg x)))) σ := by
  unfold isDg
  by_cases h1 : x < 48
  · simp only [x15_0, x15_1, x15_3, x15_6, x15_7, x15_9, x15_12, x15_13, x15_16, x15_17, pushO, List.length_cons, List.length_nil, Nat.reduceAdd, Nat.reduceLeDiff, Nat.le_refl, Nat.zero_le, isD_i, isD_r, isD_l, isD_n, if_true, if_false, ite_true, ite_false, reduceIte, h1, ok_0, bI_f]
  · by_cases h2 : 57 < x
    · simp only [x15_0, x15_1, x15_3, x15_6, x15_7, x15_9, x15_12, x15_13, x15_16, x15_17, pushO, List.length_cons, List.length_nil, Nat.reduceAdd, Nat.reduceLeDiff, Nat.le_refl, Nat.zero_le, isD_i, isD_r, isD_l, isD_n, if_true, if_false, ite_true, ite_false, reduceIte, h1, h2, ok_0, bI_f, decide_true, Bool.not_true]
    · simp only [x15_0, x15_1, x15_3, x15_6, x15_7, x15_9, x15_12, x15_13, x15_16, x15_17, pushO, List.length_cons, List.length_nil, Nat.reduceAdd, Nat.reduceLeDiff, Nat.le_refl, Nat.zero_le, isD_i, isD_r, isD_l, isD_n, if_true, if_false, ite_true, ite_false, reduceIte, h1, h2, ok_1, bI_t, decide_false, Bool.not_false]
def fdgF (O : OrdM) (x : Int32) : Bool × OrdM := if isDg x = true then (true, (4, O.2.1, O.2.2.1, O.2.2.2.1, O.2.2.2.2.1, x - 48)) else (false, O)
theorem q12 {x : Int32} {r : Nat} {pl kd sm gu le ti : Int32} {σ : Hp} {K : Option Value → Hp → Prop} : X 12 0 [.ref r, .int x] [] (ordPut r (pl, kd, sm, gu, le, ti) σ) K = K (some (.int (bI (fdgF (pl, kd, sm, gu, le, ti) x).1))) (ordPut r (fdgF (pl, kd, sm, gu, le, ti) x).2 σ) := by
  unfold fdgF
  cases h1 : isDg x
  · simp only [x12_0, x12_1, x12_4, x12_7, x12_8, x12_9, x12_10, x12_11, x12_13, x12_14, x12_17, x12_18, x12_19, x12_22, x12_23, pushO, List.length_cons, List.length_nil, Nat.reduceAdd, Nat.reduceLeDiff, Nat.le_refl, Nat.zero_le, isD_i, isD_r, isD_l, isD_n, if_true, if_false, ite_true, ite_false, reduceIte, ordQ, e15, h1, ok_0, bI_f, Bool.false_eq_true]
  · simp only [x12_0, x12_1, x12_4, x12_7, x12_8, x12_9, x12_10, x12_11, x12_13, x12_14, x12_17, x12_18, x12_19, x12_22, x12_23, pushO, List.length_cons, List.length_nil, Nat.reduceAdd, Nat.reduceLeDiff, Nat.le_refl, Nat.zero_le, isD_i, isD_r, isD_l, isD_n, if_true, if_false, ite_true, ite_false, reduceIte, ordQ, e15, h1, ok_1, bI_t, i1_ne]
def digF (O : OrdM) (x : Int32) : Bool × OrdM := if isDg x = true then (if O.2.2.2.2.2 = 0 then (false, O) else if 999 < 10 * O.2.2.2.2.2 + (x - 48) then (false, O) else (true, (O.1, O.2.1, O.2.2.1, O.2.2.2.1, O.2.2.2.2.1, 10 * O.2.2.2.2.2 + (x - 48)))) else (false, O)
theorem q13 {x : Int32} {r : Nat} {pl kd sm gu le ti : Int32} {σ : Hp} {K : Option Value → Hp → Prop} : X 13 0 [.ref r, .int x] [] (ordPut r (pl, kd, sm, gu, le, ti) σ) K = K (some (.int (bI (digF (pl, kd, sm, gu, le, ti) x).1))) (ordPut r (digF (pl, kd, sm, gu, le, ti) x).2 σ) := by
  unfold digF
  cases h1 : isDg x
  · simp only [x13_0, x13_1, x13_4, x13_7, x13_8, x13_11, x13_14, x13_16, x13_17, x13_20, x13_21, x13_22, x13_24, x13_25, x13_26, x13_29, x13_32, x13_33, x13_34, x13_35, x13_37, x13_38, x13_41, x13_42, x13_43, x13_45, x13_46, x13_47, x13_50, x13_51, pushO, List.length_cons, List.length_nil, Nat.reduceAdd, Nat.reduceLeDiff, Nat.le_refl, Nat.zero_le, isD_i, isD_r, isD_l, isD_n, if_true, if_false, ite_true, ite_false, reduceIte, ordQ, e15, h1, ok_0, bI_f, Bool.false_eq_true]
  · by_cases h2 : ti = 0
    · simp only [x13_0, x13_1, x13_4, x13_7, x13_8, x13_11, x13_14, x13_16, x13_17, x13_20, x13_21, x13_22, x13_24, x13_25, x13_26, x13_29, x13_32, x13_33, x13_34, x13_35, x13_37, x13_38, x13_41, x13_42, x13_43, x13_45, x13_46, x13_47, x13_50, x13_51, pushO, List.length_cons, List.length_nil, Nat.reduceAdd, Nat.reduceLeDiff, Nat.le_refl, Nat.zero_le, isD_i, isD_r, isD_l, isD_n, if_true, if_false, ite_true, ite_false, reduceIte, ordQ, e15, h1, h2, ok_0, bI_t, bI_f, i1_ne]
    · by_cases h3 : 999 < 10 * ti + (x - 48)
      · simp only [x13_0, x13_1, x13_4, x13_7, x13_8, x13_11, x13_14, x13_16, x13_17, x13_20, x13_21, x13_22, x13_24, x13_25, x13_26, x13_29, x13_32, x13_33, x13_34, x13_35, x13_37, x13_38, x13_41, x13_42, x13_43, x13_45, x13_46, x13_47, x13_50, x13_51, pushO, List.length_cons, List.length_nil, Nat.reduceAdd, Nat.reduceLeDiff, Nat.le_refl, Nat.zero_le, isD_i, isD_r, isD_l, isD_n, if_true, if_false, ite_true, ite_false, reduceIte, ordQ, e15, h1, h2, h3, ok_0, bI_t, bI_f, i1_ne]
      · simp only [x13_0, x13_1, x13_4, x13_7, x13_8, x13_11, x13_14, x13_16, x13_17, x13_20, x13_21, x13_22, x13_24, x13_25, x13_26, x13_29, x13_32, x13_33, x13_34, x13_35, x13_37, x13_38, x13_41, x13_42, x13_43, x13_45, x13_46, x13_47, x13_50, x13_51, pushO, List.length_cons, List.length_nil, Nat.reduceAdd, Nat.reduceLeDiff, Nat.le_refl, Nat.zero_le, isD_i, isD_r, isD_l, isD_n, if_true, if_false, ite_true, ite_false, reduceIte, ordQ, e15, h1, h2, h3, ok_1, bI_t, i1_ne]
def ageF (O : OrdM) (x : Int32) : Bool × OrdM := if x = 48 then (true, (6, O.2.1, x - 48, O.2.2.2)) else if x = 49 then (true, (6, O.2.1, x - 48, O.2.2.2)) else (false, O)
theorem q14 {x : Int32} {r : Nat} {pl kd sm gu le ti : Int32} {σ : Hp} {K : Option Value → Hp → Prop} : X 14 0 [.ref r, .int x] [] (ordPut r (pl, kd, sm, gu, le, ti) σ) K = K (some (.int (bI (ageF (pl, kd, sm, gu, le, ti) x).1))) (ordPut r (ageF (pl, kd, sm, gu, le, ti) x).2 σ) := by
  unfold ageF
  by_cases h1 : x = 48
  · simp only [x14_0, x14_1, x14_3, x14_6, x14_7, x14_9, x14_12, x14_13, x14_14, x14_15, x14_16, x14_18, x14_19, x14_22, x14_23, x14_25, x14_28, x14_29, pushO, List.length_cons, List.length_nil, Nat.reduceAdd, Nat.reduceLeDiff, Nat.le_refl, Nat.zero_le, isD_i, isD_r, isD_l, isD_n, if_true, if_false, ite_true, ite_false, reduceIte, ordQ, h1, ok_1, bI_t]
  · by_cases h2 : x = 49
    · subst h2
      simp only [x14_0, x14_1, x14_3, x14_6, x14_7, x14_9, x14_12, x14_13, x14_14, x14_15, x14_16, x14_18, x14_19, x14_22, x14_23, x14_25, x14_28, x14_29, pushO, List.length_cons, List.length_nil, Nat.reduceAdd, Nat.reduceLeDiff, Nat.le_refl, Nat.zero_le, isD_i, isD_r, isD_l, isD_n, if_true, if_false, ite_true, ite_false, reduceIte, ordQ, h1, ok_1, bI_t]
    · simp only [x14_0, x14_1, x14_3, x14_6, x14_7, x14_9, x14_12, x14_13, x14_14, x14_15, x14_16, x14_18, x14_19, x14_22, x14_23, x14_25, x14_28, x14_29, pushO, List.length_cons, List.length_nil, Nat.reduceAdd, Nat.reduceLeDiff, Nat.le_refl, Nat.zero_le, isD_i, isD_r, isD_l, isD_n, if_true, if_false, ite_true, ite_false, reduceIte, ordQ, h1, h2, ok_0, bI_f]
def rdF (O : OrdM) (x : Int32) : Bool × OrdM :=
  if x = 59 then (if ordE O.1 = true then (true, ordB) else (false, O))
  else if O.1 = 0 then staF O x
  else if O.1 = 1 then letF O x
  else if O.1 = 2 then (if x = 42 then (true, (3, O.2)) else letF O x)
  else if O.1 = 3 then fdgF O x
  else if O.1 = 4 then digF O x
  else if O.1 = 5 then ageF O x
  else (false, O)
theorem q8 {r : Nat} {pl kd sm gu le ti : Int32} {σ : Hp} {K : Option Value → Hp → Prop} : X 8 0 [.ref r] [] (ordPut r (pl, kd, sm, gu, le, ti) σ) K = if ordE pl = true then K (some (.int 1)) (ordPut r ordB σ) else K (some (.int 0)) (ordPut r (pl, kd, sm, gu, le, ti) σ) := by
  cases h1 : ordE pl
  · simp only [x8_0, x8_1, x8_4, x8_7, x8_8, x8_9, x8_10, x8_13, x8_14, pushO, List.length_cons, List.length_nil, Nat.reduceAdd, Nat.reduceLeDiff, Nat.le_refl, Nat.zero_le, isD_i, isD_r, isD_l, isD_n, if_true, if_false, ite_true, ite_false, reduceIte, ordQ, q6, h1, ok_0, bI_f, Bool.false_eq_true]
  · simp only [x8_0, x8_1, x8_4, x8_7, x8_8, x8_9, x8_10, x8_13, x8_14, pushO, List.length_cons, List.length_nil, Nat.reduceAdd, Nat.reduceLeDiff, Nat.le_refl, Nat.zero_le, isD_i, isD_r, isD_l, isD_n, if_true, if_false, ite_true, ite_false, reduceIte, ordQ, q6, q5, h1, ok_1, bI_t, i1_ne]
theorem q7 {x : Int32} {r : Nat} {pl kd sm gu le ti : Int32} {σ : Hp} {K : Option Value → Hp → Prop} : X 7 0 [.ref r, .int x] [] (ordPut r (pl, kd, sm, gu, le, ti) σ) K = K (some (.int (bI (rdF (pl, kd, sm, gu, le, ti) x).1))) (ordPut r (rdF (pl, kd, sm, gu, le, ti) x).2 σ) := by
  unfold rdF
  by_cases h0 : x = 59
  · cases h1 : ordE pl
    · simp only [x7_0, x7_1, x7_3, x7_6, x7_7, x7_10, x7_11, x7_12, x7_15, x7_52, x7_53, x7_54, x7_57, x7_58, x7_59, x7_60, x7_63, x7_64, x7_65, x7_67, x7_70, x7_71, x7_74, x7_77, x7_78, x7_79, x7_82, x7_83, x7_84, x7_85, x7_88, x7_89, x7_90, x7_91, x7_94, x7_95, x7_96, x7_97, x7_100, x7_101, x7_102, pushO, List.length_cons, List.length_nil, Nat.reduceAdd, Nat.reduceLeDiff, Nat.le_refl, Nat.zero_le, isD_i, isD_r, isD_l, isD_n, if_true, if_false, ite_true, ite_false, reduceIte, ordQ, q8, h0, h1, ok_0, bI_f, Bool.false_eq_true]
    · simp only [x7_0, x7_1, x7_3, x7_6, x7_7, x7_10, x7_11, x7_12, x7_15, x7_52, x7_53, x7_54, x7_57, x7_58, x7_59, x7_60, x7_63, x7_64, x7_65, x7_67, x7_70, x7_71, x7_74, x7_77, x7_78, x7_79, x7_82, x7_83, x7_84, x7_85, x7_88, x7_89, x7_90, x7_91, x7_94, x7_95, x7_96, x7_97, x7_100, x7_101, x7_102, pushO, List.length_cons, List.length_nil, Nat.reduceAdd, Nat.reduceLeDiff, Nat.le_refl, Nat.zero_le, isD_i, isD_r, isD_l, isD_n, if_true, if_false, ite_true, ite_false, reduceIte, ordQ, q8, h0, h1, ok_1, bI_t]
  · by_cases h1 : pl = 0
    · simp only [x7_0, x7_1, x7_3, x7_6, x7_7, x7_10, x7_11, x7_12, x7_15, x7_52, x7_53, x7_54, x7_57, x7_58, x7_59, x7_60, x7_63, x7_64, x7_65, x7_67, x7_70, x7_71, x7_74, x7_77, x7_78, x7_79, x7_82, x7_83, x7_84, x7_85, x7_88, x7_89, x7_90, x7_91, x7_94, x7_95, x7_96, x7_97, x7_100, x7_101, x7_102, pushO, List.length_cons, List.length_nil, Nat.reduceAdd, Nat.reduceLeDiff, Nat.le_refl, Nat.zero_le, isD_i, isD_r, isD_l, isD_n, if_true, if_false, ite_true, ite_false, reduceIte, ordQ, q9, h0, h1, bI_ok]
    · by_cases h2 : pl = 1
      · subst h2
        simp only [x7_0, x7_1, x7_3, x7_6, x7_7, x7_10, x7_11, x7_12, x7_15, x7_52, x7_53, x7_54, x7_57, x7_58, x7_59, x7_60, x7_63, x7_64, x7_65, x7_67, x7_70, x7_71, x7_74, x7_77, x7_78, x7_79, x7_82, x7_83, x7_84, x7_85, x7_88, x7_89, x7_90, x7_91, x7_94, x7_95, x7_96, x7_97, x7_100, x7_101, x7_102, pushO, List.length_cons, List.length_nil, Nat.reduceAdd, Nat.reduceLeDiff, Nat.le_refl, Nat.zero_le, isD_i, isD_r, isD_l, isD_n, if_true, if_false, ite_true, ite_false, reduceIte, ordQ, q10, h0, h1, bI_ok]
      · by_cases h3 : pl = 2
        · subst h3
          by_cases h8 : x = 42
          · subst h8
            simp only [x7_0, x7_1, x7_3, x7_6, x7_7, x7_10, x7_11, x7_12, x7_15, x7_52, x7_53, x7_54, x7_57, x7_58, x7_59, x7_60, x7_63, x7_64, x7_65, x7_67, x7_70, x7_71, x7_74, x7_77, x7_78, x7_79, x7_82, x7_83, x7_84, x7_85, x7_88, x7_89, x7_90, x7_91, x7_94, x7_95, x7_96, x7_97, x7_100, x7_101, x7_102, pushO, List.length_cons, List.length_nil, Nat.reduceAdd, Nat.reduceLeDiff, Nat.le_refl, Nat.zero_le, isD_i, isD_r, isD_l, isD_n, if_true, if_false, ite_true, ite_false, reduceIte, ordQ, q11, h0, h1, h2, ok_1, bI_t]
          · simp only [x7_0, x7_1, x7_3, x7_6, x7_7, x7_10, x7_11, x7_12, x7_15, x7_52, x7_53, x7_54, x7_57, x7_58, x7_59, x7_60, x7_63, x7_64, x7_65, x7_67, x7_70, x7_71, x7_74, x7_77, x7_78, x7_79, x7_82, x7_83, x7_84, x7_85, x7_88, x7_89, x7_90, x7_91, x7_94, x7_95, x7_96, x7_97, x7_100, x7_101, x7_102, pushO, List.length_cons, List.length_nil, Nat.reduceAdd, Nat.reduceLeDiff, Nat.le_refl, Nat.zero_le, isD_i, isD_r, isD_l, isD_n, if_true, if_false, ite_true, ite_false, reduceIte, ordQ, q10, h0, h1, h2, h8, bI_ok]
        · by_cases h4 : pl = 3
          · subst h4
            simp only [x7_0, x7_1, x7_3, x7_6, x7_7, x7_10, x7_11, x7_12, x7_15, x7_52, x7_53, x7_54, x7_57, x7_58, x7_59, x7_60, x7_63, x7_64, x7_65, x7_67, x7_70, x7_71, x7_74, x7_77, x7_78, x7_79, x7_82, x7_83, x7_84, x7_85, x7_88, x7_89, x7_90, x7_91, x7_94, x7_95, x7_96, x7_97, x7_100, x7_101, x7_102, pushO, List.length_cons, List.length_nil, Nat.reduceAdd, Nat.reduceLeDiff, Nat.le_refl, Nat.zero_le, isD_i, isD_r, isD_l, isD_n, if_true, if_false, ite_true, ite_false, reduceIte, ordQ, q12, h0, h1, h2, h3, bI_ok]
          · by_cases h5 : pl = 4
            · subst h5
              simp only [x7_0, x7_1, x7_3, x7_6, x7_7, x7_10, x7_11, x7_12, x7_15, x7_52, x7_53, x7_54, x7_57, x7_58, x7_59, x7_60, x7_63, x7_64, x7_65, x7_67, x7_70, x7_71, x7_74, x7_77, x7_78, x7_79, x7_82, x7_83, x7_84, x7_85, x7_88, x7_89, x7_90, x7_91, x7_94, x7_95, x7_96, x7_97, x7_100, x7_101, x7_102, pushO, List.length_cons, List.length_nil, Nat.reduceAdd, Nat.reduceLeDiff, Nat.le_refl, Nat.zero_le, isD_i, isD_r, isD_l, isD_n, if_true, if_false, ite_true, ite_false, reduceIte, ordQ, q13, h0, h1, h2, h3, h4, bI_ok]
            · by_cases h6 : pl = 5
              · subst h6
                simp only [x7_0, x7_1, x7_3, x7_6, x7_7, x7_10, x7_11, x7_12, x7_15, x7_52, x7_53, x7_54, x7_57, x7_58, x7_59, x7_60, x7_63, x7_64, x7_65, x7_67, x7_70, x7_71, x7_74, x7_77, x7_78, x7_79, x7_82, x7_83, x7_84, x7_85, x7_88, x7_89, x7_90, x7_91, x7_94, x7_95, x7_96, x7_97, x7_100, x7_101, x7_102, pushO, List.length_cons, List.length_nil, Nat.reduceAdd, Nat.reduceLeDiff, Nat.le_refl, Nat.zero_le, isD_i, isD_r, isD_l, isD_n, if_true, if_false, ite_true, ite_false, reduceIte, ordQ, q14, h0, h1, h2, h3, h4, h5, bI_ok]
              · simp only [x7_0, x7_1, x7_3, x7_6, x7_7, x7_10, x7_11, x7_12, x7_15, x7_52, x7_53, x7_54, x7_57, x7_58, x7_59, x7_60, x7_63, x7_64, x7_65, x7_67, x7_70, x7_71, x7_74, x7_77, x7_78, x7_79, x7_82, x7_83, x7_84, x7_85, x7_88, x7_89, x7_90, x7_91, x7_94, x7_95, x7_96, x7_97, x7_100, x7_101, x7_102, pushO, List.length_cons, List.length_nil, Nat.reduceAdd, Nat.reduceLeDiff, Nat.le_refl, Nat.zero_le, isD_i, isD_r, isD_l, isD_n, if_true, if_false, ite_true, ite_false, reduceIte, ordQ, h0, h1, h2, h3, h4, h5, h6, ok_0, bI_f]
