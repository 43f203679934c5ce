/-! the reference's come, wouldTake, doubt -/
theorem ks_rcM {μ : ModM} : ks (rcM μ) = ks μ := by
  unfold rcM
  split <;> rfl
theorem e155 {s y : Int32} {K : Option Value → Hp → Prop} {m : Nat} {μ : ModM} {σ : Hp} (h : modAt m μ σ) {n N : Nat → Nat} {S : Nat} (hv : ∀ t, t < 2 → rvOK (ks μ) t (n t) (N t) S) : X 155 0 [.ref m, .int s, .int y] [] σ K = K (some (.int (f93 (vB (ks μ) n N S) s y))) σ := by
  unfold f93 errA
  have z1 : ¬ (-1 : Int32) = 0 := by decide +kernel
  have z2 : ¬ (-2 : Int32) = 0 := by decide +kernel
  cases hs : isSt s
  · rw [if_neg Bool.false_ne_true, if_neg z1]
    simp only [x155_0, x155_1, x155_2, x155_5, x155_6, x155_9, x155_12, x155_13, x155_14, x155_15, x155_18, x155_21, x155_22, x155_23, x155_24, x155_27, x155_30, x155_32, pushO, List.length_cons, List.length_nil, Nat.reduceAdd, Nat.reduceLeDiff, Nat.le_refl, Nat.zero_le, isD_i, isD_r, isD_l, isD_n, if_true, if_false, ite_true, ite_false, reduceIte, mdF h, mdP0s h, e111, hs, bI_f]
  · rw [if_pos rfl]
    cases hc : isCd y
    · rw [if_neg Bool.false_ne_true, if_neg z2]
      simp only [x155_0, x155_1, x155_2, x155_5, x155_6, x155_9, x155_12, x155_13, x155_14, x155_15, x155_18, x155_21, x155_22, x155_23, x155_24, x155_27, x155_30, x155_32, pushO, List.length_cons, List.length_nil, Nat.reduceAdd, Nat.reduceLeDiff, Nat.le_refl, Nat.zero_le, isD_i, isD_r, isD_l, isD_n, if_true, if_false, ite_true, ite_false, reduceIte, mdF h, mdP0s h, e111, hs, bI_t, i1_ne, e112, hc, bI_f]
    · rw [if_pos rfl, if_pos rfl]
      obtain ⟨t, ht, rfl⟩ := st_cases hs
      rw [stOf_vB ht]
      show _ = K (some (.int (seatForR (vG (ks μ) t) (vC (ks μ) t) (vE (ks μ) t) S (n t) y))) σ
      simp only [x155_0, x155_1, x155_2, x155_5, x155_6, x155_9, x155_12, x155_13, x155_14, x155_15, x155_18, x155_21, x155_22, x155_23, x155_24, x155_27, x155_30, x155_32, pushO, List.length_cons, List.length_nil, Nat.reduceAdd, Nat.reduceLeDiff, Nat.le_refl, Nat.zero_le, isD_i, isD_r, isD_l, isD_n, if_true, if_false, ite_true, ite_false, reduceIte, mdF h, mdP0s h, e111, hs, bI_t, i1_ne, e112, hc, e129 h ht (hv t ht)]
theorem e156 {s y : Int32} {K : Option Value → Hp → Prop} {m : Nat} {μ : ModM} {σ : Hp} (h : modAt m μ σ) {n N : Nat → Nat} {S : Nat} (hv : ∀ t, t < 2 → rvOK (ks μ) t (n t) (N t) S) : X 156 0 [.ref m, .int s, .int y] [] σ K = K (some (.int (f94 (vB (ks μ) n N S) s y))) σ := by
  unfold f94 errA
  have z1 : ¬ (-1 : Int32) = 0 := by decide +kernel
  have z2 : ¬ (-2 : Int32) = 0 := by decide +kernel
  cases hs : isSt s
  · rw [if_neg Bool.false_ne_true, if_neg z1]
    simp only [x156_0, x156_1, x156_2, x156_5, x156_6, x156_9, x156_12, x156_13, x156_14, x156_15, x156_18, x156_21, x156_22, x156_23, x156_24, x156_27, x156_28, x156_29, x156_30, x156_33, x156_34, x156_37, x156_39, pushO, List.length_cons, List.length_nil, Nat.reduceAdd, Nat.reduceLeDiff, Nat.le_refl, Nat.zero_le, isD_i, isD_r, isD_l, isD_n, if_true, if_false, ite_true, ite_false, reduceIte, mdF h, mdP0s h, e111, hs, bI_f]
  · rw [if_pos rfl]
    cases hc : isCd y
    · rw [if_neg Bool.false_ne_true, if_neg z2]
      simp only [x156_0, x156_1, x156_2, x156_5, x156_6, x156_9, x156_12, x156_13, x156_14, x156_15, x156_18, x156_21, x156_22, x156_23, x156_24, x156_27, x156_28, x156_29, x156_30, x156_33, x156_34, x156_37, x156_39, pushO, List.length_cons, List.length_nil, Nat.reduceAdd, Nat.reduceLeDiff, Nat.le_refl, Nat.zero_le, isD_i, isD_r, isD_l, isD_n, if_true, if_false, ite_true, ite_false, reduceIte, mdF h, mdP0s h, e111, hs, bI_t, i1_ne, e112, hc, bI_f]
    · rw [if_pos rfl, if_pos rfl]
      obtain ⟨t, ht, rfl⟩ := st_cases hs
      rw [stOf_vB ht]
      show _ = K (some (.int (mostR (vG (ks μ) t) (vC (ks μ) t) S (n t) y - leastAtR (vC (ks μ) t) (vE (ks μ) t) (n t) (seatOfR (vG (ks μ) t) (n t) y)))) σ
      simp only [x156_0, x156_1, x156_2, x156_5, x156_6, x156_9, x156_12, x156_13, x156_14, x156_15, x156_18, x156_21, x156_22, x156_23, x156_24, x156_27, x156_28, x156_29, x156_30, x156_33, x156_34, x156_37, x156_39, pushO, List.length_cons, List.length_nil, Nat.reduceAdd, Nat.reduceLeDiff, Nat.le_refl, Nat.zero_le, isD_i, isD_r, isD_l, isD_n, if_true, if_false, ite_true, ite_false, reduceIte, mdF h, mdP0s h, e111, hs, bI_t, i1_ne, e112, hc, e124 h ht (hv t ht), e125 h ht (hv t ht)]
theorem e132n {s y z : Int32} {K : Option Value → Hp → Prop} {m : Nat} {μ : ModM} {σ : Hp} (h : modAt m μ σ) (hs : isSt s = false) : X 132 0 [.ref m, .int s, .int y, .int z, .null] [] σ K = K (some (.int (-1))) σ := by
  simp only [x132_0, x132_1, x132_4, x132_7, x132_8, x132_9, x132_10, x132_13, x132_16, x132_17, x132_18, x132_21, x132_24, x132_27, x132_29, x132_30, x132_31, x132_32, x132_34, x132_37, x132_39, x132_42, x132_43, x132_44, x132_45, x132_48, x132_50, x132_53, x132_54, x132_57, x132_58, x132_60, x132_62, x132_65, x132_66, x132_67, x132_68, x132_71, x132_72, x132_73, x132_75, x132_78, x132_80, x132_83, x132_84, pushO, List.length_cons, List.length_nil, Nat.reduceAdd, Nat.reduceLeDiff, Nat.le_refl, Nat.zero_le, isD_i, isD_r, isD_l, isD_n, if_true, if_false, ite_true, ite_false, reduceIte, mdF h, e111, hs, bI_f]
theorem d133a {s y z : Int32} {K : Option Value → Hp → Prop} {m : Nat} {μ : ModM} {σ : Hp} (h : modAt m μ σ) (hs : isSt s = false) : X 133 0 [.ref m, .int s, .int y, .int z, .null] [] σ K = K (some (.int (-1))) σ := by
  have z1 : ¬ (-1 : Int32) = 0 := by decide +kernel
  simp only [x133_0, x133_1, x133_2, x133_5, x133_6, x133_7, x133_8, x133_9, x133_12, x133_14, x133_16, x133_19, x133_21, x133_22, x133_23, x133_26, x133_27, x133_28, x133_29, x133_30, x133_33, pushO, List.length_cons, List.length_nil, Nat.reduceAdd, Nat.reduceLeDiff, Nat.le_refl, Nat.zero_le, isD_i, isD_r, isD_l, isD_n, if_true, if_false, ite_true, ite_false, reduceIte, mdF h, mdP0s h, e132n h hs, z1]
theorem d133b {t n N S : Nat} {y z : Int32} {K : Option Value → Hp → Prop} {m : Nat} {μ : ModM} {σ : Hp} (h : modAt m μ σ) (ht : t < 2) (o : rvOK (ks μ) t n N S) (he : ¬ errC (vS (ks μ) t n N S) y z = 0) : X 133 0 [.ref m, .int (nI t), .int y, .int z, .null] [] σ K = K (some (.int (errC (vS (ks μ) t n N S) y z))) σ := by
  simp only [x133_0, x133_1, x133_2, x133_5, x133_6, x133_7, x133_8, x133_9, x133_12, x133_14, x133_16, x133_19, x133_21, x133_22, x133_23, x133_26, x133_27, x133_28, x133_29, x133_30, x133_33, pushO, List.length_cons, List.length_nil, Nat.reduceAdd, Nat.reduceLeDiff, Nat.le_refl, Nat.zero_le, isD_i, isD_r, isD_l, isD_n, if_true, if_false, ite_true, ite_false, reduceIte, mdF h, mdP0s h, e132 h ht o, he]
theorem errC_hf {s : Nat → Int32} {t n N S : Nat} {y z : Int32} (hN : N ≤ 60) (he : errC (vS s t n N S) y z = 0) : seatO (vH s t) N y = none → N < 60 := by
  intro hs
  have q : seatOfR (vH s t) N y = -6 := by rw [seatOf_O, hs]; rfl
  by_cases h60 : N = 60
  · exfalso
    subst h60
    have k2 : ¬ nI 60 < (60 : Int32) := by decide +kernel
    have z4 : ¬ (-4 : Int32) = 0 := by decide +kernel
    have z2 : ¬ (-2 : Int32) = 0 := by decide +kernel
    unfold errC at he
    revert he
    show ¬ (if isCd y = true then (if z < 1 then (-2 : Int32) else if 999 < z then -2 else if 99999 < gt s t 0 + z then -4 else if seatOfR (vH s t) 60 y = -6 then (if nI 60 < 60 then 0 else -4) else 0) else -2) = 0
    rw [q, if_pos rfl, if_neg k2]
    split
    · split
      · exact z2
      · split
        · exact z2
        · split <;> exact z4
    · exact z2
  · omega
theorem d133c {t n N S : Nat} {y z : Int32} {K : Option Value → Hp → Prop} {m : Nat} {μ : ModM} {σ : Hp} (h : modAt m μ σ) (ht : t < 2) (o : rvOK (ks μ) t n N S) (hm : kum μ ≤ 6) (he : errC (vS (ks μ) t n N S) y z = 0) : X 133 0 [.ref m, .int (nI t), .int y, .int z, .null] [] σ K = K (some (.int (nI (sefN (vR (ks μ) t n S) y)))) (modPut m (ws (rcM μ) (cmF (ks μ) t n N S y z)) σ) := by
  have e1 : modPut m (rcM μ) σ = modPut m (ws (rcM μ) (ks μ)) σ := by
    rw [← ks_rcM]
    rfl
  have g := fun K => g130 (m := m) (μ := rcM μ) (σ := σ) (K := K) (y := y) (z := z) ht o (errC_hf o.2.2.2.2.2.2.1 he)
  simp only [x133_0, x133_1, x133_2, x133_5, x133_6, x133_7, x133_8, x133_9, x133_12, x133_14, x133_16, x133_19, x133_21, x133_22, x133_23, x133_26, x133_27, x133_28, x133_29, x133_30, x133_33, pushO, List.length_cons, List.length_nil, Nat.reduceAdd, Nat.reduceLeDiff, Nat.le_refl, Nat.zero_le, isD_i, isD_r, isD_l, isD_n, if_true, if_false, ite_true, ite_false, reduceIte, mdF h, mdP0s h, e132 h ht o, he, q118 h hm, e1, ctx, g]
