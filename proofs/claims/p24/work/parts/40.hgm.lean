/-! the changes of the whole object -/
theorem remP_lt {pm : Nat → Nat} {sz : Nat} (hp : ∀ i, i < 6 → pm i < 6) : ∀ i, i < 6 → remP pm sz i < 6 := by
  unfold remP
  by_cases e : sz = 6
  · rw [if_pos e]; exact rotP_lt hp
  · rw [if_neg e]; exact hp
theorem remZ_lt {sz : Nat} (hz : sz ≤ 6) : remZ sz < 6 := by
  unfold remZ
  by_cases e : sz = 6
  · rw [if_pos e]; omega
  · rw [if_neg e]; omega
theorem remS {x : Nat} {A : StaM} {pm : Nat → Nat} {sz : Nat} {S L : Nat → StaM} {u : Nat → Bool} {P : PadM} {O : OrdM} {J : RowM} {nn : Nat × Nat} {σ : Hp} (h : Sys x A pm sz S L u P O J nn σ) : ∃ τ, Sys x A (remP pm sz) (remZ sz + 1) (updN S (remP pm sz (remZ sz)) A) L u P O J nn τ ∧ ∀ K, X 1 0 [.ref (x + 18), .ref (x + 1)] [] σ K = K none τ := by
  obtain ⟨b1, b2, b3, b4⟩ := ysB h
  have hz := remZ_lt b2
  have hk := remP_lt (sz := sz) b1 _ hz
  refine ⟨_, sysH (sysS h hk (B := A)) (remP_lt b1) (by omega), fun K => ?_⟩
  exact a1 (ysH h) (ysSt h) b1 b2 (ysA h) (by omega)
def bdS (y : Int32) : Bool := if y < 1 then true else decide (12 < y)
theorem bd_nn {y : Int32} (hb : bdS y = false) : ∃ m, 1 ≤ m ∧ m ≤ 12 ∧ y = nI m := by
  unfold bdS at hb
  by_cases h1 : y < 1
  · rw [if_pos h1] at hb; cases hb
  · rw [if_neg h1] at hb
    have h2 : ¬ 12 < y := of_decide_eq_false hb
    have a1 : (1 : Int) ≤ y.toInt := by
      have := Int32.le_iff_toInt_le.mp (Int32.not_lt.mp h1)
      have e : Int32.toInt 1 = 1 := by decide +kernel
      omega
    have a2 : y.toInt ≤ 12 := by
      have := Int32.le_iff_toInt_le.mp (Int32.not_lt.mp h2)
      have e : Int32.toInt 12 = 12 := by decide +kernel
      omega
    have h0 : ¬ y < 0 := by
      intro q
      have := Int32.lt_iff_toInt_lt.mp q
      have e : Int32.toInt 0 = 0 := by decide +kernel
      omega
    have hz : ((y.toNatClampNeg : Nat) : Int) = y.toInt := by show ((y.toInt.toNat : Nat) : Int) = _; omega
    exact ⟨y.toNatClampNeg, by omega, by omega, (nn_clamp h0).1.symm⟩
theorem d81a {y : Int32} {K : Option Value → Hp → Prop} {x : Nat} {A : StaM} {pm : Nat → Nat} {sz : Nat} {S L : Nat → StaM} {u : Nat → Bool} {P : PadM} {O : OrdM} {J : RowM} {nn : Nat × Nat} {σ : Hp} (h : Sys x A pm sz S L u P O J nn σ) (hb : bdS y = true) : X 81 0 [.ref x, .int y, .null] [] σ K = K (some (.int (-2))) σ := by
  unfold bdS at hb
  by_cases h1 : y < 1
  · simp only [x81_0, x81_1, x81_2, x81_5, x81_6, x81_8, x81_11, x81_13, x81_14, x81_15, x81_18, x81_19, x81_22, x81_25, x81_26, x81_29, x81_32, x81_33, x81_34, x81_37, x81_38, x81_41, x81_42, pushO, List.length_cons, List.length_nil, Nat.reduceAdd, Nat.reduceLeDiff, Nat.le_refl, Nat.zero_le, isD_i, isD_r, isD_l, isD_n, if_true, if_false, ite_true, ite_false, reduceIte, h1]
  · rw [if_neg h1] at hb
    have h2 := of_decide_eq_true hb
    simp only [x81_0, x81_1, x81_2, x81_5, x81_6, x81_8, x81_11, x81_13, x81_14, x81_15, x81_18, x81_19, x81_22, x81_25, x81_26, x81_29, x81_32, x81_33, x81_34, x81_37, x81_38, x81_41, x81_42, pushO, List.length_cons, List.length_nil, Nat.reduceAdd, Nat.reduceLeDiff, Nat.le_refl, Nat.zero_le, isD_i, isD_r, isD_l, isD_n, if_true, if_false, ite_true, ite_false, reduceIte, h1, h2]
theorem d81b {m : Nat} {x : Nat} {A : StaM} {pm : Nat → Nat} {sz : Nat} {S L : Nat → StaM} {u : Nat → Bool} {P : PadM} {O : OrdM} {J : RowM} {nn : Nat × Nat} {σ : Hp} (h : Sys x A pm sz S L u P O J nn σ) (ho : okSa A) (hm : 1 ≤ m) (hm2 : m ≤ 12) : ∃ σ', Sys x (chgS (aZ A) m, chgS (aO A) m) (remP pm sz) (remZ sz + 1) (updN S (remP pm sz (remZ sz)) A) L u P O J nn σ' ∧ ∀ K, X 81 0 [.ref x, .int (nI m), .null] [] σ K = K (some (.int (nI (rS (sR (aZ A)))))) σ' := by
  obtain ⟨τ, h1, p1⟩ := remS h
  have h2 := sysA h1 (B := (chgS (aZ A) m, chgS (aO A) m))
  refine ⟨_, h2, fun K => ?_⟩
  have n1 : ¬ nI m < 1 := by rw [show (1 : Int32) = nI 1 by decide +kernel]; exact nI_nlt hm (by omega)
  have n2 : ¬ 12 < nI m := by rw [show (12 : Int32) = nI 12 by decide +kernel]; exact nI_nlt hm2 (by omega)
  have p2 := fun K => a55 (K := K) (m := m) (ysA h1) ho (by omega)
  simp only [x81_0, x81_1, x81_2, x81_5, x81_6, x81_8, x81_11, x81_13, x81_14, x81_15, x81_18, x81_19, x81_22, x81_25, x81_26, x81_29, x81_32, x81_33, x81_34, x81_37, x81_38, x81_41, x81_42, pushO, List.length_cons, List.length_nil, Nat.reduceAdd, Nat.reduceLeDiff, Nat.le_refl, Nat.zero_le, isD_i, isD_r, isD_l, isD_n, if_true, if_false, ite_true, ite_false, reduceIte, n1, n2, sysF h, hisS (ysH h), p1, sysF h1, staS (ysA h1), e54 (ysA h1), p2]
theorem errC_0 {S : StrM} {y t : Int32} (h : errC S y t = 0) (hn : tN (sT S) ≤ 60) : isCd y = true ∧ (seatO (tG (sT S)) (tN (sT S)) y = none → tN (sT S) < 60) := by
  unfold errC at h
  cases h1 : isCd y
  · rw [h1] at h
    exact absurd h (by simp only [Bool.false_eq_true, if_false]; decide +kernel)
  · refine ⟨rfl, fun hs => ?_⟩
    rw [h1, if_pos rfl, seatOf_O, hs] at h
    by_cases h2 : y < 1 <;> by_cases h3 : t < 1 <;> by_cases h4 : 999 < t <;> by_cases h5 : 99999 < sN S + t <;> by_cases h6 : nI (tN (sT S)) < 60 <;>
      first
        | (rw [nI_60, nI_lt_iff (by omega) (by omega)] at h6; exact h6)
        | (exfalso; simp only [h3, h4, h5, h6, oI, if_true, if_false] at h; exact absurd h (by decide +kernel))
theorem d82a {s y t : Int32} {K : Option Value → Hp → Prop} {x : Nat} {A : StaM} {pm : Nat → Nat} {sz : Nat} {S L : Nat → StaM} {u : Nat → Bool} {P : PadM} {O : OrdM} {J : RowM} {nn : Nat × Nat} {σ : Hp} (h : Sys x A pm sz S L u P O J nn σ) (ho : okSa A) (he : isSt s = true → ¬ errC (stOf A s) y t = 0) : X 82 0 [.ref x, .int s, .int y, .int t, .null] [] σ K = K (some (.int (if isSt s = true then errC (stOf A s) y t else -1))) σ := by
  have hst := staSt (ysA h) s
  have hr := strRow hst
  cases h1 : isSt s
  · simp only [x82_0, x82_1, x82_4, x82_7, x82_8, x82_9, x82_10, x82_13, x82_14, x82_17, x82_18, x82_19, x82_22, x82_24, x82_26, x82_29, x82_31, x82_32, x82_33, x82_36, x82_37, x82_40, x82_43, x82_44, x82_47, x82_48, x82_51, x82_52, x82_53, x82_56, pushO, List.length_cons, List.length_nil, Nat.reduceAdd, Nat.reduceLeDiff, Nat.le_refl, Nat.zero_le, isD_i, isD_r, isD_l, isD_n, if_true, if_false, ite_true, ite_false, reduceIte, e102, h1, bI_f, Bool.false_eq_true]
  · have h2 := he h1
    simp only [x82_0, x82_1, x82_4, x82_7, x82_8, x82_9, x82_10, x82_13, x82_14, x82_17, x82_18, x82_19, x82_22, x82_24, x82_26, x82_29, x82_31, x82_32, x82_33, x82_36, x82_37, x82_40, x82_43, x82_44, x82_47, x82_48, x82_51, x82_52, x82_53, x82_56, pushO, List.length_cons, List.length_nil, Nat.reduceAdd, Nat.reduceLeDiff, Nat.le_refl, Nat.zero_le, isD_i, isD_r, isD_l, isD_n, if_true, if_false, ite_true, ite_false, reduceIte, e102, h1, bI_t, i1_ne, sysF h, staS (ysA h), e53 (ysA h), strS hst, a61 hst (okSt_of ho s), h2]
theorem d82b {s y t : Int32} {x : Nat} {A : StaM} {pm : Nat → Nat} {sz : Nat} {S L : Nat → StaM} {u : Nat → Bool} {P : PadM} {O : OrdM} {J : RowM} {nn : Nat × Nat} {σ : Hp} (h : Sys x A pm sz S L u P O J nn σ) (ho : okSa A) (hs : isSt s = true) (he : errC (stOf A s) y t = 0) : ∃ σ', Sys x (stSet A s (comS (stOf A s) y t)) (remP pm sz) (remZ sz + 1) (updN S (remP pm sz (remZ sz)) A) L u P O J nn σ' ∧ ∀ K, X 82 0 [.ref x, .int s, .int y, .int t, .null] [] σ K = K (some (.int (nI (sefN (sR (stOf A s)) y)))) σ' := by
  obtain ⟨τ, h1, p1⟩ := remS h
  have h2 := sysA h1 (B := stSet A s (comS (stOf A s) y t))
  refine ⟨_, h2, fun K => ?_⟩
  have hst := staSt (ysA h) s
  have hst1 := staSt (ysA h1) s
  have oo := okSt_of ho s
  have p2 := fun K => a62 (K := K) (x := y) (y := t) hst1 oo (errC_0 he oo.2.2.2).2
  simp only [staStP (ysA h1)] at p2
  simp only [x82_0, x82_1, x82_4, x82_7, x82_8, x82_9, x82_10, x82_13, x82_14, x82_17, x82_18, x82_19, x82_22, x82_24, x82_26, x82_29, x82_31, x82_32, x82_33, x82_36, x82_37, x82_40, x82_43, x82_44, x82_47, x82_48, x82_51, x82_52, x82_53, x82_56, pushO, List.length_cons, List.length_nil, Nat.reduceAdd, Nat.reduceLeDiff, Nat.le_refl, Nat.zero_le, isD_i, isD_r, isD_l, isD_n, if_true, if_false, ite_true, ite_false, reduceIte, e102, hs, bI_t, i1_ne, sysF h, staS (ysA h), e53 (ysA h), strS hst, a61 hst oo, he, hisS (ysH h), p1, sysF h1, staS (ysA h1), e53 (ysA h1), strS hst1, p2]
theorem d83a {s : Int32} {K : Option Value → Hp → Prop} {x : Nat} {A : StaM} {pm : Nat → Nat} {sz : Nat} {S L : Nat → StaM} {u : Nat → Bool} {P : PadM} {O : OrdM} {J : RowM} {nn : Nat × Nat} {σ : Hp} (h : Sys x A pm sz S L u P O J nn σ) (hs : isSt s = false) : X 83 0 [.ref x, .int s] [] σ K = K (some (.int (-1))) σ := by
  simp only [x83_0, x83_1, x83_4, x83_7, x83_8, x83_9, x83_10, x83_13, x83_14, x83_17, x83_20, x83_21, x83_24, x83_25, x83_28, x83_31, x83_32, x83_35, x83_36, x83_39, x83_42, pushO, List.length_cons, List.length_nil, Nat.reduceAdd, Nat.reduceLeDiff, Nat.le_refl, Nat.zero_le, isD_i, isD_r, isD_l, isD_n, if_true, if_false, ite_true, ite_false, reduceIte, e102, hs, bI_f]
theorem stOf_set {A : StaM} {s : Int32} {T : StrM} : stOf (stSet A s T) s = T := by
  unfold stOf stSet
  by_cases h0 : s = 0
  · rw [if_pos h0, if_pos h0]
  · rw [if_neg h0, if_neg h0]
theorem d83b {s : Int32} {x : Nat} {A : StaM} {pm : Nat → Nat} {sz : Nat} {S L : Nat → StaM} {u : Nat → Bool} {P : PadM} {O : OrdM} {J : RowM} {nn : Nat × Nat} {σ : Hp} (h : Sys x A pm sz S L u P O J nn σ) (ho : okSa A) (hs : isSt s = true) : ∃ σ', Sys x (stSet A s (halS (stOf A s))) (remP pm sz) (remZ sz + 1) (updN S (remP pm sz (remZ sz)) A) L u P O J nn σ' ∧ ∀ K, X 83 0 [.ref x, .int s] [] σ K = K (some (.int (sN (stOf A s) / 2))) σ' := by
  obtain ⟨τ, h1, p1⟩ := remS h
  have h2 := sysA h1 (B := stSet A s (halS (stOf A s)))
  refine ⟨_, h2, fun K => ?_⟩
  have hst1 := staSt (ysA h1) s
  have p2 := fun K => a63 (K := K) hst1 (okSt_of ho s)
  simp only [staStP (ysA h1)] at p2
  have hst2 := staSt (ysA h2) s
  rw [stOf_set] at hst2
  simp only [x83_0, x83_1, x83_4, x83_7, x83_8, x83_9, x83_10, x83_13, x83_14, x83_17, x83_20, x83_21, x83_24, x83_25, x83_28, x83_31, x83_32, x83_35, x83_36, x83_39, x83_42, pushO, List.length_cons, List.length_nil, Nat.reduceAdd, Nat.reduceLeDiff, Nat.le_refl, Nat.zero_le, isD_i, isD_r, isD_l, isD_n, if_true, if_false, ite_true, ite_false, reduceIte, e102, hs, bI_t, i1_ne, sysF h, staS (ysA h), hisS (ysH h), p1, sysF h1, staS (ysA h1), e53 (ysA h1), strS hst1, p2, sysF h2, staS (ysA h2), e53 (ysA h2), strS hst2]
  rfl
def aaS (A : StaM) : Prop := aaOK (tG (sT (aO A))) (tC (sT (aO A))) (tN (sT (aO A))) 0 (sT (aZ A))
theorem d84a {K : Option Value → Hp → Prop} {x : Nat} {A : StaM} {pm : Nat → Nat} {sz : Nat} {S L : Nat → StaM} {u : Nat → Bool} {P : PadM} {O : OrdM} {J : RowM} {nn : Nat × Nat} {σ : Hp} (h : Sys x A pm sz S L u P O J nn σ) (ho : okSa A) (he : ¬ errJ A = 0) : X 84 0 [.ref x, .null] [] σ K = K (some (.int (errJ A))) σ := by
  simp only [x84_0, x84_1, x84_4, x84_7, x84_8, x84_9, x84_12, x84_13, x84_14, x84_15, x84_18, x84_19, x84_22, x84_25, x84_26, x84_29, x84_30, x84_33, x84_36, x84_37, x84_40, x84_41, x84_44, x84_47, x84_50, pushO, List.length_cons, List.length_nil, Nat.reduceAdd, Nat.reduceLeDiff, Nat.le_refl, Nat.zero_le, isD_i, isD_r, isD_l, isD_n, if_true, if_false, ite_true, ite_false, reduceIte, sysF h, staS (ysA h), a56 (ysA h) ho, he]
theorem jnJ_st {A : StaM} {J : RowM} : rS (jnJ A J) = rS J := by
  unfold jnJ
  rw [(jnB_st _ _ _).1, (jnA_st _ _ _).1]
  rfl
theorem sysJn {x : Nat} {A : StaM} {pm : Nat → Nat} {sz : Nat} {S L : Nat → StaM} {u : Nat → Bool} {P : PadM} {O : OrdM} {J : RowM} {nn : Nat × Nat} {σ : Hp} (h : Sys x A pm sz S L u P O J nn σ) : Sys x (jnS A J) pm sz S L u P O (jnJ A J) nn (staPut (x + 1) (jnS A J) (rowPut (x + 162) (jnJ A J) σ)) :=
  sysA (sysJ h (jnJ_st.trans (ysB h).2.2.2))
theorem d84b {x : Nat} {A : StaM} {pm : Nat → Nat} {sz : Nat} {S L : Nat → StaM} {u : Nat → Bool} {P : PadM} {O : OrdM} {J : RowM} {nn : Nat × Nat} {σ : Hp} (h : Sys x A pm sz S L u P O J nn σ) (ho : okSa A) (he : errJ A = 0) (ha : aaS A) : ∃ σ', Sys x (jnS A J) (remP pm sz) (remZ sz + 1) (updN S (remP pm sz (remZ sz)) A) L u P O (jnJ A J) nn σ' ∧ ∀ K, X 84 0 [.ref x, .null] [] σ K = K (some (.int (nI (rT (sR (aZ (jnS A J))))))) σ' := by
  obtain ⟨τ, h1, p1⟩ := remS h
  have h2 := sysJn h1
  refine ⟨_, h2, fun K => ?_⟩
  have p2 := fun K => a57 (K := K) (ysA h1) ho (by omega) (ysJ h1) (ysB h1).2.2.2 ha
  have hz := staZ (ysA h2)
  simp only [x84_0, x84_1, x84_4, x84_7, x84_8, x84_9, x84_12, x84_13, x84_14, x84_15, x84_18, x84_19, x84_22, x84_25, x84_26, x84_29, x84_30, x84_33, x84_36, x84_37, x84_40, x84_41, x84_44, x84_47, x84_50, pushO, List.length_cons, List.length_nil, Nat.reduceAdd, Nat.reduceLeDiff, Nat.le_refl, Nat.zero_le, isD_i, isD_r, isD_l, isD_n, if_true, if_false, ite_true, ite_false, reduceIte, sysF h, staS (ysA h), a56 (ysA h) ho, he, hisS (ysH h), p1, sysF h1, staS (ysA h1), p2, sysF h2, staS (ysA h2), e53 (ysA h2), strS hz, rowF (strRow hz)]
theorem d99a {K : Option Value → Hp → Prop} {x : Nat} {A : StaM} {pm : Nat → Nat} {sz : Nat} {S L : Nat → StaM} {u : Nat → Bool} {P : PadM} {O : OrdM} {J : RowM} {nn : Nat × Nat} {σ : Hp} (h : Sys x A pm sz S L u P O J nn σ) (hz : sz = 0) : X 99 0 [.ref x] [] σ K = K (some (.int (-5))) σ := by
  subst hz
  simp only [x99_0, x99_1, x99_4, x99_7, x99_10, x99_12, x99_13, x99_14, x99_17, x99_18, x99_21, x99_24, x99_25, x99_28, x99_31, pushO, List.length_cons, List.length_nil, Nat.reduceAdd, Nat.reduceLeDiff, Nat.le_refl, Nat.zero_le, isD_i, isD_r, isD_l, isD_n, if_true, if_false, ite_true, ite_false, reduceIte, sysF h, hisS (ysH h), nI_0]
theorem d99b {x : Nat} {A : StaM} {pm : Nat → Nat} {sz : Nat} {S L : Nat → StaM} {u : Nat → Bool} {P : PadM} {O : OrdM} {J : RowM} {nn : Nat × Nat} {σ : Hp} (h : Sys x A pm sz S L u P O J nn σ) (hz : 0 < sz) : ∃ σ', Sys x (S (pm (sz - 1))) pm (sz - 1) S L u P O J nn σ' ∧ ∀ K, X 99 0 [.ref x] [] σ K = K (some (.int (nI (sz - 1)))) σ' := by
  obtain ⟨b1, b2, b3, b4⟩ := ysB h
  have h1 := sysH h (pm2 := pm) (sz2 := sz - 1) b1 (by omega)
  have h2 := sysA h1 (B := S (pm (sz - 1)))
  refine ⟨_, h2, fun K => ?_⟩
  have p1 := fun K => a2 (K := K) (ysH h) (ysSt h) b1 b2 hz (ysA h) (by omega)
  have n1 : ¬ nI sz = 0 := by rw [nI_eq0 (by omega)]; omega
  simp only [x99_0, x99_1, x99_4, x99_7, x99_10, x99_12, x99_13, x99_14, x99_17, x99_18, x99_21, x99_24, x99_25, x99_28, x99_31, pushO, List.length_cons, List.length_nil, Nat.reduceAdd, Nat.reduceLeDiff, Nat.le_refl, Nat.zero_le, isD_i, isD_r, isD_l, isD_n, if_true, if_false, ite_true, ite_false, reduceIte, sysF h, hisS (ysH h), n1, p1, sysF h2, hisS (ysH h2)]
def isSl (y : Int32) : Bool := in_ 2 y
theorem nI_2 : (2 : Int32) = nI 2 := by decide +kernel
theorem sltS {x : Nat} {A : StaM} {pm : Nat → Nat} {sz : Nat} {S L : Nat → StaM} {u : Nat → Bool} {P : PadM} {O : OrdM} {J : RowM} {nn : Nat × Nat} {σ : Hp} (h : Sys x A pm sz S L u P O J nn σ) : okL σ (x + 122) = true ∧ gL σ (x + 122) = nI 2 := ⟨(okL_q (ysQ h)).trans rfl, gL_q (ysQ h)⟩
theorem sltQ {x : Nat} {A : StaM} {pm : Nat → Nat} {sz : Nat} {S L : Nat → StaM} {u : Nat → Bool} {P : PadM} {O : OrdM} {J : RowM} {nn : Nat × Nat} {σ : Hp} (h : Sys x A pm sz S L u P O J nn σ) {k : Nat} (hk : k < 2) : okQ σ (x + 122) (nI k) = true ∧ gQ σ (x + 122) (nI k) = some (x + 123 + 18 * k) := by
  refine ⟨(okQ_q (ysQ h)).trans ?_, (gQ_q (ysQ h)).trans ?_⟩
  · rw [inB_nI hk (by omega)]
    rfl
  · rw [nI_clamp (by omega)]
    unfold sltF
    rw [if_pos hk]
theorem slo {x : Nat} {A : StaM} {pm : Nat → Nat} {sz : Nat} {S L : Nat → StaM} {u : Nat → Bool} {P : PadM} {O : OrdM} {J : RowM} {nn : Nat × Nat} {σ : Hp} (h : Sys x A pm sz S L u P O J nn σ) {k : Nat} (hk : k < 2) : okF σ (x + 123 + 18 * k) 4 0 = true ∧ okF σ (x + 123 + 18 * k) 4 1 = true ∧ gF σ (x + 123 + 18 * k) 0 = .ref (x + 124 + 18 * k) ∧ gF σ (x + 123 + 18 * k) 1 = .int (bI (u k)) :=
  ⟨(okF_ob (ysU h k hk)).trans rfl, (okF_ob (ysU h k hk)).trans rfl, (gF_ob (ysU h k hk)).trans rfl, (gF_ob (ysU h k hk)).trans rfl⟩
theorem e103 {y : Int32} {K : Option Value → Hp → Prop} {x : Nat} {A : StaM} {pm : Nat → Nat} {sz : Nat} {S L : Nat → StaM} {u : Nat → Bool} {P : PadM} {O : OrdM} {J : RowM} {nn : Nat × Nat} {σ : Hp} (h : Sys x A pm sz S L u P O J nn σ) : X 103 0 [.ref x, .int y] [] σ K = K (some (.int (bI (isSl y)))) σ := by
  unfold isSl in_
  by_cases h1 : y < 0
  · simp only [x103_0, x103_1, x103_4, x103_5, x103_6, x103_9, x103_10, x103_13, x103_14, x103_17, x103_18, pushO, List.length_cons, List.length_nil, Nat.reduceAdd, Nat.reduceLeDiff, Nat.le_refl, Nat.zero_le, isD_i, isD_r, isD_l, isD_n, if_true, if_false, ite_true, ite_false, reduceIte, sysF h, h1, ok_0, bI_f]
  · by_cases h2 : y < nI 2
    · simp only [x103_0, x103_1, x103_4, x103_5, x103_6, x103_9, x103_10, x103_13, x103_14, x103_17, x103_18, pushO, List.length_cons, List.length_nil, Nat.reduceAdd, Nat.reduceLeDiff, Nat.le_refl, Nat.zero_le, isD_i, isD_r, isD_l, isD_n, if_true, if_false, ite_true, ite_false, reduceIte, sysF h, sltS h, h1, h2, ok_1, decide_true, bI_t]
    · simp only [x103_0, x103_1, x103_4, x103_5, x103_6, x103_9, x103_10, x103_13, x103_14, x103_17, x103_18, pushO, List.length_cons, List.length_nil, Nat.reduceAdd, Nat.reduceLeDiff, Nat.le_refl, Nat.zero_le, isD_i, isD_r, isD_l, isD_n, if_true, if_false, ite_true, ite_false, reduceIte, sysF h, sltS h, h1, h2, ok_0, decide_false, bI_f]
theorem isSl_nn {y : Int32} (hs : isSl y = true) : ∃ k, k < 2 ∧ y = nI k := by
  unfold isSl in_ at hs
  by_cases h1 : y < 0
  · rw [if_pos h1] at hs; cases hs
  · rw [if_neg h1] at hs
    have h2 := of_decide_eq_true hs
    rw [lt_clamp h1 (by omega)] at h2
    exact ⟨_, h2, (nn_clamp h1).1.symm⟩
theorem d100a {y : Int32} {K : Option Value → Hp → Prop} {x : Nat} {A : StaM} {pm : Nat → Nat} {sz : Nat} {S L : Nat → StaM} {u : Nat → Bool} {P : PadM} {O : OrdM} {J : RowM} {nn : Nat × Nat} {σ : Hp} (h : Sys x A pm sz S L u P O J nn σ) (hs : isSl y = false) : X 100 0 [.ref x, .int y] [] σ K = K (some (.int (-2))) σ := by
  simp only [x100_0, x100_1, x100_2, x100_5, x100_8, x100_10, x100_11, x100_12, x100_15, x100_16, x100_17, x100_20, x100_21, x100_24, x100_27, x100_28, x100_31, x100_32, x100_33, x100_34, x100_37, x100_38, x100_41, x100_42, x100_45, x100_48, pushO, List.length_cons, List.length_nil, Nat.reduceAdd, Nat.reduceLeDiff, Nat.le_refl, Nat.zero_le, isD_i, isD_r, isD_l, isD_n, if_true, if_false, ite_true, ite_false, reduceIte, e103 h, hs, bI_f, sysF h]
theorem d100b {k : Nat} {x : Nat} {A : StaM} {pm : Nat → Nat} {sz : Nat} {S L : Nat → StaM} {u : Nat → Bool} {P : PadM} {O : OrdM} {J : RowM} {nn : Nat × Nat} {σ : Hp} (h : Sys x A pm sz S L u P O J nn σ) (hk : k < 2) : ∃ σ', Sys x A pm sz S (updN L k A) (updN u k true) P O J nn σ' ∧ ∀ K, X 100 0 [.ref x, .int (nI k)] [] σ K = K (some (.int (sN (aZ A)))) σ' := by
  have h1 := sysL h (B := A) hk
  have h2 := sysU h1 (b := true) hk
  refine ⟨_, h2, fun K => ?_⟩
  have hs : isSl (nI k) = true := by unfold isSl; rw [in_nI (by omega) (by omega)]; exact decide_eq_true hk
  have p1 := fun K => a52 (K := K) (ysL h k hk) (ysA h) (by omega)
  have hz := staZ (ysA h2)
  simp only [x100_0, x100_1, x100_2, x100_5, x100_8, x100_10, x100_11, x100_12, x100_15, pushO, List.length_cons, List.length_nil, Nat.reduceAdd, Nat.reduceLeDiff, Nat.le_refl, Nat.zero_le, isD_i, isD_r, isD_l, isD_n, if_true, if_false, ite_true, ite_false, reduceIte, e103 h, hs, bI_t, i1_ne, sysF h]
  rw [x100_16 (sltQ h hk).1 (sltQ h hk).2]
  simp only [x100_17, x100_20, x100_21, x100_24, x100_27, x100_28, x100_31, pushO, List.length_cons, List.length_nil, Nat.reduceAdd, Nat.reduceLeDiff, Nat.le_refl, Nat.zero_le, isD_i, isD_r, isD_l, isD_n, if_true, if_false, ite_true, ite_false, reduceIte, slo h hk, sysF h, staS (ysL h k hk), p1, sysF h1]
  rw [x100_32 (sltQ h1 hk).1 (sltQ h1 hk).2]
  have e1 : (1 : Int32) = bI true := rfl
  simp only [x100_33, x100_34, x100_37, x100_38, x100_41, x100_42, x100_45, x100_48, pushO, List.length_cons, List.length_nil, Nat.reduceAdd, Nat.reduceLeDiff, Nat.le_refl, Nat.zero_le, isD_i, isD_r, isD_l, isD_n, if_true, if_false, ite_true, ite_false, reduceIte, slo h1 hk, ok_1]
  rw [e1]
  simp only [sysF h2, staS (ysA h2), e53 (ysA h2), strS hz, x100_33, x100_34, x100_37, x100_38, x100_41, x100_42, x100_45, x100_48, pushO, List.length_cons, List.length_nil, Nat.reduceAdd, Nat.reduceLeDiff, Nat.le_refl, Nat.zero_le, isD_i, isD_r, isD_l, isD_n, if_true, if_false, ite_true, ite_false, reduceIte]
theorem d101a {y : Int32} {K : Option Value → Hp → Prop} {x : Nat} {A : StaM} {pm : Nat → Nat} {sz : Nat} {S L : Nat → StaM} {u : Nat → Bool} {P : PadM} {O : OrdM} {J : RowM} {nn : Nat × Nat} {σ : Hp} (h : Sys x A pm sz S L u P O J nn σ) (hs : isSl y = false) : X 101 0 [.ref x, .int y] [] σ K = K (some (.int (-2))) σ := by
  simp only [x101_0, x101_1, x101_2, x101_5, x101_8, x101_10, x101_11, x101_12, x101_15, x101_16, x101_17, x101_20, x101_23, x101_25, x101_26, x101_27, x101_30, x101_31, x101_34, x101_37, x101_38, x101_41, x101_42, x101_45, x101_46, x101_47, x101_50, x101_53, x101_54, x101_57, x101_58, x101_61, x101_64, pushO, List.length_cons, List.length_nil, Nat.reduceAdd, Nat.reduceLeDiff, Nat.le_refl, Nat.zero_le, isD_i, isD_r, isD_l, isD_n, if_true, if_false, ite_true, ite_false, reduceIte, e103 h, hs, bI_f, sysF h]
theorem d101c {k : Nat} {K : Option Value → Hp → Prop} {x : Nat} {A : StaM} {pm : Nat → Nat} {sz : Nat} {S L : Nat → StaM} {u : Nat → Bool} {P : PadM} {O : OrdM} {J : RowM} {nn : Nat × Nat} {σ : Hp} (h : Sys x A pm sz S L u P O J nn σ) (hk : k < 2) (hu : u k = false) : X 101 0 [.ref x, .int (nI k)] [] σ K = K (some (.int (-5))) σ := by
  have hs : isSl (nI k) = true := by unfold isSl; rw [in_nI (by omega) (by omega)]; exact decide_eq_true hk
  simp only [x101_0, x101_1, x101_2, x101_5, x101_8, x101_10, x101_11, x101_12, x101_15, pushO, List.length_cons, List.length_nil, Nat.reduceAdd, Nat.reduceLeDiff, Nat.le_refl, Nat.zero_le, isD_i, isD_r, isD_l, isD_n, if_true, if_false, ite_true, ite_false, reduceIte, e103 h, hs, bI_t, i1_ne, sysF h]
  rw [x101_16 (sltQ h hk).1 (sltQ h hk).2]
  simp only [x101_17, x101_20, x101_23, x101_25, pushO, List.length_cons, List.length_nil, Nat.reduceAdd, Nat.reduceLeDiff, Nat.le_refl, Nat.zero_le, isD_i, isD_r, isD_l, isD_n, if_true, if_false, ite_true, ite_false, reduceIte, slo h hk, hu, bI_f]
theorem d101b {k : Nat} {x : Nat} {A : StaM} {pm : Nat → Nat} {sz : Nat} {S L : Nat → StaM} {u : Nat → Bool} {P : PadM} {O : OrdM} {J : RowM} {nn : Nat × Nat} {σ : Hp} (h : Sys x A pm sz S L u P O J nn σ) (hk : k < 2) (hu : u k = true) : ∃ σ', Sys x (L k) (remP pm sz) (remZ sz + 1) (updN S (remP pm sz (remZ sz)) A) L u P O J nn σ' ∧ ∀ K, X 101 0 [.ref x, .int (nI k)] [] σ K = K (some (.int (sN (aZ (L k))))) σ' := by
  obtain ⟨τ, h1, p1⟩ := remS h
  have h2 := sysA h1 (B := L k)
  refine ⟨_, h2, fun K => ?_⟩
  have hs : isSl (nI k) = true := by unfold isSl; rw [in_nI (by omega) (by omega)]; exact decide_eq_true hk
  have p2 := fun K => a52 (K := K) (ysA h1) (ysL h1 k hk) (by omega)
  have hz := staZ (ysA h2)
  simp only [x101_0, x101_1, x101_2, x101_5, x101_8, x101_10, x101_11, x101_12, x101_15, pushO, List.length_cons, List.length_nil, Nat.reduceAdd, Nat.reduceLeDiff, Nat.le_refl, Nat.zero_le, isD_i, isD_r, isD_l, isD_n, if_true, if_false, ite_true, ite_false, reduceIte, e103 h, hs, bI_t, i1_ne, sysF h]
  rw [x101_16 (sltQ h hk).1 (sltQ h hk).2]
  simp only [x101_17, x101_20, x101_23, x101_25, x101_26, x101_27, x101_30, x101_31, x101_34, x101_37, x101_38, x101_41, x101_42, x101_45, pushO, List.length_cons, List.length_nil, Nat.reduceAdd, Nat.reduceLeDiff, Nat.le_refl, Nat.zero_le, isD_i, isD_r, isD_l, isD_n, if_true, if_false, ite_true, ite_false, reduceIte, slo h hk, hu, bI_t, i1_ne, sysF h, hisS (ysH h), p1, sysF h1]
  rw [x101_46 (sltQ h1 hk).1 (sltQ h1 hk).2]
  simp only [x101_47, x101_50, x101_53, x101_54, x101_57, x101_58, x101_61, x101_64, pushO, List.length_cons, List.length_nil, Nat.reduceAdd, Nat.reduceLeDiff, Nat.le_refl, Nat.zero_le, isD_i, isD_r, isD_l, isD_n, if_true, if_false, ite_true, ite_false, reduceIte, slo h1 hk, staS (ysA h1), p2, sysF h2, staS (ysA h2), e53 (ysA h2), strS hz]
