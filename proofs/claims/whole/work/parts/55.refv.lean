/-! the reference's save, restore -/
theorem e113_00 {K : Option Value → Hp → Prop} {m : Nat} {μ : ModM} {σ : Hp} (h : modAt m μ σ) : X 113 0 [.ref m, .int 0, .int 0] [] σ K = K (some (.int (gt (ks μ) 0 0))) σ := by
  have q := e113 (K := K) h (show 0 < 2 by omega) (show 0 < 160 by omega)
  rwa [nI_0] at q
theorem khs_wsl {μ : ModM} {s : Nat → Int32} : khs (wsl μ s) = khs μ := rfl
theorem l169 {m j : Nat} {μ : ModM} {σ : Hp} {K : Option Value → Hp → Prop} (hj : j < 2) : ∀ (d i : Nat) (s : Nat → Int32), 321 - i = d → i ≤ 321 → X 169 19 [.ref m, .int (nI j), .int (nI i)] [] (modPut m (wsl μ s) σ) K = X 169 50 [.ref m, .int (nI j), .int (nI 321)] [] (modPut m (wsl μ (cpU (ks μ) (321 * j) d i s)) σ) K := by
  intro d
  induction d with
  | zero =>
    intro i s hd hi
    have e : i = 321 := by omega
    subst e
    have h1 : ¬ nI 321 < nI 321 := nI_nlt (by omega) (by omega)
    rw [x169_19]
    simp only [x169_20, x169_23, pushO, List.length_cons, List.length_nil, Nat.reduceAdd, Nat.reduceLeDiff, Nat.le_refl, Nat.zero_le, isD_i, isD_r, isD_l, isD_n, if_true, if_false, ite_true, ite_false, reduceIte, L321, h1, cpU]
  | succ d ih =>
    intro i s hd hi
    have h1 : nI i < nI 321 := nI_lt (by omega) (by omega)
    have f := mdF (modAP (r := m) (ρ := wsl μ s) (σ := σ))
    have e1 : nI 321 * nI j + nI i = nI (321 * j + i) := by rw [nIm, nIa]
    have b1 : inB (nI i) 321 = true := inB_nI (by omega) (by omega)
    have b2 : inB (nI (321 * j + i)) 642 = true := inB_nI (by omega) (by omega)
    have c1 : (nI i).toNatClampNeg = i := nI_clamp (by omega)
    rw [x169_19]
    simp only [x169_20, x169_23, x169_26, x169_27, x169_30, x169_33, x169_34, x169_35, x169_36, x169_37, x169_38, x169_41, x169_42, x169_43, x169_44, x169_47, pushO, List.length_cons, List.length_nil, Nat.reduceAdd, Nat.reduceLeDiff, Nat.le_refl, Nat.zero_le, isD_i, isD_r, isD_l, isD_n, if_true, if_false, ite_true, ite_false, reduceIte, L321, h1, f, ks_wsl, ksl_wsl, e1, b1, b2, c1, sl_set (show 321 * j + i < 2 ^ 31 by omega), ← nI_succ, cpU]
    exact ih (i + 1) _ (by omega) (by omega)
theorem d169a {i : Int32} {K : Option Value → Hp → Prop} {m : Nat} {μ : ModM} {σ : Hp} (h : modAt m μ σ) (hi : isSt i = false) : X 169 0 [.ref m, .int i, .null] [] σ K = K (some (.int (-2))) σ := by
  simp only [x169_0, x169_1, x169_2, x169_5, x169_6, x169_7, x169_8, x169_11, x169_14, x169_16, pushO, List.length_cons, List.length_nil, Nat.reduceAdd, Nat.reduceLeDiff, Nat.le_refl, Nat.zero_le, isD_i, isD_r, isD_l, isD_n, if_true, if_false, ite_true, ite_false, reduceIte, mdF h, mdP0s h, e110, inR_st, hi, bI_f]
theorem d169b {j : Nat} {K : Option Value → Hp → Prop} {m : Nat} {μ : ModM} {σ : Hp} (h : modAt m μ σ) (hj : j < 2) : X 169 0 [.ref m, .int (nI j), .null] [] σ K = K (some (.int (gt (ks μ) 0 0))) (modPut m (whs (wsl μ (cpU (ks μ) (321 * j) 321 0 (ksl μ))) (upd (khs μ) j 1)) σ) := by
  have hs : isSt (nI j) = true := by
    have : j = 0 ∨ j = 1 := by omega
    rcases this with rfl | rfl <;> decide +kernel
  have eu : modPut m (wsl μ (ksl μ)) σ = σ := modPS h
  have l := l169 (m := m) (μ := μ) (σ := σ) (K := K) hj 321 0 (ksl μ) rfl (by omega)
  rw [nI_0, eu] at l
  have f2 := mdF (modAP (r := m) (ρ := wsl μ (cpU (ks μ) (321 * j) 321 0 (ksl μ))) (σ := σ))
  have b2 : inB (nI j) 2 = true := inB_nI hj (by omega)
  have c1 : (nI j).toNatClampNeg = j := nI_clamp (by omega)
  have p := mdA4 (modAP (r := m) (ρ := wsl μ (cpU (ks μ) (321 * j) 321 0 (ksl μ))) (σ := σ)) (i := nI j) (x := 1)
  rw [modPP, c1, khs_wsl] at p
  have f3 := mdF (modAP (r := m) (ρ := whs (wsl μ (cpU (ks μ) (321 * j) 321 0 (ksl μ))) (upd (khs μ) j 1)) (σ := σ))
  have q := fun K => e113_00 (K := K) (modAP (r := m) (ρ := whs (wsl μ (cpU (ks μ) (321 * j) 321 0 (ksl μ))) (upd (khs μ) j 1)) (σ := σ))
  have t1 : ((1 : Int32) == 0 || (1 : Int32) == 1) = true := by decide +kernel
  simp only [x169_0, x169_1, x169_2, x169_5, x169_6, x169_7, x169_8, x169_11, x169_14, x169_16, x169_17, x169_18, pushO, List.length_cons, List.length_nil, Nat.reduceAdd, Nat.reduceLeDiff, Nat.le_refl, Nat.zero_le, isD_i, isD_r, isD_l, isD_n, if_true, if_false, ite_true, ite_false, reduceIte, mdF h, mdP0s h, e110, inR_st, hs, bI_t, i1_ne, l]
  simp only [x169_50, x169_51, x169_54, x169_55, x169_56, x169_57, x169_58, x169_59, x169_60, x169_63, pushO, List.length_cons, List.length_nil, Nat.reduceAdd, Nat.reduceLeDiff, Nat.le_refl, Nat.zero_le, isD_i, isD_r, isD_l, isD_n, if_true, if_false, ite_true, ite_false, reduceIte, f2, b2, t1, p, f3, q]
  rfl
theorem l170 {m j : Nat} {μ : ModM} {σ : Hp} {K : Option Value → Hp → Prop} (hj : j < 2) : ∀ (d i : Nat) (s : Nat → Int32), 321 - i = d → i ≤ 321 → X 170 35 [.ref m, .int (nI j), .int (nI i)] [] (modPut m (ws μ s) σ) K = X 170 66 [.ref m, .int (nI j), .int (nI 321)] [] (modPut m (ws μ (tkU (ksl μ) (321 * j) d i s)) σ) K := by
  intro d
  induction d with
  | zero =>
    intro i s hd hi
    have e : i = 321 := by omega
    subst e
    have h1 : ¬ nI 321 < nI 321 := nI_nlt (by omega) (by omega)
    rw [x170_35]
    simp only [x170_36, x170_39, pushO, List.length_cons, List.length_nil, Nat.reduceAdd, Nat.reduceLeDiff, Nat.le_refl, Nat.zero_le, isD_i, isD_r, isD_l, isD_n, if_true, if_false, ite_true, ite_false, reduceIte, L321, h1, tkU]
  | succ d ih =>
    intro i s hd hi
    have h1 : nI i < nI 321 := nI_lt (by omega) (by omega)
    have f := mdF (modAP (r := m) (ρ := ws μ s) (σ := σ))
    have e1 : nI 321 * nI j + nI i = nI (321 * j + i) := by rw [nIm, nIa]
    have b1 : inB (nI i) 321 = true := inB_nI (by omega) (by omega)
    have b2 : inB (nI (321 * j + i)) 642 = true := inB_nI (by omega) (by omega)
    have c1 : (nI (321 * j + i)).toNatClampNeg = 321 * j + i := nI_clamp (by omega)
    rw [x170_35]
    simp only [x170_36, x170_39, x170_42, x170_43, x170_46, x170_47, x170_48, x170_51, x170_54, x170_55, x170_56, x170_57, x170_58, x170_59, x170_60, x170_63, pushO, List.length_cons, List.length_nil, Nat.reduceAdd, Nat.reduceLeDiff, Nat.le_refl, Nat.zero_le, isD_i, isD_r, isD_l, isD_n, if_true, if_false, ite_true, ite_false, reduceIte, L321, h1, f, ksl_ws, e1, b1, b2, c1, s_set (show i < 2 ^ 31 by omega), ← nI_succ, tkU]
    exact ih (i + 1) _ (by omega) (by omega)
theorem ksl_rcM {μ : ModM} : ksl (rcM μ) = ksl μ := by
  unfold rcM
  split <;> rfl
theorem rc_ws {m : Nat} {μ : ModM} {σ : Hp} : modPut m (rcM μ) σ = modPut m (ws (rcM μ) (ks μ)) σ := by
  rw [← ks_rcM]
  rfl
theorem d170a {i : Int32} {K : Option Value → Hp → Prop} {m : Nat} {μ : ModM} {σ : Hp} (h : modAt m μ σ) (hi : isSt i = false) : X 170 0 [.ref m, .int i, .null] [] σ K = K (some (.int (-2))) σ := by
  simp only [x170_0, x170_1, x170_2, x170_5, x170_6, x170_7, x170_8, x170_11, x170_14, x170_16, pushO, List.length_cons, List.length_nil, Nat.reduceAdd, Nat.reduceLeDiff, Nat.le_refl, Nat.zero_le, isD_i, isD_r, isD_l, isD_n, if_true, if_false, ite_true, ite_false, reduceIte, mdF h, mdP0s h, e110, inR_st, hi, bI_f]
theorem d170b {j : Nat} {K : Option Value → Hp → Prop} {m : Nat} {μ : ModM} {σ : Hp} (h : modAt m μ σ) (hj : j < 2) (h0 : khs μ j = 0) : X 170 0 [.ref m, .int (nI j), .null] [] σ K = K (some (.int (-5))) σ := by
  have hs : isSt (nI j) = true := by
    have : j = 0 ∨ j = 1 := by omega
    rcases this with rfl | rfl <;> decide +kernel
  have b2 : inB (nI j) 2 = true := inB_nI hj (by omega)
  have c1 : (nI j).toNatClampNeg = j := nI_clamp (by omega)
  simp only [x170_0, x170_1, x170_2, x170_5, x170_6, x170_7, x170_8, x170_11, x170_14, x170_16, x170_17, x170_18, x170_21, x170_22, x170_23, x170_26, x170_28, pushO, List.length_cons, List.length_nil, Nat.reduceAdd, Nat.reduceLeDiff, Nat.le_refl, Nat.zero_le, isD_i, isD_r, isD_l, isD_n, if_true, if_false, ite_true, ite_false, reduceIte, mdF h, mdP0s h, e110, inR_st, hs, bI_t, i1_ne, b2, c1, h0]
theorem d170c {j : Nat} {K : Option Value → Hp → Prop} {m : Nat} {μ : ModM} {σ : Hp} (h : modAt m μ σ) (hj : j < 2) (hm : kum μ ≤ 6) (h0 : ¬ khs μ j = 0) : X 170 0 [.ref m, .int (nI j), .null] [] σ K = K (some (.int (gt (tkU (ksl μ) (321 * j) 321 0 (ks μ)) 0 0))) (modPut m (ws (rcM μ) (tkU (ksl μ) (321 * j) 321 0 (ks μ))) σ) := by
  have hs : isSt (nI j) = true := by
    have : j = 0 ∨ j = 1 := by omega
    rcases this with rfl | rfl <;> decide +kernel
  have b2 : inB (nI j) 2 = true := inB_nI hj (by omega)
  have c1 : (nI j).toNatClampNeg = j := nI_clamp (by omega)
  have l := l170 (m := m) (μ := rcM μ) (σ := σ) (K := K) hj 321 0 (ks μ) rfl (by omega)
  rw [nI_0, ksl_rcM] at l
  have f2 := ctx (m := m) (μ := rcM μ) (σ := σ) (tkU (ksl μ) (321 * j) 321 0 (ks μ))
  have q := fun K => e113_00 (K := K) (modAP (r := m) (ρ := ws (rcM μ) (tkU (ksl μ) (321 * j) 321 0 (ks μ))) (σ := σ))
  simp only [ks_ws] at q
  simp only [x170_0, x170_1, x170_2, x170_5, x170_6, x170_7, x170_8, x170_11, x170_14, x170_16, x170_17, x170_18, x170_21, x170_22, x170_23, x170_26, x170_28, x170_29, x170_30, x170_33, x170_34, pushO, List.length_cons, List.length_nil, Nat.reduceAdd, Nat.reduceLeDiff, Nat.le_refl, Nat.zero_le, isD_i, isD_r, isD_l, isD_n, if_true, if_false, ite_true, ite_false, reduceIte, mdF h, mdP0s h, e110, inR_st, hs, bI_t, i1_ne, b2, c1, h0, q118 h hm, rc_ws, l]
  simp only [x170_66, x170_67, x170_68, x170_69, x170_72, pushO, List.length_cons, List.length_nil, Nat.reduceAdd, Nat.reduceLeDiff, Nat.le_refl, Nat.zero_le, isD_i, isD_r, isD_l, isD_n, if_true, if_false, ite_true, ite_false, reduceIte, f2, q]
