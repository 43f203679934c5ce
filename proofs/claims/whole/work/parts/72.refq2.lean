/-! the reference's carrying out -/
theorem d166ja {f z : Int32} {K : Option Value → Hp → Prop} {m : Nat} {μ : ModM} {σ : Hp} (h : modAt m μ σ) {n N : Nat → Nat} {S : Nat} (hv : ∀ t, t < 2 → rvOK (ks μ) t (n t) (N t) S) (he : ¬ errJ (vB (ks μ) n N S) = 0) : X 166 0 [.ref m, .int 3, .int f, .int z] [] σ K = K (some (.int 0)) σ := by
  simp only [x166_0, x166_1, x166_2, x166_5, x166_6, x166_9, x166_12, x166_13, pushO, List.length_cons, List.length_nil, Nat.reduceAdd, Nat.reduceLeDiff, Nat.le_refl, Nat.zero_le, isD_i, isD_r, isD_l, isD_n, if_true, if_false, ite_true, ite_false, reduceIte, mdF h, e136 h hv, he, ok_0]
theorem d166jb {f z : Int32} {K : Option Value → Hp → Prop} {m : Nat} {μ : ModM} {σ : Hp} (h : modAt m μ σ) {n N : Nat → Nat} {S : Nat} (hv : ∀ t, t < 2 → rvOK (ks μ) t (n t) (N t) S) (he : errJ (vB (ks μ) n N S) = 0) (hc : cnOK (N 1) 0 (N 0) (ks μ)) (pc : ∀ k, k < (rjQ (kj μ) (vB (ks μ) n N S)).2 → 0 ≤ (jC (rjQ (kj μ) (vB (ks μ) n N S)).1 k).toInt) (pe : ∀ k, k < (rjQ (kj μ) (vB (ks μ) n N S)).2 → 0 ≤ (jE (rjQ (kj μ) (vB (ks μ) n N S)).1 k).toInt) : X 166 0 [.ref m, .int 3, .int f, .int z] [] σ K = K (some (.int 1)) (modPut m (ws (wJ μ (rjQ (kj μ) (vB (ks μ) n N S)).1 (rjQ (kj μ) (vB (ks μ) n N S)).2) (rjS (ks μ) (N 0) (N 1) S (rjQ (kj μ) (vB (ks μ) n N S)).1 (rjQ (kj μ) (vB (ks μ) n N S)).2)) σ) := by
  have g := fun K => g139 (K := K) h hv hc pc pe
  simp only [x166_0, x166_1, x166_2, x166_5, x166_6, x166_9, x166_12, x166_13, x166_14, x166_15, x166_18, x166_54, x166_55, pushO, List.length_cons, List.length_nil, Nat.reduceAdd, Nat.reduceLeDiff, Nat.le_refl, Nat.zero_le, isD_i, isD_r, isD_l, isD_n, if_true, if_false, ite_true, ite_false, reduceIte, mdF h, e136 h hv, he, g, ok_1]
theorem d166g {t n N : Nat} {z : Int32} {K : Option Value → Hp → Prop} {m : Nat} {μ : ModM} {σ : Hp} (h : modAt m μ σ) (ht : t < 2) (hn : gt (ks μ) t 1 = nI n) (hb : n ≤ 12) (h39 : gt (ks μ) t 39 = nI N) (hN : N ≤ 60) : X 166 0 [.ref m, .int 2, .int (nI t), .int z] [] σ K = K (some (.int 1)) (modPut m (ws μ (ageM (ks μ) t n N)) σ) := by
  have g := fun K => g134 (m := m) (μ := μ) (σ := σ) (s := ks μ) (K := K) ht hn hb h39 hN
  have e : modPut m (ws μ (ks μ)) σ = σ := ws_s h
  rw [e] at g
  have n1 : ¬ (2 : Int32) = 3 := by decide +kernel
  simp only [x166_0, x166_1, x166_2, x166_21, x166_22, x166_23, x166_26, x166_27, x166_28, x166_31, x166_54, x166_55, pushO, List.length_cons, List.length_nil, Nat.reduceAdd, Nat.reduceLeDiff, Nat.le_refl, Nat.zero_le, isD_i, isD_r, isD_l, isD_n, if_true, if_false, ite_true, ite_false, reduceIte, mdF h, n1, g, ok_1]
theorem d166ca {t n N S : Nat} {y z : Int32} {K : Option Value → Hp → Prop} {m : Nat} {μ : ModM} {σ : Hp} (h : modAt m μ σ) (ht : t < 2) (o : rvOK (ks μ) t n N S) (he : ¬ errC (vS (ks μ) t n N S) y z = 0) : X 166 0 [.ref m, .int (nI t), .int y, .int z] [] σ K = K (some (.int 0)) σ := by
  have n1 : ¬ nI t = 3 := by rw [L3, nI_eq_iff (by omega) (by omega)]; omega
  have n2 : ¬ nI t = 2 := by rw [L2, nI_eq_iff (by omega) (by omega)]; omega
  simp only [x166_0, x166_1, x166_2, x166_21, x166_22, x166_23, x166_34, x166_35, x166_36, x166_37, x166_38, x166_41, x166_44, x166_45, pushO, List.length_cons, List.length_nil, Nat.reduceAdd, Nat.reduceLeDiff, Nat.le_refl, Nat.zero_le, isD_i, isD_r, isD_l, isD_n, if_true, if_false, ite_true, ite_false, reduceIte, mdF h, n1, n2, e132 h ht o, he, ok_0]
theorem d166cb {t n N S : Nat} {y z : Int32} {K : Option Value → Hp → Prop} {m : Nat} {μ : ModM} {σ : Hp} (h : modAt m μ σ) (ht : t < 2) (o : rvOK (ks μ) t n N S) (he : errC (vS (ks μ) t n N S) y z = 0) : X 166 0 [.ref m, .int (nI t), .int y, .int z] [] σ K = K (some (.int 1)) (modPut m (ws μ (cmF (ks μ) t n N S y z)) σ) := by
  have n1 : ¬ nI t = 3 := by rw [L3, nI_eq_iff (by omega) (by omega)]; omega
  have n2 : ¬ nI t = 2 := by rw [L2, nI_eq_iff (by omega) (by omega)]; omega
  have g := fun K => g130 (K := K) (m := m) (μ := μ) (σ := σ) (s := ks μ) (y := y) (z := z) ht o (errC_hf o.2.2.2.2.2.2.1 he)
  have e : modPut m (ws μ (ks μ)) σ = σ := ws_s h
  rw [e] at g
  simp only [x166_0, x166_1, x166_2, x166_21, x166_22, x166_23, x166_34, x166_35, x166_36, x166_37, x166_38, x166_41, x166_46, x166_47, x166_48, x166_49, x166_50, x166_53, x166_54, x166_55, pushO, List.length_cons, List.length_nil, Nat.reduceAdd, Nat.reduceLeDiff, Nat.le_refl, Nat.zero_le, isD_i, isD_r, isD_l, isD_n, if_true, if_false, ite_true, ite_false, reduceIte, mdF h, n1, n2, e132 h ht o, he, g, ok_1]
theorem d167a {K : Option Value → Hp → Prop} {m : Nat} {μ : ModM} {σ : Hp} (h : modAt m μ σ) (hb : kpn μ ≤ 80) (hr : ¬ rdA (rdS (kp μ) (kpn μ) (ko μ)) = -6) : X 167 0 [.ref m, .null] [] σ K = K (some (.int (-3))) (modPut m (rdM μ) σ) := by
  simp only [x167_0, x167_1, x167_2, x167_5, x167_6, x167_9, x167_11, x167_14, x167_16, pushO, List.length_cons, List.length_nil, Nat.reduceAdd, Nat.reduceLeDiff, Nat.le_refl, Nat.zero_le, isD_i, isD_r, isD_l, isD_n, if_true, if_false, ite_true, ite_false, reduceIte, mdF h, mdP0s h, e164 h hb, hr]
theorem o167 {K : Option Value → Hp → Prop} {m : Nat} {μ : ModM} {σ : Hp} (h : modAt m μ σ) (hb : kpn μ ≤ 80) (hm : kum μ ≤ 6) (hr : rdA (rdS (kp μ) (kpn μ) (ko μ)) = -6) : X 167 0 [.ref m, .null] [] σ K = X 167 28 [.ref m, .int 0] [] (modPut m (wpn (rcM (rdM μ)) 0) σ) K := by
  have f := mdF (modAP (r := m) (ρ := rdM μ) (σ := σ))
  have q := fun K => q118 (K := K) (modAP (r := m) (ρ := rdM μ) (σ := σ)) hm
  simp only [modPP] at q
  have f2 := mdF (modAP (r := m) (ρ := rcM (rdM μ)) (σ := σ))
  have z := mdP7z (modAP (r := m) (ρ := rcM (rdM μ)) (σ := σ))
  rw [modPP] at z
  simp only [x167_0, x167_1, x167_2, x167_5, x167_6, x167_9, x167_11, x167_14, x167_16, x167_17, x167_18, x167_21, x167_22, x167_23, x167_26, x167_27, pushO, List.length_cons, List.length_nil, Nat.reduceAdd, Nat.reduceLeDiff, Nat.le_refl, Nat.zero_le, isD_i, isD_r, isD_l, isD_n, if_true, if_false, ite_true, ite_false, reduceIte, mdF h, mdP0s h, e164 h hb, hr, f, q, f2, z]
theorem s167a {i : Nat} {K : Option Value → Hp → Prop} {m : Nat} {μ : ModM} {σ : Hp} (h : modAt m μ σ) (hi : i < kon μ) (hc : kon μ ≤ 60) : X 167 28 [.ref m, .int (nI i)] [] σ K = X 166 0 [.ref m, .int (ko μ (4 * i)), .int (ko μ (4 * i + 1)), .int (ko μ (4 * i + 2))] [] σ (fun v σ' => X 167 68 [.ref m, .int (nI i)] (pushO v []) σ' K) := by
  have h1 : nI i < nI (kon μ) := nI_lt hi (by omega)
  have i0 : 4 * nI i = nI (4 * i) := by rw [show (4 : Int32) = nI 4 by decide +kernel, nIm]
  have i2 : nI (4 * i) + 2 = nI (4 * i + 2) := by rw [L2, nIa]
  have b0 : inB (nI (4 * i)) 256 = true := inB_nI (by omega) (by omega)
  have b1 : inB (nI (4 * i + 1)) 256 = true := inB_nI (by omega) (by omega)
  have b2 : inB (nI (4 * i + 2)) 256 = true := inB_nI (by omega) (by omega)
  have c0 : (nI (4 * i)).toNatClampNeg = 4 * i := nI_clamp (by omega)
  have c1 : (nI (4 * i + 1)).toNatClampNeg = 4 * i + 1 := nI_clamp (by omega)
  have c2 : (nI (4 * i + 2)).toNatClampNeg = 4 * i + 2 := nI_clamp (by omega)
  simp only [x167_28, x167_29, x167_30, x167_33, x167_36, x167_37, x167_38, x167_41, x167_42, x167_43, x167_44, x167_45, x167_46, x167_49, x167_50, x167_51, x167_52, x167_53, x167_54, x167_55, x167_56, x167_59, x167_60, x167_61, x167_62, x167_63, x167_64, pushO, List.length_cons, List.length_nil, Nat.reduceAdd, Nat.reduceLeDiff, Nat.le_refl, Nat.zero_le, isD_i, isD_r, isD_l, isD_n, if_true, if_false, ite_true, ite_false, reduceIte, mdF h, h1, i0, nI_a1, i2, b0, b1, b2, c0, c1, c2]
  rw [x167_65 (mdF h).1 (by decide)]
  rfl
theorem s167b {i : Nat} {σ : Hp} {m : Nat} {K : Option Value → Hp → Prop} : X 167 68 [.ref m, .int (nI i)] [.int 1] σ K = X 167 28 [.ref m, .int (nI (i + 1))] [] σ K := by
  simp only [x167_68, x167_71, x167_74, pushO, List.length_cons, List.length_nil, Nat.reduceAdd, Nat.reduceLeDiff, Nat.le_refl, Nat.zero_le, isD_i, isD_r, isD_l, isD_n, if_true, if_false, ite_true, ite_false, reduceIte, i1_ne, nI_a1]
theorem s167n {i : Nat} {σ : Hp} {m : Nat} {K : Option Value → Hp → Prop} : X 167 68 [.ref m, .int (nI i)] [.int 0] σ K = K (some (.int (nI i))) σ := by
  simp only [x167_68, x167_77, x167_78, pushO, List.length_cons, List.length_nil, Nat.reduceAdd, Nat.reduceLeDiff, Nat.le_refl, Nat.zero_le, isD_i, isD_r, isD_l, isD_n, if_true, if_false, ite_true, ite_false, reduceIte]
theorem s167c {i : Nat} {K : Option Value → Hp → Prop} {m : Nat} {μ : ModM} {σ : Hp} (h : modAt m μ σ) (hi : ¬ i < kon μ) (hc : i ≤ 60) : X 167 28 [.ref m, .int (nI i)] [] σ K = K (some (.int (nI i))) σ := by
  have h1 : ¬ nI i < nI (kon μ) := nI_nlt (by omega) (by omega)
  simp only [x167_28, x167_29, x167_30, x167_33, x167_77, x167_78, pushO, List.length_cons, List.length_nil, Nat.reduceAdd, Nat.reduceLeDiff, Nat.le_refl, Nat.zero_le, isD_i, isD_r, isD_l, isD_n, if_true, if_false, ite_true, ite_false, reduceIte, mdF h, h1]
