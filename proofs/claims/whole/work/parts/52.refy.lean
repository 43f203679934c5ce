/-! the reference's remembering -/
theorem L321 : (321 : Int32) = nI 321 := by decide +kernel
theorem L1605 : (1605 : Int32) = nI 1605 := by decide +kernel
theorem ku_wu {μ : ModM} {u : Nat → Int32} : ku (wu μ u) = u := rfl
theorem ks_wu {μ : ModM} {u : Nat → Int32} : ks (wu μ u) = ks μ := rfl
theorem kum_wu {μ : ModM} {u : Nat → Int32} : kum (wu μ u) = kum μ := rfl
theorem u_set {m i : Nat} {v : Int32} {μ : ModM} {σ : Hp} {u : Nat → Int32} (hi : i < 2 ^ 31) : pA (modPut m (wu μ u) σ) (m + 2) (nI i) v = modPut m (wu μ (upd u i v)) σ := by
  rw [mdA2 modAP, modPP, nI_clamp hi]
  rfl
def shU : Nat → Nat → (Nat → Int32) → (Nat → Int32)
  | 0, _, u => u
  | d + 1, i, u => shU d (i + 1) (upd u i (u (i + 321)))
def cpU (s : Nat → Int32) (b : Nat) : Nat → Nat → (Nat → Int32) → (Nat → Int32)
  | 0, _, u => u
  | d + 1, i, u => cpU s b d (i + 1) (upd u (b + i) (s i))
theorem l118a {m : Nat} {μ : ModM} {σ : Hp} {K : Option Value → Hp → Prop} : ∀ (d i : Nat) (u : Nat → Int32), 1605 - i = d → i ≤ 1605 → X 118 11 [.ref m, .int (nI i)] [] (modPut m (wu μ u) σ) K = X 118 40 [.ref m, .int (nI 1605)] [] (modPut m (wu μ (shU d i u)) σ) K := by
  intro d
  induction d with
  | zero =>
    intro i u hd hi
    have e : i = 1605 := by omega
    subst e
    have h1 : ¬ nI 1605 < nI 1605 := nI_nlt (by omega) (by omega)
    rw [x118_11]
    simp only [x118_12, x118_15, pushO, List.length_cons, List.length_nil, Nat.reduceAdd, Nat.reduceLeDiff, Nat.le_refl, Nat.zero_le, isD_i, isD_r, isD_l, isD_n, if_true, if_false, ite_true, ite_false, reduceIte, L1605, h1, shU]
  | succ d ih =>
    intro i u hd hi
    have h1 : nI i < nI 1605 := nI_lt (by omega) (by omega)
    have f := mdF (modAP (r := m) (ρ := wu μ u) (σ := σ))
    have e1 : nI i + 321 = nI (i + 321) := by rw [L321, nIa]
    have b1 : inB (nI (i + 321)) 1926 = true := inB_nI (by omega) (by omega)
    have b2 : inB (nI i) 1926 = true := inB_nI (by omega) (by omega)
    have c1 : (nI (i + 321)).toNatClampNeg = i + 321 := nI_clamp (by omega)
    rw [x118_11]
    simp only [x118_12, x118_15, x118_18, x118_19, x118_22, x118_23, x118_24, x118_27, x118_28, x118_31, x118_32, x118_33, x118_34, x118_37, pushO, List.length_cons, List.length_nil, Nat.reduceAdd, Nat.reduceLeDiff, Nat.le_refl, Nat.zero_le, isD_i, isD_r, isD_l, isD_n, if_true, if_false, ite_true, ite_false, reduceIte, L1605, h1, f, e1, b1, b2, c1, ku_wu, u_set (show i < 2 ^ 31 by omega), ← nI_succ, shU]
    exact ih (i + 1) _ (by omega) (by omega)
theorem l118b {m : Nat} {μ : ModM} {σ : Hp} {K : Option Value → Hp → Prop} (hm : kum μ < 6) : ∀ (d i : Nat) (u : Nat → Int32), 321 - i = d → i ≤ 321 → X 118 52 [.ref m, .int (nI i)] [] (modPut m (wu μ u) σ) K = X 118 86 [.ref m, .int (nI 321)] [] (modPut m (wu μ (cpU (ks μ) (321 * kum μ) d i u)) σ) K := by
  intro d
  induction d with
  | zero =>
    intro i u hd hi
    have e : i = 321 := by omega
    subst e
    have h1 : ¬ nI 321 < nI 321 := nI_nlt (by omega) (by omega)
    rw [x118_52]
    simp only [x118_53, x118_56, pushO, List.length_cons, List.length_nil, Nat.reduceAdd, Nat.reduceLeDiff, Nat.le_refl, Nat.zero_le, isD_i, isD_r, isD_l, isD_n, if_true, if_false, ite_true, ite_false, reduceIte, L321, h1, cpU]
  | succ d ih =>
    intro i u hd hi
    have h1 : nI i < nI 321 := nI_lt (by omega) (by omega)
    have f := mdF (modAP (r := m) (ρ := wu μ u) (σ := σ))
    have e1 : nI 321 * nI (kum μ) + nI i = nI (321 * kum μ + i) := by rw [nIm, nIa]
    have b1 : inB (nI i) 321 = true := inB_nI (by omega) (by omega)
    have b2 : inB (nI (321 * kum μ + i)) 1926 = true := inB_nI (by omega) (by omega)
    have c1 : (nI i).toNatClampNeg = i := nI_clamp (by omega)
    rw [x118_52]
    simp only [x118_53, x118_56, x118_59, x118_60, x118_63, x118_66, x118_67, x118_70, x118_71, x118_72, x118_73, x118_74, x118_77, x118_78, x118_79, x118_80, x118_83, pushO, List.length_cons, List.length_nil, Nat.reduceAdd, Nat.reduceLeDiff, Nat.le_refl, Nat.zero_le, isD_i, isD_r, isD_l, isD_n, if_true, if_false, ite_true, ite_false, reduceIte, L321, h1, f, kum_wu, ks_wu, e1, b1, b2, c1, u_set (show 321 * kum μ + i < 2 ^ 31 by omega), ← nI_succ, cpU]
    exact ih (i + 1) _ (by omega) (by omega)
def rcM (μ : ModM) : ModM := if kum μ = 6 then wum (wu μ (cpU (ks μ) (321 * 5) 321 0 (shU 1605 0 (ku μ)))) 6 else wum (wu μ (cpU (ks μ) (321 * kum μ) 321 0 (ku μ))) (kum μ + 1)
theorem ks_wum {μ : ModM} {a : Nat} : ks (wum μ a) = ks μ := rfl
theorem kum_wum {μ : ModM} {a : Nat} : kum (wum μ a) = a := rfl
theorem wu_wum {μ : ModM} {a : Nat} {u : Nat → Int32} : wu (wum μ a) u = wum (wu μ u) a := rfl
theorem wum_wum {μ : ModM} {a b : Nat} : wum (wum μ a) b = wum μ b := rfl
theorem l118c {m : Nat} {μ : ModM} {σ : Hp} {u : Nat → Int32} {w : Value} {K : Option Value → Hp → Prop} (hm : kum μ < 6) (hw : isD w = false) : X 118 50 [.ref m, w] [] (modPut m (wu μ u) σ) K = K none (modPut m (wum (wu μ (cpU (ks μ) (321 * kum μ) 321 0 u)) (kum μ + 1)) σ) := by
  have q := l118b (m := m) (σ := σ) (K := K) hm 321 0 u rfl (by omega)
  rw [nI_0] at q
  have f := mdF (modAP (r := m) (ρ := wu μ (cpU (ks μ) (321 * kum μ) 321 0 u)) (σ := σ))
  have e2 : nI (kum μ) + 1 = nI (kum μ + 1) := by rw [L1, nIa]
  have p := mdP3 (modAP (r := m) (ρ := wu μ (cpU (ks μ) (321 * kum μ) 321 0 u)) (σ := σ)) (n := kum μ + 1)
  rw [modPP] at p
  simp only [x118_50, x118_51, pushO, List.length_cons, List.length_nil, Nat.reduceAdd, Nat.reduceLeDiff, Nat.le_refl, Nat.zero_le, isD_i, isD_r, isD_l, isD_n, if_true, if_false, ite_true, ite_false, reduceIte, hw, q]
  simp only [x118_86, x118_87, x118_87i, x118_88, x118_91, x118_92, x118_93, x118_96, pushO, List.length_cons, List.length_nil, Nat.reduceAdd, Nat.reduceLeDiff, Nat.le_refl, Nat.zero_le, isD_i, isD_r, isD_l, isD_n, if_true, if_false, ite_true, ite_false, reduceIte, f, kum_wu, e2, p]
theorem q118 {m : Nat} {μ : ModM} {σ : Hp} {K : Option Value → Hp → Prop} (h : modAt m μ σ) (hm : kum μ ≤ 6) : X 118 0 [.ref m, .null] [] σ K = K none (modPut m (rcM μ) σ) := by
  have eu : modPut m (wu μ (ku μ)) σ = σ := modPS h
  unfold rcM
  by_cases h6 : kum μ = 6
  · rw [if_pos h6]
    have k6 : nI 6 = (6 : Int32) := by decide +kernel
    have q := l118a (m := m) (μ := μ) (σ := σ) (K := K) 1605 0 (ku μ) rfl (by omega)
    rw [eu, nI_0] at q
    have f := mdF (modAP (r := m) (ρ := wu μ (shU 1605 0 (ku μ))) (σ := σ))
    have p := mdP3 (modAP (r := m) (ρ := wu μ (shU 1605 0 (ku μ))) (σ := σ)) (n := 5)
    rw [modPP] at p
    have e5 : nI 6 - 1 = nI 5 := by decide +kernel
    have c := l118c (m := m) (μ := wum μ 5) (σ := σ) (u := shU 1605 0 (ku μ)) (w := .int (nI 1605)) (K := K) (by show 5 < 6; omega) (isD_i _)
    rw [ks_wum, kum_wum, wu_wum, wu_wum, wum_wum] at c
    simp only [x118_0, x118_1, x118_4, x118_6, x118_9, x118_10, pushO, List.length_cons, List.length_nil, Nat.reduceAdd, Nat.reduceLeDiff, Nat.le_refl, Nat.zero_le, isD_i, isD_r, isD_l, isD_n, if_true, if_false, ite_true, ite_false, reduceIte, mdF h, h6, k6, q]
    simp only [x118_40, x118_41, x118_41i, x118_42, x118_45, x118_46, x118_47, pushO, List.length_cons, List.length_nil, Nat.reduceAdd, Nat.reduceLeDiff, Nat.le_refl, Nat.zero_le, isD_i, isD_r, isD_l, isD_n, if_true, if_false, ite_true, ite_false, reduceIte, f, kum_wu, h6, e5, p]
    exact c
  · rw [if_neg h6]
    have k6 : ¬ nI (kum μ) = (6 : Int32) := by rw [nI_6, nI_eq_iff (by omega) (by omega)]; exact h6
    have c := l118c (m := m) (μ := μ) (σ := σ) (u := ku μ) (w := .null) (K := K) (by omega) isD_n
    rw [eu] at c
    simp only [x118_0, x118_1, x118_4, x118_6, x118_9, x118_10, pushO, List.length_cons, List.length_nil, Nat.reduceAdd, Nat.reduceLeDiff, Nat.le_refl, Nat.zero_le, isD_i, isD_r, isD_l, isD_n, if_true, if_false, ite_true, ite_false, reduceIte, mdF h, k6]
    exact c
