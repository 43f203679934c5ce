/-! the reference's undo, save, restore, wipe -/
theorem ks_ws {μ : ModM} {s : Nat → Int32} : ks (ws μ s) = s := rfl
theorem ku_ws {μ : ModM} {s : Nat → Int32} : ku (ws μ s) = ku μ := rfl
theorem kum_ws {μ : ModM} {s : Nat → Int32} : kum (ws μ s) = kum μ := rfl
theorem ksl_ws {μ : ModM} {s : Nat → Int32} : ksl (ws μ s) = ksl μ := rfl
theorem ksl_wsl {μ : ModM} {s : Nat → Int32} : ksl (wsl μ s) = s := rfl
theorem ks_wsl {μ : ModM} {s : Nat → Int32} : ks (wsl μ s) = ks μ := rfl
theorem s_set {m i : Nat} {v : Int32} {μ : ModM} {σ : Hp} {s : Nat → Int32} (hi : i < 2 ^ 31) : pA (modPut m (ws μ s) σ) (m + 1) (nI i) v = modPut m (ws μ (upd s i v)) σ := by
  rw [mdA1 modAP, modPP, nI_clamp hi]
  rfl
theorem sl_set {m i : Nat} {v : Int32} {μ : ModM} {σ : Hp} {s : Nat → Int32} (hi : i < 2 ^ 31) : pA (modPut m (wsl μ s) σ) (m + 3) (nI i) v = modPut m (wsl μ (upd s i v)) σ := by
  rw [mdA3 modAP, modPP, nI_clamp hi]
  rfl
/-- d places taken over from another row -/
def tkU (u : Nat → Int32) (b : Nat) : Nat → Nat → (Nat → Int32) → (Nat → Int32)
  | 0, _, s => s
  | d + 1, i, s => tkU u b d (i + 1) (upd s i (u (b + i)))
theorem l168 {m : Nat} {μ : ModM} {σ : Hp} {K : Option Value → Hp → Prop} (hm : kum μ < 6) : ∀ (d i : Nat) (s : Nat → Int32), 321 - i = d → i ≤ 321 → X 168 27 [.ref m, .int (nI i)] [] (modPut m (ws μ s) σ) K = X 168 61 [.ref m, .int (nI 321)] [] (modPut m (ws μ (tkU (ku μ) (321 * kum μ) d i s)) σ) K := by
  intro d
  induction d with
  | zero =>
    intro i s hd hi
    have e : i = 321 := by omega
    subst e
    have h1 : ¬ nI 321 < nI 321 := nI_nlt (by omega) (by omega)
    rw [x168_27]
    simp only [x168_28, x168_31, pushO, List.length_cons, List.length_nil, Nat.reduceAdd, Nat.reduceLeDiff, Nat.le_refl, Nat.zero_le, isD_i, isD_r, isD_l, isD_n, if_true, if_false, ite_true, ite_false, reduceIte, L321, h1, tkU]
  | succ d ih =>
    intro i s hd hi
    have h1 : nI i < nI 321 := nI_lt (by omega) (by omega)
    have f := mdF (modAP (r := m) (ρ := ws μ s) (σ := σ))
    have e1 : nI 321 * nI (kum μ) + nI i = nI (321 * kum μ + i) := by rw [nIm, nIa]
    have b1 : inB (nI i) 321 = true := inB_nI (by omega) (by omega)
    have b2 : inB (nI (321 * kum μ + i)) 1926 = true := inB_nI (by omega) (by omega)
    have c1 : (nI (321 * kum μ + i)).toNatClampNeg = 321 * kum μ + i := nI_clamp (by omega)
    rw [x168_27]
    simp only [x168_28, x168_31, x168_34, x168_35, x168_38, x168_39, x168_40, x168_43, x168_46, x168_47, x168_50, x168_51, x168_52, x168_53, x168_54, x168_55, x168_58, pushO, List.length_cons, List.length_nil, Nat.reduceAdd, Nat.reduceLeDiff, Nat.le_refl, Nat.zero_le, isD_i, isD_r, isD_l, isD_n, if_true, if_false, ite_true, ite_false, reduceIte, L321, h1, f, kum_ws, ku_ws, e1, b1, b2, c1, s_set (show i < 2 ^ 31 by omega), ← nI_succ, tkU]
    exact ih (i + 1) _ (by omega) (by omega)
theorem d168a {K : Option Value → Hp → Prop} {m : Nat} {μ : ModM} {σ : Hp} (h : modAt m μ σ) (hm : kum μ = 0) : X 168 0 [.ref m, .null] [] σ K = K (some (.int (-5))) σ := by
  simp only [x168_0, x168_1, x168_2, x168_5, x168_6, x168_9, x168_12, x168_14, pushO, List.length_cons, List.length_nil, Nat.reduceAdd, Nat.reduceLeDiff, Nat.le_refl, Nat.zero_le, isD_i, isD_r, isD_l, isD_n, if_true, if_false, ite_true, ite_false, reduceIte, mdF h, mdP0s h, hm, nI_0]
theorem d168b {K : Option Value → Hp → Prop} {m : Nat} {μ : ModM} {σ : Hp} (h : modAt m μ σ) (hm : kum μ ≤ 6) (h0 : ¬ kum μ = 0) : X 168 0 [.ref m, .null] [] σ K = K (some (.int (nI (kum μ - 1)))) (modPut m (ws (wum μ (kum μ - 1)) (tkU (ku μ) (321 * (kum μ - 1)) 321 0 (ks μ))) σ) := by
  have n0 : ¬ nI (kum μ) = 0 := by rw [nI_eq0 (by omega)]; exact h0
  obtain ⟨q, hq⟩ : ∃ q, kum μ = q + 1 := ⟨kum μ - 1, by omega⟩
  have e1 : nI (kum μ) - 1 = nI (kum μ - 1) := by
    rw [hq, nI_pred]
    rfl
  have e2 : modPut m (wum μ (kum μ - 1)) σ = modPut m (ws (wum μ (kum μ - 1)) (ks μ)) σ := rfl
  have l := l168 (m := m) (μ := wum μ (kum μ - 1)) (σ := σ) (K := K) (by rw [kum_wum]; omega) 321 0 (ks μ) rfl (by omega)
  rw [nI_0, kum_wum] at l
  have f2 := mdF (modAP (r := m) (ρ := ws (wum μ (kum μ - 1)) (tkU (ku (wum μ (kum μ - 1))) (321 * (kum μ - 1)) 321 0 (ks μ))) (σ := σ))
  rw [kum_ws, kum_wum] at f2
  simp only [x168_0, x168_1, x168_2, x168_5, x168_6, x168_9, x168_12, x168_14, x168_15, x168_16, x168_16i, x168_17, x168_20, x168_21, x168_22, x168_25, x168_26, pushO, List.length_cons, List.length_nil, Nat.reduceAdd, Nat.reduceLeDiff, Nat.le_refl, Nat.zero_le, isD_i, isD_r, isD_l, isD_n, if_true, if_false, ite_true, ite_false, reduceIte, mdF h, mdP0s h, n0, e1, mdP3 h, e2, l]
  simp only [x168_61, x168_62, x168_65, pushO, List.length_cons, List.length_nil, Nat.reduceAdd, Nat.reduceLeDiff, Nat.le_refl, Nat.zero_le, isD_i, isD_r, isD_l, isD_n, if_true, if_false, ite_true, ite_false, reduceIte, f2]
  rfl
theorem q158 {K : Option Value → Hp → Prop} {m : Nat} {μ : ModM} {σ : Hp} (h : modAt m μ σ) : X 158 0 [.ref m, .null] [] σ K = K (some (.int (nI (kpn μ)))) (modPut m (wpn μ 0) σ) := by
  simp only [x158_0, x158_1, x158_2, x158_5, x158_6, x158_9, x158_10, x158_11, x158_12, x158_15, x158_16, pushO, List.length_cons, List.length_nil, Nat.reduceAdd, Nat.reduceLeDiff, Nat.le_refl, Nat.zero_le, isD_i, isD_r, isD_l, isD_n, if_true, if_false, ite_true, ite_false, reduceIte, mdF h, mdP0s h, mdP7z h]
