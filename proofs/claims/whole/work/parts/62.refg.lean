/-! the reference's shares above -/
theorem t148 {t N : Nat} {y w l : Int32} {a : Int32} {v6 v7 : Value} {K : Option Value → Hp → Prop} {m : Nat} {μ : ModM} {σ : Hp} (h : modAt m μ σ) (ht : t < 2) (hN : gt (ks μ) t 39 = nI N) (hw : ¬ w = 2) (h6 : isD v6 = false) : X 148 119 [.ref m, .int (nI t), .int y, .int w, .int l, .int a, v6, v7] [] σ K = K (some (.int a)) σ := by
  have q1 := fun K => e113 (K := K) h ht (show 39 < 160 by omega)
  rw [← L39] at q1
  by_cases h0 : 0 < nI N
  · simp only [x148_119, x148_120, x148_122, x148_124, x148_125, x148_126, x148_128, x148_131, x148_134, x148_135, x148_136, x148_177, x148_179, pushO, List.length_cons, List.length_nil, Nat.reduceAdd, Nat.reduceLeDiff, Nat.le_refl, Nat.zero_le, isD_i, isD_r, isD_l, isD_n, if_true, if_false, ite_true, ite_false, reduceIte, h6, mdF h, q1, hN, h0, hw]
  · simp only [x148_119, x148_120, x148_122, x148_124, x148_125, x148_126, x148_128, x148_131, x148_134, x148_135, x148_136, x148_177, x148_179, pushO, List.length_cons, List.length_nil, Nat.reduceAdd, Nat.reduceLeDiff, Nat.le_refl, Nat.zero_le, isD_i, isD_r, isD_l, isD_n, if_true, if_false, ite_true, ite_false, reduceIte, h6, mdF h, q1, hN, h0]
theorem l148 {t n N : Nat} {y w l : Int32} {K : Option Value → Hp → Prop} {f : Nat → Int32} {m : Nat} {μ : ModM} {σ : Hp} (h : modAt m μ σ) (ht : t < 2) (hn : gt (ks μ) t 1 = nI n) (hb : n ≤ 12) (hN : gt (ks μ) t 39 = nI N) (hw : w = 0 ∧ f = (fun k => vC (ks μ) t k - vE (ks μ) t k) ∨ w = 1 ∧ f = vC (ks μ) t) : ∀ (d k a : Nat) (v7 : Value), isD v7 = false → n - k = d → k ≤ n → X 148 52 [.ref m, .int (nI t), .int y, .int w, .int l, .int (nI a), .int (nI k), v7] [] σ K = K (some (.int (nI (fold (fun a k => if l < 100 * f k then a + 1 else a) d k a)))) σ := by
  have q1 := fun K => e113 (K := K) h ht (show 1 < 160 by omega)
  rw [← L1] at q1
  have w2 : ¬ w = 2 := by
    rcases hw with ⟨rfl, _⟩ | ⟨rfl, _⟩ <;> decide +kernel
  have w3 : w < 2 := by
    rcases hw with ⟨rfl, _⟩ | ⟨rfl, _⟩ <;> decide +kernel
  intro d
  induction d with
  | zero =>
    intro k a v7 _ hd hk
    have h1 : ¬ nI k < nI n := nI_nlt (by omega) (by omega)
    rw [x148_52]
    simp only [x148_54, x148_55, x148_56, x148_57, x148_60, pushO, List.length_cons, List.length_nil, Nat.reduceAdd, Nat.reduceLeDiff, Nat.le_refl, Nat.zero_le, isD_i, isD_r, isD_l, isD_n, if_true, if_false, ite_true, ite_false, reduceIte, mdF h, q1, hn, h1, fold]
    exact t148 h ht hN w2 (isD_i _)
  | succ d ih =>
    intro k a v7 h7 hd hk
    have h1 : nI k < nI n := nI_lt (by omega) (by omega)
    have ck := fun K => e116 (K := K) h ht (show k < 52 by omega)
    have ek := fun K => e117 (K := K) h ht (show k < 51 by omega)
    have a1 : nI a + 1 = nI (a + 1) := by rw [L1, nIa]
    have k1' : nI k + 1 = nI (k + 1) := by rw [L1, nIa]
    have a0 : nI a + 0 = nI a := by rw [← nI_0, nIa, Nat.add_zero]
    have hd2 : n - (k + 1) = d := by omega
    have hk2 : k + 1 ≤ n := by omega
    rw [x148_52]
    unfold fold
    rcases hw with ⟨rfl, rfl⟩ | ⟨rfl, rfl⟩
    · by_cases k3 : l < 100 * (vC (ks μ) t k - vE (ks μ) t k)
      · have k4 : l < 100 * (gt (ks μ) t (4 + 3 * k) - gt (ks μ) t (5 + 3 * k)) := k3
        rw [if_pos k3]
        simp only [x148_54, x148_55, x148_56, x148_57, x148_60, x148_63, x148_64, x148_65, x148_68, x148_69, x148_70, x148_72, x148_75, x148_76, x148_79, x148_80, x148_81, x148_83, x148_86, x148_89, x148_90, x148_91, x148_93, x148_95, x148_97, x148_99, x148_100, x148_102, x148_105, x148_106, x148_109, x148_110, x148_111, x148_113, x148_116, pushO, List.length_cons, List.length_nil, Nat.reduceAdd, Nat.reduceLeDiff, Nat.le_refl, Nat.zero_le, isD_i, isD_r, isD_l, isD_n, if_true, if_false, ite_true, ite_false, reduceIte, h7, mdF h, q1, hn, h1, w3, ck, ek, k4, a1, k1']
        exact ih (k + 1) (a + 1) _ (isD_i _) hd2 hk2
      · have k4 : ¬ l < 100 * (gt (ks μ) t (4 + 3 * k) - gt (ks μ) t (5 + 3 * k)) := k3
        rw [if_neg k3]
        simp only [x148_54, x148_55, x148_56, x148_57, x148_60, x148_63, x148_64, x148_65, x148_68, x148_69, x148_70, x148_72, x148_75, x148_76, x148_79, x148_80, x148_81, x148_83, x148_86, x148_89, x148_90, x148_91, x148_93, x148_95, x148_97, x148_99, x148_100, x148_102, x148_105, x148_106, x148_109, x148_110, x148_111, x148_113, x148_116, pushO, List.length_cons, List.length_nil, Nat.reduceAdd, Nat.reduceLeDiff, Nat.le_refl, Nat.zero_le, isD_i, isD_r, isD_l, isD_n, if_true, if_false, ite_true, ite_false, reduceIte, h7, mdF h, q1, hn, h1, w3, ck, ek, k4, a0, k1']
        exact ih (k + 1) a _ (isD_i _) hd2 hk2
    · have z1 : ¬ (1 : Int32) = 0 := by decide +kernel
      have s0 : ∀ x : Int32, x - 0 = x := fun x => by rw [Int32.sub_zero]
      by_cases k3 : l < 100 * vC (ks μ) t k
      · have k4 : l < 100 * gt (ks μ) t (4 + 3 * k) := k3
        rw [if_pos k3]
        simp only [x148_54, x148_55, x148_56, x148_57, x148_60, x148_63, x148_64, x148_65, x148_68, x148_69, x148_70, x148_72, x148_75, x148_76, x148_79, x148_80, x148_81, x148_83, x148_86, x148_89, x148_90, x148_91, x148_93, x148_95, x148_97, x148_99, x148_100, x148_102, x148_105, x148_106, x148_109, x148_110, x148_111, x148_113, x148_116, pushO, List.length_cons, List.length_nil, Nat.reduceAdd, Nat.reduceLeDiff, Nat.le_refl, Nat.zero_le, isD_i, isD_r, isD_l, isD_n, if_true, if_false, ite_true, ite_false, reduceIte, h7, mdF h, q1, hn, h1, w3, ck, z1, s0, k4, a1, k1']
        exact ih (k + 1) (a + 1) _ (isD_i _) hd2 hk2
      · have k4 : ¬ l < 100 * gt (ks μ) t (4 + 3 * k) := k3
        rw [if_neg k3]
        simp only [x148_54, x148_55, x148_56, x148_57, x148_60, x148_63, x148_64, x148_65, x148_68, x148_69, x148_70, x148_72, x148_75, x148_76, x148_79, x148_80, x148_81, x148_83, x148_86, x148_89, x148_90, x148_91, x148_93, x148_95, x148_97, x148_99, x148_100, x148_102, x148_105, x148_106, x148_109, x148_110, x148_111, x148_113, x148_116, pushO, List.length_cons, List.length_nil, Nat.reduceAdd, Nat.reduceLeDiff, Nat.le_refl, Nat.zero_le, isD_i, isD_r, isD_l, isD_n, if_true, if_false, ite_true, ite_false, reduceIte, h7, mdF h, q1, hn, h1, w3, ck, z1, s0, k4, a0, k1']
        exact ih (k + 1) a _ (isD_i _) hd2 hk2
