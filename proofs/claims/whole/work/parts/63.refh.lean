/-! the reference's shares above, whole -/
theorem l148t {t N : Nat} {y l : Int32} {K : Option Value → Hp → Prop} {m : Nat} {μ : ModM} {σ : Hp} (h : modAt m μ σ) (ht : t < 2) (hN : gt (ks μ) t 39 = nI N) (hb : N ≤ 60) : ∀ (d k a : Nat) (v7 : Value), N - k = d → k ≤ N → X 148 122 [.ref m, .int (nI t), .int y, .int 2, .int l, .int (nI a), .int (nI k), v7] [] σ K = K (some (.int (nI (fold (fun a k => if l < 100 * vD (ks μ) t k then a + 1 else a) d k a)))) σ := by
  have q1 := fun K => e113 (K := K) h ht (show 39 < 160 by omega)
  rw [← L39] at q1
  intro d
  induction d with
  | zero =>
    intro k a v7 hd hk
    have h1 : ¬ nI k < nI N := nI_nlt (by omega) (by omega)
    rw [x148_122]
    simp only [x148_124, x148_125, x148_126, x148_128, x148_131, x148_177, x148_179, pushO, List.length_cons, List.length_nil, Nat.reduceAdd, Nat.reduceLeDiff, Nat.le_refl, Nat.zero_le, isD_i, isD_r, isD_l, isD_n, if_true, if_false, ite_true, ite_false, reduceIte, mdF h, q1, hN, h1, fold]
  | succ d ih =>
    intro k a v7 hd hk
    have h1 : nI k < nI N := nI_lt (by omega) (by omega)
    have ck := fun K => e113 (K := K) h ht (show 41 + 2 * k < 160 by omega)
    have a1 : nI a + 1 = nI (a + 1) := by rw [L1, nIa]
    have k1' : nI k + 1 = nI (k + 1) := by rw [L1, nIa]
    have a0 : nI a + 0 = nI a := by rw [← nI_0, nIa, Nat.add_zero]
    rw [x148_122]
    unfold fold
    by_cases k3 : l < 100 * vD (ks μ) t k
    · have k4 : l < 100 * gt (ks μ) t (41 + 2 * k) := k3
      rw [if_pos k3]
      simp only [x148_124, x148_125, x148_126, x148_128, x148_131, x148_134, x148_135, x148_136, x148_139, x148_141, x148_143, x148_144, x148_145, x148_147, x148_148, x148_150, x148_151, x148_152, x148_153, x148_154, x148_157, x148_158, x148_160, x148_163, x148_164, x148_167, x148_168, x148_169, x148_171, x148_174, pushO, List.length_cons, List.length_nil, Nat.reduceAdd, Nat.reduceLeDiff, Nat.le_refl, Nat.zero_le, isD_i, isD_r, isD_l, isD_n, if_true, if_false, ite_true, ite_false, reduceIte, mdF h, q1, hN, h1, ix40, ix41, ck, k4, a1, k1']
      exact ih (k + 1) (a + 1) _ (by omega) (by omega)
    · have k4 : ¬ l < 100 * gt (ks μ) t (41 + 2 * k) := k3
      rw [if_neg k3]
      simp only [x148_124, x148_125, x148_126, x148_128, x148_131, x148_134, x148_135, x148_136, x148_139, x148_141, x148_143, x148_144, x148_145, x148_147, x148_148, x148_150, x148_151, x148_152, x148_153, x148_154, x148_157, x148_158, x148_160, x148_163, x148_164, x148_167, x148_168, x148_169, x148_171, x148_174, pushO, List.length_cons, List.length_nil, Nat.reduceAdd, Nat.reduceLeDiff, Nat.le_refl, Nat.zero_le, isD_i, isD_r, isD_l, isD_n, if_true, if_false, ite_true, ite_false, reduceIte, mdF h, q1, hN, h1, ix40, ix41, ck, k4, a0, k1']
      exact ih (k + 1) a _ (by omega) (by omega)
theorem m148 {t n N : Nat} {y l : Int32} {K : Option Value → Hp → Prop} {m : Nat} {μ : ModM} {σ : Hp} (h : modAt m μ σ) (ht : t < 2) (hn : gt (ks μ) t 1 = nI n) (hN : gt (ks μ) t 39 = nI N) (hb : N ≤ 60) : X 148 52 [.ref m, .int (nI t), .int y, .int 2, .int l, .int 0, .int 0, .null] [] σ K = K (some (.int (nI (fold (fun a k => if l < 100 * vD (ks μ) t k then a + 1 else a) N 0 0)))) σ := by
  have q1 := fun K => e113 (K := K) h ht (show 1 < 160 by omega)
  rw [← L1] at q1
  have q := l148t (y := y) (l := l) (K := K) h ht hN hb N 0 0 .null rfl (by omega)
  rw [nI_0] at q
  have w3 : ¬ (2 : Int32) < 2 := by decide +kernel
  by_cases h0 : 0 < nI n
  · simp only [x148_52, x148_54, x148_55, x148_56, x148_57, x148_60, x148_63, x148_64, x148_65, x148_119, x148_120, pushO, List.length_cons, List.length_nil, Nat.reduceAdd, Nat.reduceLeDiff, Nat.le_refl, Nat.zero_le, isD_i, isD_r, isD_l, isD_n, if_true, if_false, ite_true, ite_false, reduceIte, mdF h, q1, hn, h0, w3, q]
  · simp only [x148_52, x148_54, x148_55, x148_56, x148_57, x148_60, x148_63, x148_64, x148_65, x148_119, x148_120, pushO, List.length_cons, List.length_nil, Nat.reduceAdd, Nat.reduceLeDiff, Nat.le_refl, Nat.zero_le, isD_i, isD_r, isD_l, isD_n, if_true, if_false, ite_true, ite_false, reduceIte, mdF h, q1, hn, h0, q]
