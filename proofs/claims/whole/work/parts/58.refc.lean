/-! the reference's heaviest -/
def rkN (s : Nat → Int32) (t n i : Nat) : Nat := fold (fun a j => if ihN (vG s t) (vC s t) (vE s t) j i = true then a + 1 else a) n 0 0
theorem e149 {t n i : Nat} {K : Option Value → Hp → Prop} {m : Nat} {μ : ModM} {σ : Hp} (h : modAt m μ σ) (ht : t < 2) (hn : gt (ks μ) t 1 = nI n) (hb : n ≤ 12) (hi : i < n) (hc : ∀ k, k < n → 0 ≤ (vC (ks μ) t k).toInt) (he : ∀ k, k < n → 0 ≤ (vE (ks μ) t k).toInt) : X 149 0 [.ref m, .int (nI t), .int (nI i), .null, .null, .null, .null, .null] [] σ K = K (some (.int (nI (rkN (ks μ) t n i)))) σ := by
  have q := l149 (K := K) h ht hn hb hi hc he n 0 0 .null .null .null isD_n isD_n isD_n rfl (by omega)
  rw [nI_0] at q
  simp only [x149_0, x149_1, x149_2, x149_3, pushO, List.length_cons, List.length_nil, Nat.reduceAdd, Nat.reduceLeDiff, Nat.le_refl, Nat.zero_le, isD_i, isD_r, isD_l, isD_n, if_true, if_false, ite_true, ite_false, reduceIte, q, rkN]
def hyF (s : Nat → Int32) (t n : Nat) (y : Int32) : Nat → Nat → Int32
  | 0, _ => -1
  | d + 1, k => if nI (rkN s t n k) = y then vG s t k else hyF s t n y d (k + 1)
theorem l150 {t n : Nat} {y : Int32} {K : Option Value → Hp → Prop} {m : Nat} {μ : ModM} {σ : Hp} (h : modAt m μ σ) (ht : t < 2) (hn : gt (ks μ) t 1 = nI n) (hb : n ≤ 12) (hc : ∀ k, k < n → 0 ≤ (vC (ks μ) t k).toInt) (he : ∀ k, k < n → 0 ≤ (vE (ks μ) t k).toInt) : ∀ (d k : Nat), n - k = d → k ≤ n → X 150 2 [.ref m, .int (nI t), .int y, .int (nI k)] [] σ K = K (some (.int (hyF (ks μ) t n y d k))) σ := by
  have q1 := fun K => e113 (K := K) h ht (show 1 < 160 by omega)
  rw [← L1] at q1
  intro d
  induction d with
  | zero =>
    intro k hd hk
    have h1 : ¬ nI k < nI n := nI_nlt (by omega) (by omega)
    rw [x150_2]
    simp only [x150_3, x150_4, x150_5, x150_6, x150_9, x150_12, x150_13, x150_14, x150_15, x150_18, x150_19, x150_22, x150_23, x150_24, x150_25, x150_28, x150_29, x150_32, x150_35, x150_36, pushO, List.length_cons, List.length_nil, Nat.reduceAdd, Nat.reduceLeDiff, Nat.le_refl, Nat.zero_le, isD_i, isD_r, isD_l, isD_n, if_true, if_false, ite_true, ite_false, reduceIte, mdF h, q1, hn, h1, hyF]
  | succ d ih =>
    intro k hd hk
    have h1 : nI k < nI n := nI_lt (by omega) (by omega)
    have r := fun K => e149 (K := K) h ht hn hb (show k < n by omega) hc he
    have g := fun K => e115 (K := K) h ht (show k < 52 by omega)
    rw [x150_2]
    unfold hyF
    by_cases h2 : nI (rkN (ks μ) t n k) = y
    · rw [if_pos h2]
      simp only [x150_3, x150_4, x150_5, x150_6, x150_9, x150_12, x150_13, x150_14, x150_15, x150_18, x150_19, x150_22, x150_23, x150_24, x150_25, x150_28, x150_29, x150_32, x150_35, x150_36, pushO, List.length_cons, List.length_nil, Nat.reduceAdd, Nat.reduceLeDiff, Nat.le_refl, Nat.zero_le, isD_i, isD_r, isD_l, isD_n, if_true, if_false, ite_true, ite_false, reduceIte, mdF h, q1, hn, h1, r, h2, g, vG]
    · rw [if_neg h2]
      simp only [x150_3, x150_4, x150_5, x150_6, x150_9, x150_12, x150_13, x150_14, x150_15, x150_18, x150_19, x150_22, x150_23, x150_24, x150_25, x150_28, x150_29, x150_32, x150_35, x150_36, pushO, List.length_cons, List.length_nil, Nat.reduceAdd, Nat.reduceLeDiff, Nat.le_refl, Nat.zero_le, isD_i, isD_r, isD_l, isD_n, if_true, if_false, ite_true, ite_false, reduceIte, mdF h, q1, hn, h1, r, h2, ← nI_succ]
      exact ih (k + 1) (by omega) (by omega)
theorem d151a {s y : Int32} {K : Option Value → Hp → Prop} {m : Nat} {μ : ModM} {σ : Hp} (h : modAt m μ σ) (hs : isSt s = false) : X 151 0 [.ref m, .int s, .int y] [] σ K = K (some (.int (-1))) σ := by
  simp only [x151_0, x151_1, x151_2, x151_5, x151_6, x151_9, x151_12, x151_13, x151_14, x151_15, x151_18, x151_21, x151_22, pushO, List.length_cons, List.length_nil, Nat.reduceAdd, Nat.reduceLeDiff, Nat.le_refl, Nat.zero_le, isD_i, isD_r, isD_l, isD_n, if_true, if_false, ite_true, ite_false, reduceIte, mdF h, mdP0s h, e111, hs, bI_f]
theorem d151b {t n : Nat} {y : Int32} {K : Option Value → Hp → Prop} {m : Nat} {μ : ModM} {σ : Hp} (h : modAt m μ σ) (ht : t < 2) (hn : gt (ks μ) t 1 = nI n) (hb : n ≤ 12) (hc : ∀ k, k < n → 0 ≤ (vC (ks μ) t k).toInt) (he : ∀ k, k < n → 0 ≤ (vE (ks μ) t k).toInt) : X 151 0 [.ref m, .int (nI t), .int y] [] σ K = K (some (.int (hyF (ks μ) t n y n 0))) σ := by
  have hs : isSt (nI t) = true := by
    have : t = 0 ∨ t = 1 := by omega
    rcases this with rfl | rfl <;> decide +kernel
  have q := fun K => l150 (y := y) (K := K) h ht hn hb hc he n 0 rfl (by omega)
  simp only [nI_0] at q
  simp only [x151_0, x151_1, x151_2, x151_5, x151_6, x151_9, x151_12, x151_13, x151_14, x151_15, x151_18, x151_21, x151_22, x150_0, x150_1, pushO, List.length_cons, List.length_nil, Nat.reduceAdd, Nat.reduceLeDiff, Nat.le_refl, Nat.zero_le, isD_i, isD_r, isD_l, isD_n, if_true, if_false, ite_true, ite_false, reduceIte, mdF h, mdP0s h, e111, hs, bI_t, i1_ne, q]
