/-! the reference's sure order, opened; its shares above -/
theorem st_nI {t : Nat} (ht : t < 2) : isSt (nI t) = true := by
  have : t = 0 ∨ t = 1 := by omega
  rcases this with rfl | rfl <;> decide +kernel
theorem d154a {s : Int32} {K : Option Value → Hp → Prop} {m : Nat} {μ : ModM} {σ : Hp} (h : modAt m μ σ) (hs : isSt s = false) : X 154 0 [.ref m, .int s, .null, .null, .null, .null, .null] [] σ K = K (some (.int (-1))) σ := by
  simp only [x154_0, x154_1, x154_2, x154_5, x154_6, x154_9, x154_12, x154_13, pushO, List.length_cons, List.length_nil, Nat.reduceAdd, Nat.reduceLeDiff, Nat.le_refl, Nat.zero_le, isD_i, isD_r, isD_l, isD_n, if_true, if_false, ite_true, ite_false, reduceIte, mdF h, mdP0s h, e111, hs, bI_f]
theorem d154b {t n N S : Nat} {K : Option Value → Hp → Prop} {m : Nat} {μ : ModM} {σ : Hp} (h : modAt m μ σ) (ht : t < 2) (o : rvOK (ks μ) t n N S) (he : ∀ k, k < n → 0 ≤ (vE (ks μ) t k).toInt) : X 154 0 [.ref m, .int (nI t), .null, .null, .null, .null, .null] [] σ K = K (some (.int (soF (ks μ) t n S (mwsR (vC (ks μ) t) S n) n 0))) σ := by
  have q := l154 (bar := mwsR (vC (ks μ) t) S n) (K := K) h ht o he n 0 .null .null isD_n isD_n rfl (by omega)
  rw [nI_0] at q
  simp only [x154_0, x154_1, x154_2, x154_5, x154_6, x154_9, x154_12, x154_13, x154_14, x154_15, x154_16, x154_19, x154_20, x154_21, x154_22, x154_23, pushO, List.length_cons, List.length_nil, Nat.reduceAdd, Nat.reduceLeDiff, Nat.le_refl, Nat.zero_le, isD_i, isD_r, isD_l, isD_n, if_true, if_false, ite_true, ite_false, reduceIte, mdF h, mdP0s h, e111, st_nI ht, bI_t, i1_ne, e123 h ht o, q]
