/-! the reference's shares above: the answer -/
theorem inR_02 {w : Int32} (w0 : ¬ w = 0) (w1 : ¬ w = 1) (w2 : ¬ w = 2) : inR w 0 2 = false := by
  unfold inR
  by_cases k0 : w < 0
  · rw [if_pos k0]
  · rw [if_neg k0]
    by_cases k2 : 2 < w
    · rw [if_pos k2]
    · exfalso
      have a0 := Int32.le_iff_toInt_le.mp (Int32.not_lt.mp k0)
      have a2 := Int32.le_iff_toInt_le.mp (Int32.not_lt.mp k2)
      have e0 : Int32.toInt 0 = 0 := by decide +kernel
      have e1 : Int32.toInt 1 = 1 := by decide +kernel
      have e2 : Int32.toInt 2 = 2 := by decide +kernel
      have b0 : ¬ w.toInt = 0 := fun q => w0 (Int32.toInt_inj.mp (by omega))
      have b1 : ¬ w.toInt = 1 := fun q => w1 (Int32.toInt_inj.mp (by omega))
      have b2 : ¬ w.toInt = 2 := fun q => w2 (Int32.toInt_inj.mp (by omega))
      omega
theorem e148 {s y w : Int32} {K : Option Value → Hp → Prop} {m : Nat} {μ : ModM} {σ : Hp} (h : modAt m μ σ) {n N : Nat → Nat} {S : Nat} (hv : ∀ t, t < 2 → rvOK (ks μ) t (n t) (N t) S) : X 148 0 [.ref m, .int s, .int y, .int w, .null, .null, .null, .null] [] σ K = K (some (.int (f89 (vB (ks μ) n N S) s y w))) σ := by
  unfold f89
  cases hs : isSt s
  · rw [if_neg Bool.false_ne_true]
    simp only [x148_0, x148_1, x148_2, x148_5, x148_6, x148_9, x148_12, x148_13, pushO, List.length_cons, List.length_nil, Nat.reduceAdd, Nat.reduceLeDiff, Nat.le_refl, Nat.zero_le, isD_i, isD_r, isD_l, isD_n, if_true, if_false, ite_true, ite_false, reduceIte, mdF h, mdP0s h, e111, hs, bI_f]
  · rw [if_pos rfl]
    obtain ⟨t, ht, rfl⟩ := st_cases hs
    obtain ⟨o1, o2, o3, o4, o5, o6, o7, o8⟩ := hv t ht
    have q0 := fun K => e113 (K := K) h ht (show 0 < 160 by omega)
    rw [nI_0] at q0
    rw [stOf_vB ht]
    show _ = K (some (.int (if y < 0 then -2 else if 100 < y then -2 else if w = 0 then nI (fold (fun a k => if y * gt (ks μ) t 0 < 100 * (vC (ks μ) t k - vE (ks μ) t k) then a + 1 else a) (n t) 0 0) else if w = 1 then nI (fold (fun a k => if y * gt (ks μ) t 0 < 100 * vC (ks μ) t k then a + 1 else a) (n t) 0 0) else if w = 2 then nI (fold (fun a k => if y * gt (ks μ) t 0 < 100 * vD (ks μ) t k then a + 1 else a) (N t) 0 0) else -2))) σ
    by_cases y0 : y < 0
    · have r1 : inR y 0 100 = false := if_pos y0
      rw [if_pos y0]
      simp only [x148_0, x148_1, x148_2, x148_5, x148_6, x148_9, x148_12, x148_13, x148_14, x148_15, x148_16, x148_18, x148_21, x148_24, x148_25, x148_26, x148_27, x148_30, x148_33, x148_35, pushO, List.length_cons, List.length_nil, Nat.reduceAdd, Nat.reduceLeDiff, Nat.le_refl, Nat.zero_le, isD_i, isD_r, isD_l, isD_n, if_true, if_false, ite_true, ite_false, reduceIte, mdF h, mdP0s h, e111, hs, bI_t, i1_ne, e110, r1, bI_f]
    · rw [if_neg y0]
      by_cases y1 : 100 < y
      · have r1 : inR y 0 100 = false := (if_neg y0).trans (if_pos y1)
        rw [if_pos y1]
        simp only [x148_0, x148_1, x148_2, x148_5, x148_6, x148_9, x148_12, x148_13, x148_14, x148_15, x148_16, x148_18, x148_21, x148_24, x148_25, x148_26, x148_27, x148_30, x148_33, x148_35, pushO, List.length_cons, List.length_nil, Nat.reduceAdd, Nat.reduceLeDiff, Nat.le_refl, Nat.zero_le, isD_i, isD_r, isD_l, isD_n, if_true, if_false, ite_true, ite_false, reduceIte, mdF h, mdP0s h, e111, hs, bI_t, i1_ne, e110, r1, bI_f]
      · have r1 : inR y 0 100 = true := (if_neg y0).trans (if_neg y1)
        rw [if_neg y1]
        by_cases w0 : w = 0
        · subst w0
          have r2 : inR 0 0 2 = true := by decide +kernel
          have q := l148 (y := y) (l := y * gt (ks μ) t 0) (K := K) h ht o1 (by omega) o6 (Or.inl ⟨rfl, rfl⟩) (n t) 0 0 .null isD_n rfl (by omega)
          rw [nI_0] at q
          simp only [x148_0, x148_1, x148_2, x148_5, x148_6, x148_9, x148_12, x148_13, x148_14, x148_15, x148_16, x148_18, x148_21, x148_24, x148_25, x148_26, x148_27, x148_30, x148_33, x148_35, x148_36, x148_37, x148_38, x148_39, x148_40, x148_43, x148_44, x148_46, x148_47, x148_49, x148_50, pushO, List.length_cons, List.length_nil, Nat.reduceAdd, Nat.reduceLeDiff, Nat.le_refl, Nat.zero_le, isD_i, isD_r, isD_l, isD_n, if_true, if_false, ite_true, ite_false, reduceIte, mdF h, mdP0s h, e111, hs, bI_t, i1_ne, e110, r1, r2, q0, q]
        · rw [if_neg w0]
          by_cases w1 : w = 1
          · subst w1
            have r2 : inR 1 0 2 = true := by decide +kernel
            have q := l148 (y := y) (l := y * gt (ks μ) t 0) (K := K) h ht o1 (by omega) o6 (Or.inr ⟨rfl, rfl⟩) (n t) 0 0 .null isD_n rfl (by omega)
            rw [nI_0] at q
            simp only [x148_0, x148_1, x148_2, x148_5, x148_6, x148_9, x148_12, x148_13, x148_14, x148_15, x148_16, x148_18, x148_21, x148_24, x148_25, x148_26, x148_27, x148_30, x148_33, x148_35, x148_36, x148_37, x148_38, x148_39, x148_40, x148_43, x148_44, x148_46, x148_47, x148_49, x148_50, pushO, List.length_cons, List.length_nil, Nat.reduceAdd, Nat.reduceLeDiff, Nat.le_refl, Nat.zero_le, isD_i, isD_r, isD_l, isD_n, if_true, if_false, ite_true, ite_false, reduceIte, mdF h, mdP0s h, e111, hs, bI_t, i1_ne, e110, r1, r2, q0, q]
          · rw [if_neg w1]
            by_cases w2 : w = 2
            · subst w2
              have r2 : inR 2 0 2 = true := by decide +kernel
              have q := m148 (y := y) (l := y * gt (ks μ) t 0) (K := K) h ht o1 o6 o7
              simp only [x148_0, x148_1, x148_2, x148_5, x148_6, x148_9, x148_12, x148_13, x148_14, x148_15, x148_16, x148_18, x148_21, x148_24, x148_25, x148_26, x148_27, x148_30, x148_33, x148_35, x148_36, x148_37, x148_38, x148_39, x148_40, x148_43, x148_44, x148_46, x148_47, x148_49, x148_50, pushO, List.length_cons, List.length_nil, Nat.reduceAdd, Nat.reduceLeDiff, Nat.le_refl, Nat.zero_le, isD_i, isD_r, isD_l, isD_n, if_true, if_false, ite_true, ite_false, reduceIte, mdF h, mdP0s h, e111, hs, bI_t, i1_ne, e110, r1, r2, q0, q]
            · rw [if_neg w2]
              simp only [x148_0, x148_1, x148_2, x148_5, x148_6, x148_9, x148_12, x148_13, x148_14, x148_15, x148_16, x148_18, x148_21, x148_24, x148_25, x148_26, x148_27, x148_30, x148_33, x148_35, pushO, List.length_cons, List.length_nil, Nat.reduceAdd, Nat.reduceLeDiff, Nat.le_refl, Nat.zero_le, isD_i, isD_r, isD_l, isD_n, if_true, if_false, ite_true, ite_false, reduceIte, mdF h, mdP0s h, e111, hs, bI_t, i1_ne, e110, r1, inR_02 w0 w1 w2, bI_f]
