/-! the reference's answers, told on its streams seen as the class's -/
def vS (s : Nat → Int32) (t n N S : Nat) : StrM := ((vG s t, vC s t, vE s t, S, n), (vH s t, vD s t, N), gt s t 0, gt s t 2)
def vB (s : Nat → Int32) (n N : Nat → Nat) (S : Nat) : StaM := (vS s 0 (n 0) (N 0) S, vS s 1 (n 1) (N 1) S)
theorem st_cases {x : Int32} (h : isSt x = true) : ∃ t, t < 2 ∧ x = nI t := by
  unfold isSt at h
  by_cases h0 : x = 0
  · exact ⟨0, by omega, h0.trans nI_0.symm⟩
  · rw [if_neg h0] at h
    exact ⟨1, by omega, (of_decide_eq_true h).trans L1⟩
theorem stOf_vB {s : Nat → Int32} {n N : Nat → Nat} {S t : Nat} (ht : t < 2) : stOf (vB s n N S) (nI t) = vS s t (n t) (N t) S := by
  have : t = 0 ∨ t = 1 := by omega
  rcases this with rfl | rfl
  · unfold stOf
    rw [if_pos nI_0]
    rfl
  · unfold stOf
    rw [if_neg (show ¬ nI 1 = 0 by decide +kernel)]
    rfl
theorem mdP0s {r : Nat} {μ : ModM} {σ : Hp} (h : modAt r μ σ) : pF σ r 0 (.int 0) = σ := (mdP0 h).trans (modPS h)
theorem inR_in {i : Int32} {n : Nat} (hn : n < 2 ^ 30) : inR i 0 (nI n - 1) = in_ n i := by
  unfold inR in_
  by_cases h0 : i < 0
  · rw [if_pos h0, if_pos h0]
  · rw [if_neg h0, if_neg h0]
    have e1 : (nI n - 1).toInt = (n : Int) - 1 := by
      rw [L1]
      exact pk_sub_toInt (by omega) (by omega)
    by_cases h1 : i < nI n
    · have q := Int32.lt_iff_toInt_lt.mp h1
      rw [nI_toInt (by omega)] at q
      rw [decide_eq_true h1, if_neg]
      intro k
      have := Int32.lt_iff_toInt_lt.mp k
      omega
    · rw [decide_eq_false h1, if_pos]
      rw [Int32.lt_iff_toInt_lt, e1]
      have q := Int32.le_iff_toInt_le.mp (Int32.not_lt.mp h1)
      rw [nI_toInt (by omega)] at q
      omega
theorem in_k {n : Nat} {i : Int32} (h : in_ n i = true) (hn : n < 2 ^ 31) : ∃ k, k < n ∧ i = nI k := by
  unfold in_ at h
  by_cases h0 : i < 0
  · rw [if_pos h0] at h; cases h
  · rw [if_neg h0] at h
    obtain ⟨e, e2⟩ := nn_clamp h0
    refine ⟨i.toNatClampNeg, ?_, e.symm⟩
    have q := of_decide_eq_true h
    rw [← e] at q
    have q2 := Int32.lt_iff_toInt_lt.mp q
    rw [nI_toInt e2, nI_toInt hn] at q2
    omega
theorem e141 {s i w : Int32} {K : Option Value → Hp → Prop} {m : Nat} {μ : ModM} {σ : Hp} (h : modAt m μ σ) {n N : Nat → Nat} {S : Nat} (hv : ∀ t, t < 2 → rvOK (ks μ) t (n t) (N t) S) : X 141 0 [.ref m, .int s, .int i, .int w] [] σ K = K (some (.int (f85 (vB (ks μ) n N S) s i w))) σ := by
  unfold f85
  cases hs : isSt s
  · rw [if_neg Bool.false_ne_true]
    simp only [x141_0, x141_1, x141_2, x141_5, x141_6, x141_9, x141_12, x141_13, x141_14, x141_15, x141_16, x141_17, x141_20, x141_21, x141_22, x141_25, x141_28, x141_29, x141_30, x141_31, x141_32, x141_35, x141_36, x141_37, x141_38, x141_39, x141_40, x141_43, x141_46, x141_47, x141_48, x141_49, x141_50, x141_53, x141_56, x141_57, x141_58, x141_59, x141_60, x141_61, x141_62, x141_63, x141_64, x141_65, x141_68, x141_71, x141_73, pushO, List.length_cons, List.length_nil, Nat.reduceAdd, Nat.reduceLeDiff, Nat.le_refl, Nat.zero_le, isD_i, isD_r, isD_l, isD_n, if_true, if_false, ite_true, ite_false, reduceIte, mdF h, mdP0s h, e111, hs, bI_f]
  · rw [if_pos rfl]
    obtain ⟨t, ht, rfl⟩ := st_cases hs
    obtain ⟨o1, o2, o3, o4, o5, o6, o7, o8⟩ := hv t ht
    have q1 := fun K => e113 (K := K) h ht (show 1 < 160 by omega)
    rw [← L1] at q1
    rw [stOf_vB ht]
    show _ = K (some (.int (if in_ (n t) i = true then (if w = 0 then at_ (vG (ks μ) t) (n t) i else if w = 1 then at_ (vC (ks μ) t) (n t) i else if w = 2 then at_ (vE (ks μ) t) (n t) i else if w = 3 then at_ (vD (ks μ) t) (N t) (seatOfR (vH (ks μ) t) (N t) (at_ (vG (ks μ) t) (n t) i)) else -2) else -1))) σ
    have hin := inR_in (i := i) (n := n t) (by omega)
    cases h2 : in_ (n t) i
    · rw [if_neg Bool.false_ne_true]
      simp only [x141_0, x141_1, x141_2, x141_5, x141_6, x141_9, x141_12, x141_13, x141_14, x141_15, x141_16, x141_17, x141_20, x141_21, x141_22, x141_25, x141_28, x141_29, x141_30, x141_31, x141_32, x141_35, x141_36, x141_37, x141_38, x141_39, x141_40, x141_43, x141_46, x141_47, x141_48, x141_49, x141_50, x141_53, x141_56, x141_57, x141_58, x141_59, x141_60, x141_61, x141_62, x141_63, x141_64, x141_65, x141_68, x141_71, x141_73, pushO, List.length_cons, List.length_nil, Nat.reduceAdd, Nat.reduceLeDiff, Nat.le_refl, Nat.zero_le, isD_i, isD_r, isD_l, isD_n, if_true, if_false, ite_true, ite_false, reduceIte, mdF h, mdP0s h, e111, hs, bI_t, i1_ne, q1, o1, e110, hin, h2, bI_f]
    · rw [if_pos rfl]
      obtain ⟨k, hk, rfl⟩ := in_k h2 (by omega)
      have p0 := fun K => e113 (K := K) h ht (show 3 + 3 * k < 160 by omega)
      have p1 := fun K => e113 (K := K) h ht (show 4 + 3 * k < 160 by omega)
      have p2 := fun K => e113 (K := K) h ht (show 5 + 3 * k < 160 by omega)
      have g0 : at_ (vG (ks μ) t) (n t) (nI k) = gt (ks μ) t (3 + 3 * k) := at_nI (f := vG (ks μ) t) hk (by omega)
      have g1 : at_ (vC (ks μ) t) (n t) (nI k) = gt (ks μ) t (4 + 3 * k) := at_nI (f := vC (ks μ) t) hk (by omega)
      have g2 : at_ (vE (ks μ) t) (n t) (nI k) = gt (ks μ) t (5 + 3 * k) := at_nI (f := vE (ks μ) t) hk (by omega)
      have z : nI (3 + 3 * k) + 0 = nI (3 + 3 * k) := by rw [← nI_0, nIa, Nat.add_zero]
      by_cases w0 : w = 0
      · subst w0
        have n3 : ¬ (0 : Int32) = 3 := by decide +kernel
        have r1 : inR 0 0 2 = true := by decide +kernel
        simp only [x141_0, x141_1, x141_2, x141_5, x141_6, x141_9, x141_12, x141_13, x141_14, x141_15, x141_16, x141_17, x141_20, x141_21, x141_22, x141_25, x141_28, x141_29, x141_30, x141_31, x141_32, x141_35, x141_36, x141_37, x141_38, x141_39, x141_40, x141_43, x141_46, x141_47, x141_48, x141_49, x141_50, x141_53, x141_56, x141_57, x141_58, x141_59, x141_60, x141_61, x141_62, x141_63, x141_64, x141_65, x141_68, x141_71, x141_73, pushO, List.length_cons, List.length_nil, Nat.reduceAdd, Nat.reduceLeDiff, Nat.le_refl, Nat.zero_le, isD_i, isD_r, isD_l, isD_n, if_true, if_false, ite_true, ite_false, reduceIte, mdF h, mdP0s h, e111, hs, bI_t, i1_ne, q1, o1, e110, hin, h2, n3, r1, ixg, z, p0, g0]
      · rw [if_neg w0]
        by_cases w1 : w = 1
        · subst w1
          have n3 : ¬ (1 : Int32) = 3 := by decide +kernel
          have r1 : inR 1 0 2 = true := by decide +kernel
          simp only [x141_0, x141_1, x141_2, x141_5, x141_6, x141_9, x141_12, x141_13, x141_14, x141_15, x141_16, x141_17, x141_20, x141_21, x141_22, x141_25, x141_28, x141_29, x141_30, x141_31, x141_32, x141_35, x141_36, x141_37, x141_38, x141_39, x141_40, x141_43, x141_46, x141_47, x141_48, x141_49, x141_50, x141_53, x141_56, x141_57, x141_58, x141_59, x141_60, x141_61, x141_62, x141_63, x141_64, x141_65, x141_68, x141_71, x141_73, pushO, List.length_cons, List.length_nil, Nat.reduceAdd, Nat.reduceLeDiff, Nat.le_refl, Nat.zero_le, isD_i, isD_r, isD_l, isD_n, if_true, if_false, ite_true, ite_false, reduceIte, mdF h, mdP0s h, e111, hs, bI_t, i1_ne, q1, o1, e110, hin, h2, n3, r1, ixg, ixc, p1, g1]
        · rw [if_neg w1]
          by_cases w2 : w = 2
          · subst w2
            have n3 : ¬ (2 : Int32) = 3 := by decide +kernel
            have r1 : inR 2 0 2 = true := by decide +kernel
            simp only [x141_0, x141_1, x141_2, x141_5, x141_6, x141_9, x141_12, x141_13, x141_14, x141_15, x141_16, x141_17, x141_20, x141_21, x141_22, x141_25, x141_28, x141_29, x141_30, x141_31, x141_32, x141_35, x141_36, x141_37, x141_38, x141_39, x141_40, x141_43, x141_46, x141_47, x141_48, x141_49, x141_50, x141_53, x141_56, x141_57, x141_58, x141_59, x141_60, x141_61, x141_62, x141_63, x141_64, x141_65, x141_68, x141_71, x141_73, pushO, List.length_cons, List.length_nil, Nat.reduceAdd, Nat.reduceLeDiff, Nat.le_refl, Nat.zero_le, isD_i, isD_r, isD_l, isD_n, if_true, if_false, ite_true, ite_false, reduceIte, mdF h, mdP0s h, e111, hs, bI_t, i1_ne, q1, o1, e110, hin, h2, n3, r1, ixg, ixe, p2, g2]
          · rw [if_neg w2]
            by_cases w3 : w = 3
            · subst w3
              simp only [x141_0, x141_1, x141_2, x141_5, x141_6, x141_9, x141_12, x141_13, x141_14, x141_15, x141_16, x141_17, x141_20, x141_21, x141_22, x141_25, x141_28, x141_29, x141_30, x141_31, x141_32, x141_35, x141_36, x141_37, x141_38, x141_39, x141_40, x141_43, x141_46, x141_47, x141_48, x141_49, x141_50, x141_53, x141_56, x141_57, x141_58, x141_59, x141_60, x141_61, x141_62, x141_63, x141_64, x141_65, x141_68, x141_71, x141_73, pushO, List.length_cons, List.length_nil, Nat.reduceAdd, Nat.reduceLeDiff, Nat.le_refl, Nat.zero_le, isD_i, isD_r, isD_l, isD_n, if_true, if_false, ite_true, ite_false, reduceIte, mdF h, mdP0s h, e111, hs, bI_t, i1_ne, q1, o1, e110, hin, h2, e115 h ht (show k < 52 by omega), e127 h ht o6 o7, g0]
            · rw [if_neg w3]
              have r1 : inR w 0 2 = false := by
                unfold inR
                by_cases k0 : w < 0
                · rw [if_pos k0]
                · rw [if_neg k0]
                  by_cases k2 : 2 < w
                  · rw [if_pos k2]
                  · exfalso
                    have a0 := Int32.le_iff_toInt_le.mp (Int32.not_lt.mp k0)
                    have a2 := Int32.le_iff_toInt_le.mp (Int32.not_lt.mp k2)
                    have e0 : Int32.toInt 0 = 0 := by decide +kernel
                    have e1 : Int32.toInt 1 = 1 := by decide +kernel
                    have e2 : Int32.toInt 2 = 2 := by decide +kernel
                    have b0 : ¬ w.toInt = 0 := fun q => w0 (Int32.toInt_inj.mp (by omega))
                    have b1 : ¬ w.toInt = 1 := fun q => w1 (Int32.toInt_inj.mp (by omega))
                    have b2 : ¬ w.toInt = 2 := fun q => w2 (Int32.toInt_inj.mp (by omega))
                    omega
              simp only [x141_0, x141_1, x141_2, x141_5, x141_6, x141_9, x141_12, x141_13, x141_14, x141_15, x141_16, x141_17, x141_20, x141_21, x141_22, x141_25, x141_28, x141_29, x141_30, x141_31, x141_32, x141_35, x141_36, x141_37, x141_38, x141_39, x141_40, x141_43, x141_46, x141_47, x141_48, x141_49, x141_50, x141_53, x141_56, x141_57, x141_58, x141_59, x141_60, x141_61, x141_62, x141_63, x141_64, x141_65, x141_68, x141_71, x141_73, pushO, List.length_cons, List.length_nil, Nat.reduceAdd, Nat.reduceLeDiff, Nat.le_refl, Nat.zero_le, isD_i, isD_r, isD_l, isD_n, if_true, if_false, ite_true, ite_false, reduceIte, mdF h, mdP0s h, e111, hs, bI_t, i1_ne, q1, o1, e110, hin, h2, w3, r1, bI_f]
