/-! the reference's sure order -/
theorem e150 {t n : Nat} {y : Int32} {K : Option Value → Hp → Prop} {m : Nat} {μ : ModM} {σ : Hp} (h : modAt m μ σ) (ht : t < 2) (hn : gt (ks μ) t 1 = nI n) (hb : n ≤ 12) (hc : ∀ k, k < n → 0 ≤ (vC (ks μ) t k).toInt) (he : ∀ k, k < n → 0 ≤ (vE (ks μ) t k).toInt) : X 150 0 [.ref m, .int (nI t), .int y, .null] [] σ K = K (some (.int (hyF (ks μ) t n y n 0))) σ := by
  have q := l150 (y := y) (K := K) h ht hn hb hc he n 0 rfl (by omega)
  rw [nI_0] at q
  simp only [x150_0, x150_1, pushO, List.length_cons, List.length_nil, Nat.reduceAdd, Nat.reduceLeDiff, Nat.le_refl, Nat.zero_le, isD_i, isD_r, isD_l, isD_n, if_true, if_false, ite_true, ite_false, reduceIte, q]
def leV (s : Nat → Int32) (t n : Nat) (x : Int32) : Int32 := leastAtR (vC s t) (vE s t) n (seatOfR (vG s t) n x)
def moV (s : Nat → Int32) (t n S : Nat) (x : Int32) : Int32 := mostR (vG s t) (vC s t) S n x
def soF (s : Nat → Int32) (t n S : Nat) (bar : Int32) : Nat → Nat → Int32
  | 0, r => nI r
  | d + 1, r => if leV s t n (hyF s t n (nI r) n 0) < bar then nI r else if r + 1 = n then nI (r + 1) else if leV s t n (hyF s t n (nI r) n 0) < moV s t n S (hyF s t n (nI (r + 1)) n 0) then nI r else soF s t n S bar d (r + 1)
theorem l154 {t n N S : Nat} {bar : Int32} {K : Option Value → Hp → Prop} {m : Nat} {μ : ModM} {σ : Hp} (h : modAt m μ σ) (ht : t < 2) (o : rvOK (ks μ) t n N S) (he : ∀ k, k < n → 0 ≤ (vE (ks μ) t k).toInt) : ∀ (d r : Nat) (w5 w6 : Value), isD w5 = false → isD w6 = false → n - r = d → r ≤ n → X 154 25 [.ref m, .int (nI t), .int bar, .int (nI r), .int 1, w5, w6] [] σ K = K (some (.int (soF (ks μ) t n S bar d r))) σ := by
  obtain ⟨o1, o2, o3, o4, o5, o6, o7, o8⟩ := id o
  have q1 := fun K => e113 (K := K) h ht (show 1 < 160 by omega)
  rw [← L1] at q1
  have hv := fun y K => e150 (y := y) (K := K) h ht o1 (show n ≤ 12 by omega) o8 he
  have ql := fun y K => e125 (y := y) (K := K) h ht o
  have qm := fun y K => e124 (y := y) (K := K) h ht o
  have z1 : ¬ (1 : Int32) = 0 := by decide +kernel
  intro d
  induction d with
  | zero =>
    intro r w5 w6 _ _ hd hr
    have h1 : ¬ nI r < nI n := nI_nlt (by omega) (by omega)
    rw [x154_25]
    simp only [x154_27, x154_30, x154_31, x154_32, x154_33, x154_34, x154_37, x154_124, x154_125, pushO, List.length_cons, List.length_nil, Nat.reduceAdd, Nat.reduceLeDiff, Nat.le_refl, Nat.zero_le, isD_i, isD_r, isD_l, isD_n, if_true, if_false, ite_true, ite_false, reduceIte, mdF h, z1, q1, o1, h1, soF]
  | succ d ih =>
    intro r w5 w6 hw5 hw6 hd hr
    have h1 : nI r < nI n := nI_lt (by omega) (by omega)
    have e1 : nI r + 1 = nI (r + 1) := by rw [L1, nIa]
    have e0 : nI r + 0 = nI r := by rw [← nI_0, nIa, Nat.add_zero]
    obtain ⟨n', hn'⟩ : ∃ n', n = n' + 1 := ⟨n - 1, by omega⟩
    have en : nI n - 1 = nI (n - 1) := by
      rw [hn', nI_pred]
      rfl
    have ret : ∀ v5 v6, X 154 25 [.ref m, .int (nI t), .int bar, .int (nI r), .int 0, v5, v6] [] σ K = K (some (.int (nI r))) σ := fun v5 v6 => by
      simp only [x154_25, x154_27, x154_124, x154_125, pushO, List.length_cons, List.length_nil, Nat.reduceAdd, Nat.reduceLeDiff, Nat.le_refl, Nat.zero_le, isD_i, isD_r, isD_l, isD_n, if_true, if_false, ite_true, ite_false, reduceIte]
    rw [x154_25]
    unfold soF
    by_cases k1 : leV (ks μ) t n (hyF (ks μ) t n (nI r) n 0) < bar
    · rw [if_pos k1]
      have k1' : leastAtR (vC (ks μ) t) (vE (ks μ) t) n (seatOfR (vG (ks μ) t) n (hyF (ks μ) t n (nI r) n 0)) < bar := k1
      by_cases k2 : r = n - 1
      · have k3 : nI r = nI (n - 1) := by rw [← k2]
        simp only [x154_27, x154_30, x154_31, x154_32, x154_33, x154_34, x154_37, x154_40, x154_41, x154_42, x154_43, x154_44, x154_45, x154_48, x154_51, x154_53, x154_54, x154_55, x154_56, x154_57, x154_60, x154_61, x154_62, x154_65, x154_66, x154_69, x154_70, x154_72, x154_74, x154_75, x154_105, x154_106, x154_108, x154_109, x154_111, x154_114, x154_115, x154_118, x154_119, x154_120, x154_121, pushO, List.length_cons, List.length_nil, Nat.reduceAdd, Nat.reduceLeDiff, Nat.le_refl, Nat.zero_le, isD_i, isD_r, isD_l, isD_n, if_true, if_false, ite_true, ite_false, reduceIte, hw5, hw6, mdF h, z1, q1, o1, h1, hv, ql, en, ← k3, k1', e0]
        exact ret _ _
      · have k3 : ¬ nI r = nI (n - 1) := by rw [nI_eq_iff (by omega) (by omega)]; exact k2
        simp only [x154_27, x154_30, x154_31, x154_32, x154_33, x154_34, x154_37, x154_40, x154_41, x154_42, x154_43, x154_44, x154_45, x154_48, x154_51, x154_53, x154_54, x154_55, x154_56, x154_57, x154_60, x154_61, x154_62, x154_65, x154_66, x154_69, x154_70, x154_72, x154_74, x154_75, x154_105, x154_106, x154_108, x154_109, x154_111, x154_114, x154_115, x154_118, x154_119, x154_120, x154_121, pushO, List.length_cons, List.length_nil, Nat.reduceAdd, Nat.reduceLeDiff, Nat.le_refl, Nat.zero_le, isD_i, isD_r, isD_l, isD_n, if_true, if_false, ite_true, ite_false, reduceIte, hw5, hw6, mdF h, z1, q1, o1, h1, hv, ql, en, k3, k1', e0]
        exact ret _ _
    · rw [if_neg k1]
      have k1' : ¬ leastAtR (vC (ks μ) t) (vE (ks μ) t) n (seatOfR (vG (ks μ) t) n (hyF (ks μ) t n (nI r) n 0)) < bar := k1
      by_cases k2 : r + 1 = n
      · have k3 : nI (n - 1) = nI r := by rw [← k2]; rfl
        rw [if_pos k2]
        have fin := ih (r + 1) (.int (leastAtR (vC (ks μ) t) (vE (ks μ) t) n (seatOfR (vG (ks μ) t) n (hyF (ks μ) t n (nI r) n 0)))) (.int 1) (isD_i _) (isD_i _) (by omega) (by omega)
        have d0 : d = 0 := by omega
        subst d0
        simp only [x154_27, x154_30, x154_31, x154_32, x154_33, x154_34, x154_37, x154_40, x154_41, x154_42, x154_43, x154_44, x154_45, x154_48, x154_51, x154_53, x154_54, x154_55, x154_56, x154_57, x154_60, x154_61, x154_62, x154_65, x154_66, x154_69, x154_70, x154_72, x154_74, x154_75, x154_78, x154_80, x154_83, x154_85, x154_86, x154_87, x154_88, x154_89, x154_90, x154_91, x154_92, x154_95, x154_98, x154_101, x154_102, x154_106, x154_108, x154_109, x154_111, x154_114, x154_115, x154_118, x154_119, x154_120, x154_121, pushO, List.length_cons, List.length_nil, Nat.reduceAdd, Nat.reduceLeDiff, Nat.le_refl, Nat.zero_le, isD_i, isD_r, isD_l, isD_n, if_true, if_false, ite_true, ite_false, reduceIte, hw5, hw6, mdF h, z1, q1, o1, h1, hv, ql, en, k3, k1', e1]
        exact fin
      · have k3 : ¬ nI r = nI (n - 1) := by rw [nI_eq_iff (by omega) (by omega)]; omega
        rw [if_neg k2]
        by_cases k4 : leV (ks μ) t n (hyF (ks μ) t n (nI r) n 0) < moV (ks μ) t n S (hyF (ks μ) t n (nI (r + 1)) n 0)
        · rw [if_pos k4]
          have k5 : leastAtR (vC (ks μ) t) (vE (ks μ) t) n (seatOfR (vG (ks μ) t) n (hyF (ks μ) t n (nI r) n 0)) < mostR (vG (ks μ) t) (vC (ks μ) t) S n (hyF (ks μ) t n (nI (r + 1)) n 0) := k4
          simp only [x154_27, x154_30, x154_31, x154_32, x154_33, x154_34, x154_37, x154_40, x154_41, x154_42, x154_43, x154_44, x154_45, x154_48, x154_51, x154_53, x154_54, x154_55, x154_56, x154_57, x154_60, x154_61, x154_62, x154_65, x154_66, x154_69, x154_70, x154_72, x154_74, x154_75, x154_78, x154_80, x154_83, x154_85, x154_86, x154_87, x154_88, x154_89, x154_90, x154_91, x154_92, x154_95, x154_98, x154_101, x154_102, x154_105, x154_106, x154_108, x154_109, x154_111, x154_114, x154_115, x154_118, x154_119, x154_120, x154_121, pushO, List.length_cons, List.length_nil, Nat.reduceAdd, Nat.reduceLeDiff, Nat.le_refl, Nat.zero_le, isD_i, isD_r, isD_l, isD_n, if_true, if_false, ite_true, ite_false, reduceIte, hw5, hw6, mdF h, z1, q1, o1, h1, hv, ql, qm, en, k3, k1', e1, k5, e0]
          exact ret _ _
        · rw [if_neg k4]
          have k5 : ¬ leastAtR (vC (ks μ) t) (vE (ks μ) t) n (seatOfR (vG (ks μ) t) n (hyF (ks μ) t n (nI r) n 0)) < mostR (vG (ks μ) t) (vC (ks μ) t) S n (hyF (ks μ) t n (nI (r + 1)) n 0) := k4
          simp only [x154_27, x154_30, x154_31, x154_32, x154_33, x154_34, x154_37, x154_40, x154_41, x154_42, x154_43, x154_44, x154_45, x154_48, x154_51, x154_53, x154_54, x154_55, x154_56, x154_57, x154_60, x154_61, x154_62, x154_65, x154_66, x154_69, x154_70, x154_72, x154_74, x154_75, x154_78, x154_80, x154_83, x154_85, x154_86, x154_87, x154_88, x154_89, x154_90, x154_91, x154_92, x154_95, x154_98, x154_101, x154_102, x154_105, x154_106, x154_108, x154_109, x154_111, x154_114, x154_115, x154_118, x154_119, x154_120, x154_121, pushO, List.length_cons, List.length_nil, Nat.reduceAdd, Nat.reduceLeDiff, Nat.le_refl, Nat.zero_le, isD_i, isD_r, isD_l, isD_n, if_true, if_false, ite_true, ite_false, reduceIte, hw5, hw6, mdF h, z1, q1, o1, h1, hv, ql, qm, en, k3, k1', e1, k5]
          exact ih (r + 1) _ _ (isD_i _) (isD_i _) (by omega) (by omega)
