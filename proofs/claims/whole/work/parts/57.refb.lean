/-! the reference's rank of a seat -/
theorem sb_neg {x y : Int32} (hx : 0 ≤ x.toInt) (hy : 0 ≤ y.toInt) : (x - y < 0) = (x < y) := by
  rw [Int32.lt_iff_toInt_lt, Int32.lt_iff_toInt_lt, sbv hx hy, Int32.toInt_zero]
  exact propext ⟨fun _ => by omega, fun _ => by omega⟩
theorem l149 {t n i : Nat} {K : Option Value → Hp → Prop} {m : Nat} {μ : ModM} {σ : Hp} (h : modAt m μ σ) (ht : t < 2) (hn : gt (ks μ) t 1 = nI n) (hb : n ≤ 12) (hi : i < n) (hc : ∀ k, k < n → 0 ≤ (vC (ks μ) t k).toInt) (he : ∀ k, k < n → 0 ≤ (vE (ks μ) t k).toInt) : ∀ (d k a : Nat) (w5 w6 w7 : Value), isD w5 = false → isD w6 = false → isD w7 = false → n - k = d → k ≤ n → X 149 5 [.ref m, .int (nI t), .int (nI i), .int (nI a), .int (nI k), w5, w6, w7] [] σ K = K (some (.int (nI (fold (fun a j => if ihN (vG (ks μ) t) (vC (ks μ) t) (vE (ks μ) t) j i = true then a + 1 else a) d k a)))) σ := by
  have q1 := fun K => e113 (K := K) h ht (show 1 < 160 by omega)
  rw [← L1] at q1
  have ci := fun K => e116 (K := K) h ht (show i < 52 by omega)
  have ei := fun K => e117 (K := K) h ht (show i < 51 by omega)
  have gi := fun K => e115 (K := K) h ht (show i < 52 by omega)
  intro d
  induction d with
  | zero =>
    intro k a w5 w6 w7 _ _ _ hd hk
    have h1 : ¬ nI k < nI n := nI_nlt (by omega) (by omega)
    rw [x149_5]
    simp only [x149_7, x149_8, x149_9, x149_10, x149_13, x149_110, x149_111, pushO, List.length_cons, List.length_nil, Nat.reduceAdd, Nat.reduceLeDiff, Nat.le_refl, Nat.zero_le, isD_i, isD_r, isD_l, isD_n, if_true, if_false, ite_true, ite_false, reduceIte, mdF h, q1, hn, h1, fold]
  | succ d ih =>
    intro k a w5 w6 w7 hw5 hw6 hw7 hd hk
    have h1 : nI k < nI n := nI_lt (by omega) (by omega)
    have ck := fun K => e116 (K := K) h ht (show k < 52 by omega)
    have ek := fun K => e117 (K := K) h ht (show k < 51 by omega)
    have gk := fun K => e115 (K := K) h ht (show k < 52 by omega)
    have i1 : ¬ (1 : Int32) = 0 := by decide +kernel
    have a1 : nI a + 1 = nI (a + 1) := by rw [L1, nIa]
    have a0 : nI a + 0 = nI a := by rw [← nI_0, nIa, Nat.add_zero]
    have pc : (0 < gt (ks μ) t (4 + 3 * k) - gt (ks μ) t (4 + 3 * i)) = (vC (ks μ) t i < vC (ks μ) t k) := sb_pos (hc k (by omega)) (hc i hi)
    have zc : (gt (ks μ) t (4 + 3 * k) - gt (ks μ) t (4 + 3 * i) = 0) = (vC (ks μ) t k = vC (ks μ) t i) := sb_zero (hc k (by omega)) (hc i hi)
    have ne : (gt (ks μ) t (5 + 3 * k) - gt (ks μ) t (5 + 3 * i) < 0) = (vE (ks μ) t k < vE (ks μ) t i) := sb_neg (he k (by omega)) (he i hi)
    have ze : (gt (ks μ) t (5 + 3 * k) - gt (ks μ) t (5 + 3 * i) = 0) = (vE (ks μ) t k = vE (ks μ) t i) := sb_zero (he k (by omega)) (he i hi)
    have fg : (gt (ks μ) t (3 + 3 * k) < gt (ks μ) t (3 + 3 * i)) = (vG (ks μ) t k < vG (ks μ) t i) := rfl
    rw [x149_5]
    simp only [x149_7, x149_8, x149_9, x149_10, x149_13, x149_16, x149_17, x149_18, x149_20, x149_23, x149_24, x149_25, x149_26, x149_29, x149_30, x149_32, x149_33, x149_34, x149_36, x149_39, x149_40, x149_41, x149_42, x149_45, x149_46, x149_48, pushO, List.length_cons, List.length_nil, Nat.reduceAdd, Nat.reduceLeDiff, Nat.le_refl, Nat.zero_le, isD_i, isD_r, isD_l, isD_n, if_true, if_false, ite_true, ite_false, reduceIte, hw5, hw6, mdF h, q1, hn, h1, ck, ci, ek, ei]
    unfold fold
    by_cases k1 : vC (ks μ) t k = vC (ks μ) t i
    · have k2 : ¬ vC (ks μ) t i < vC (ks μ) t k := by rw [k1]; exact Int32.lt_irrefl
      by_cases k3 : vE (ks μ) t k = vE (ks μ) t i
      · have k4 : ¬ vE (ks μ) t k < vE (ks μ) t i := by rw [k3]; exact Int32.lt_irrefl
        by_cases k5 : vG (ks μ) t k < vG (ks μ) t i
        · have hh : ihN (vG (ks μ) t) (vC (ks μ) t) (vE (ks μ) t) k i = true := by unfold ihN; rw [if_pos k1, if_pos k3]; exact decide_eq_true k5
          rw [hh, if_pos rfl]
          simp only [x149_50, x149_53, x149_55, x149_58, x149_60, x149_63, x149_65, x149_68, x149_69, x149_70, x149_72, x149_75, x149_76, x149_77, x149_78, x149_81, x149_84, x149_85, x149_88, x149_89, x149_91, x149_92, x149_94, x149_97, x149_98, x149_101, x149_102, x149_103, x149_104, x149_107, pushO, List.length_cons, List.length_nil, Nat.reduceAdd, Nat.reduceLeDiff, Nat.le_refl, Nat.zero_le, isD_i, isD_r, isD_l, isD_n, if_true, if_false, ite_true, ite_false, reduceIte, Int32.lt_irrefl, hw7, mdF h, pc, zc, ne, ze, k2, k1, k4, k3, gk, gi, fg, k5, i1, a1, ← nI_succ]
          exact ih (k + 1) (a + 1) _ _ _ (isD_i _) (isD_i _) (isD_i _) (by omega) (by omega)
        · have hh : ihN (vG (ks μ) t) (vC (ks μ) t) (vE (ks μ) t) k i = false := by unfold ihN; rw [if_pos k1, if_pos k3]; exact decide_eq_false k5
          rw [hh, if_neg Bool.false_ne_true]
          simp only [x149_50, x149_53, x149_55, x149_58, x149_60, x149_63, x149_65, x149_68, x149_69, x149_70, x149_72, x149_75, x149_76, x149_77, x149_78, x149_81, x149_84, x149_85, x149_88, x149_89, x149_91, x149_92, x149_94, x149_97, x149_98, x149_101, x149_102, x149_103, x149_104, x149_107, pushO, List.length_cons, List.length_nil, Nat.reduceAdd, Nat.reduceLeDiff, Nat.le_refl, Nat.zero_le, isD_i, isD_r, isD_l, isD_n, if_true, if_false, ite_true, ite_false, reduceIte, Int32.lt_irrefl, hw7, mdF h, pc, zc, ne, ze, k2, k1, k4, k3, gk, gi, fg, k5, a0, ← nI_succ]
          exact ih (k + 1) a _ _ _ (isD_i _) (isD_i _) (isD_i _) (by omega) (by omega)
      · by_cases k4 : vE (ks μ) t k < vE (ks μ) t i
        · have hh : ihN (vG (ks μ) t) (vC (ks μ) t) (vE (ks μ) t) k i = true := by unfold ihN; rw [if_pos k1, if_neg k3]; exact decide_eq_true k4
          rw [hh, if_pos rfl]
          simp only [x149_50, x149_53, x149_55, x149_58, x149_60, x149_63, x149_65, x149_68, x149_69, x149_70, x149_72, x149_75, x149_76, x149_77, x149_78, x149_81, x149_84, x149_85, x149_88, x149_89, x149_91, x149_92, x149_94, x149_97, x149_98, x149_101, x149_102, x149_103, x149_104, x149_107, pushO, List.length_cons, List.length_nil, Nat.reduceAdd, Nat.reduceLeDiff, Nat.le_refl, Nat.zero_le, isD_i, isD_r, isD_l, isD_n, if_true, if_false, ite_true, ite_false, reduceIte, Int32.lt_irrefl, hw7, mdF h, pc, zc, ne, ze, k2, k1, k4, i1, a1, ← nI_succ]
          exact ih (k + 1) (a + 1) _ _ _ (isD_i _) (isD_i _) (isD_i _) (by omega) (by omega)
        · have hh : ihN (vG (ks μ) t) (vC (ks μ) t) (vE (ks μ) t) k i = false := by unfold ihN; rw [if_pos k1, if_neg k3]; exact decide_eq_false k4
          rw [hh, if_neg Bool.false_ne_true]
          simp only [x149_50, x149_53, x149_55, x149_58, x149_60, x149_63, x149_65, x149_68, x149_69, x149_70, x149_72, x149_75, x149_76, x149_77, x149_78, x149_81, x149_84, x149_85, x149_88, x149_89, x149_91, x149_92, x149_94, x149_97, x149_98, x149_101, x149_102, x149_103, x149_104, x149_107, pushO, List.length_cons, List.length_nil, Nat.reduceAdd, Nat.reduceLeDiff, Nat.le_refl, Nat.zero_le, isD_i, isD_r, isD_l, isD_n, if_true, if_false, ite_true, ite_false, reduceIte, Int32.lt_irrefl, hw7, mdF h, pc, zc, ne, ze, k2, k1, k4, k3, a0, ← nI_succ]
          exact ih (k + 1) a _ _ _ (isD_i _) (isD_i _) (isD_i _) (by omega) (by omega)
    · by_cases k2 : vC (ks μ) t i < vC (ks μ) t k
      · have hh : ihN (vG (ks μ) t) (vC (ks μ) t) (vE (ks μ) t) k i = true := by unfold ihN; rw [if_neg k1]; exact decide_eq_true k2
        rw [hh, if_pos rfl]
        simp only [x149_50, x149_53, x149_55, x149_58, x149_60, x149_63, x149_65, x149_68, x149_69, x149_70, x149_72, x149_75, x149_76, x149_77, x149_78, x149_81, x149_84, x149_85, x149_88, x149_89, x149_91, x149_92, x149_94, x149_97, x149_98, x149_101, x149_102, x149_103, x149_104, x149_107, pushO, List.length_cons, List.length_nil, Nat.reduceAdd, Nat.reduceLeDiff, Nat.le_refl, Nat.zero_le, isD_i, isD_r, isD_l, isD_n, if_true, if_false, ite_true, ite_false, reduceIte, Int32.lt_irrefl, hw7, mdF h, pc, zc, k2, i1, a1, ← nI_succ]
        exact ih (k + 1) (a + 1) _ _ _ (isD_i _) (isD_i _) (isD_i _) (by omega) (by omega)
      · have hh : ihN (vG (ks μ) t) (vC (ks μ) t) (vE (ks μ) t) k i = false := by unfold ihN; rw [if_neg k1]; exact decide_eq_false k2
        rw [hh, if_neg Bool.false_ne_true]
        simp only [x149_50, x149_53, x149_55, x149_58, x149_60, x149_63, x149_65, x149_68, x149_69, x149_70, x149_72, x149_75, x149_76, x149_77, x149_78, x149_81, x149_84, x149_85, x149_88, x149_89, x149_91, x149_92, x149_94, x149_97, x149_98, x149_101, x149_102, x149_103, x149_104, x149_107, pushO, List.length_cons, List.length_nil, Nat.reduceAdd, Nat.reduceLeDiff, Nat.le_refl, Nat.zero_le, isD_i, isD_r, isD_l, isD_n, if_true, if_false, ite_true, ite_false, reduceIte, Int32.lt_irrefl, hw7, mdF h, pc, zc, k2, k1, a0, ← nI_succ]
        exact ih (k + 1) a _ _ _ (isD_i _) (isD_i _) (isD_i _) (by omega) (by omega)
