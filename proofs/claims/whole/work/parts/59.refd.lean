/-! the reference's truly -/
def trN (g c : Nat → Int32) (k i : Nat) : Bool := if c k = c i then decide (g k < g i) else decide (c i < c k)
theorem l152 {t n i : Nat} {K : Option Value → Hp → Prop} {m : Nat} {μ : ModM} {σ : Hp} (h : modAt m μ σ) (ht : t < 2) (hn : gt (ks μ) t 39 = nI n) (hb : n ≤ 60) (hi : i < n) (hc : ∀ k, k < n → 0 ≤ (vD (ks μ) t k).toInt) : ∀ (d k a : Nat) (w5 : Value), isD w5 = false → n - k = d → k ≤ n → X 152 5 [.ref m, .int (nI t), .int (nI i), .int (nI a), .int (nI k), w5] [] σ K = K (some (.int (nI (fold (fun a j => if trN (vH (ks μ) t) (vD (ks μ) t) j i = true then a + 1 else a) d k a)))) σ := by
  have q1 := fun K => e113 (K := K) h ht (show 39 < 160 by omega)
  rw [← L39] at q1
  have ci := fun K => e113 (K := K) h ht (show 41 + 2 * i < 160 by omega)
  have gi := fun K => e113 (K := K) h ht (show 40 + 2 * i < 160 by omega)
  intro d
  induction d with
  | zero =>
    intro k a w5 _ hd hk
    have h1 : ¬ nI k < nI n := nI_nlt (by omega) (by omega)
    rw [x152_5]
    simp only [x152_7, x152_8, x152_9, x152_11, x152_14, x152_97, x152_98, pushO, List.length_cons, List.length_nil, Nat.reduceAdd, Nat.reduceLeDiff, Nat.le_refl, Nat.zero_le, isD_i, isD_r, isD_l, isD_n, if_true, if_false, ite_true, ite_false, reduceIte, mdF h, q1, hn, h1, fold]
  | succ d ih =>
    intro k a w5 hw5 hd hk
    have h1 : nI k < nI n := nI_lt (by omega) (by omega)
    have ck := fun K => e113 (K := K) h ht (show 41 + 2 * k < 160 by omega)
    have gk := fun K => e113 (K := K) h ht (show 40 + 2 * k < 160 by omega)
    have a1 : nI a + 1 = nI (a + 1) := by rw [L1, nIa]
    have k1' : nI k + 1 = nI (k + 1) := by rw [L1, nIa]
    have a0 : nI a + 0 = nI a := by rw [← nI_0, nIa, Nat.add_zero]
    have pc : (0 < gt (ks μ) t (41 + 2 * k) - gt (ks μ) t (41 + 2 * i)) = (vD (ks μ) t i < vD (ks μ) t k) := sb_pos (hc k (by omega)) (hc i hi)
    have zc : (gt (ks μ) t (41 + 2 * k) - gt (ks μ) t (41 + 2 * i) = 0) = (vD (ks μ) t k = vD (ks μ) t i) := sb_zero (hc k (by omega)) (hc i hi)
    have fg : (gt (ks μ) t (40 + 2 * k) < gt (ks μ) t (40 + 2 * i)) = (vH (ks μ) t k < vH (ks μ) t i) := rfl
    rw [x152_5]
    simp only [x152_7, x152_8, x152_9, x152_11, x152_14, x152_17, x152_18, x152_19, x152_21, x152_22, x152_24, x152_25, x152_26, x152_27, x152_28, x152_31, x152_32, x152_33, x152_35, x152_36, x152_37, x152_38, x152_39, x152_40, x152_41, x152_44, x152_45, x152_47, x152_48, pushO, List.length_cons, List.length_nil, Nat.reduceAdd, Nat.reduceLeDiff, Nat.le_refl, Nat.zero_le, isD_i, isD_r, isD_l, isD_n, if_true, if_false, ite_true, ite_false, reduceIte, hw5, mdF h, q1, hn, h1, ix40, ix41, ck, ci]
    unfold fold
    by_cases k1 : vD (ks μ) t k = vD (ks μ) t i
    · have k2 : ¬ vD (ks μ) t i < vD (ks μ) t k := by rw [k1]; exact Int32.lt_irrefl
      by_cases k5 : vH (ks μ) t k < vH (ks μ) t i
      · have hh : trN (vH (ks μ) t) (vD (ks μ) t) k i = true := by unfold trN; rw [if_pos k1]; exact decide_eq_true k5
        rw [hh, if_pos rfl]
        simp only [x152_50, x152_53, x152_55, x152_58, x152_59, x152_60, x152_62, x152_63, x152_65, x152_66, x152_67, x152_70, x152_71, x152_72, x152_74, x152_75, x152_76, x152_77, x152_78, x152_81, x152_84, x152_85, x152_88, x152_89, x152_90, x152_91, x152_94, pushO, List.length_cons, List.length_nil, Nat.reduceAdd, Nat.reduceLeDiff, Nat.le_refl, Nat.zero_le, isD_i, isD_r, isD_l, isD_n, if_true, if_false, ite_true, ite_false, reduceIte, Int32.lt_irrefl, mdF h, pc, zc, k2, k1, ix40, gk, gi, fg, k5, a1, k1']
        exact ih (k + 1) (a + 1) _ (isD_i _) (by omega) (by omega)
      · have hh : trN (vH (ks μ) t) (vD (ks μ) t) k i = false := by unfold trN; rw [if_pos k1]; exact decide_eq_false k5
        rw [hh, if_neg Bool.false_ne_true]
        simp only [x152_50, x152_53, x152_55, x152_58, x152_59, x152_60, x152_62, x152_63, x152_65, x152_66, x152_67, x152_70, x152_71, x152_72, x152_74, x152_75, x152_76, x152_77, x152_78, x152_81, x152_84, x152_85, x152_88, x152_89, x152_90, x152_91, x152_94, pushO, List.length_cons, List.length_nil, Nat.reduceAdd, Nat.reduceLeDiff, Nat.le_refl, Nat.zero_le, isD_i, isD_r, isD_l, isD_n, if_true, if_false, ite_true, ite_false, reduceIte, Int32.lt_irrefl, mdF h, pc, zc, k2, k1, ix40, gk, gi, fg, k5, a0, k1']
        exact ih (k + 1) a _ (isD_i _) (by omega) (by omega)
    · by_cases k2 : vD (ks μ) t i < vD (ks μ) t k
      · have hh : trN (vH (ks μ) t) (vD (ks μ) t) k i = true := by unfold trN; rw [if_neg k1]; exact decide_eq_true k2
        rw [hh, if_pos rfl]
        simp only [x152_50, x152_53, x152_55, x152_58, x152_59, x152_60, x152_62, x152_63, x152_65, x152_66, x152_67, x152_70, x152_71, x152_72, x152_74, x152_75, x152_76, x152_77, x152_78, x152_81, x152_84, x152_85, x152_88, x152_89, x152_90, x152_91, x152_94, pushO, List.length_cons, List.length_nil, Nat.reduceAdd, Nat.reduceLeDiff, Nat.le_refl, Nat.zero_le, isD_i, isD_r, isD_l, isD_n, if_true, if_false, ite_true, ite_false, reduceIte, mdF h, pc, zc, k2, a1, k1']
        exact ih (k + 1) (a + 1) _ (isD_i _) (by omega) (by omega)
      · have hh : trN (vH (ks μ) t) (vD (ks μ) t) k i = false := by unfold trN; rw [if_neg k1]; exact decide_eq_false k2
        rw [hh, if_neg Bool.false_ne_true]
        simp only [x152_50, x152_53, x152_55, x152_58, x152_59, x152_60, x152_62, x152_63, x152_65, x152_66, x152_67, x152_70, x152_71, x152_72, x152_74, x152_75, x152_76, x152_77, x152_78, x152_81, x152_84, x152_85, x152_88, x152_89, x152_90, x152_91, x152_94, pushO, List.length_cons, List.length_nil, Nat.reduceAdd, Nat.reduceLeDiff, Nat.le_refl, Nat.zero_le, isD_i, isD_r, isD_l, isD_n, if_true, if_false, ite_true, ite_false, reduceIte, mdF h, pc, zc, k2, k1, a0, k1']
        exact ih (k + 1) a _ (isD_i _) (by omega) (by omega)
def trR (s : Nat → Int32) (t n i : Nat) : Nat := fold (fun a j => if trN (vH s t) (vD s t) j i = true then a + 1 else a) n 0 0
theorem e152 {t n i : Nat} {K : Option Value → Hp → Prop} {m : Nat} {μ : ModM} {σ : Hp} (h : modAt m μ σ) (ht : t < 2) (hn : gt (ks μ) t 39 = nI n) (hb : n ≤ 60) (hi : i < n) (hc : ∀ k, k < n → 0 ≤ (vD (ks μ) t k).toInt) : X 152 0 [.ref m, .int (nI t), .int (nI i), .null, .null, .null] [] σ K = K (some (.int (nI (trR (ks μ) t n i)))) σ := by
  have q := l152 (K := K) h ht hn hb hi hc n 0 0 .null isD_n rfl (by omega)
  rw [nI_0] at q
  simp only [x152_0, x152_1, x152_2, x152_3, pushO, List.length_cons, List.length_nil, Nat.reduceAdd, Nat.reduceLeDiff, Nat.le_refl, Nat.zero_le, isD_i, isD_r, isD_l, isD_n, if_true, if_false, ite_true, ite_false, reduceIte, q, trR]
def tyF (s : Nat → Int32) (t n : Nat) (y : Int32) : Nat → Nat → Int32
  | 0, _ => -1
  | d + 1, k => if nI (trR s t n k) = y then vH s t k else tyF s t n y d (k + 1)
theorem l153 {t n : Nat} {y : Int32} {K : Option Value → Hp → Prop} {m : Nat} {μ : ModM} {σ : Hp} (h : modAt m μ σ) (ht : t < 2) (hn : gt (ks μ) t 39 = nI n) (hb : n ≤ 60) (hc : ∀ k, k < n → 0 ≤ (vD (ks μ) t k).toInt) : ∀ (d k : Nat), n - k = d → k ≤ n → X 153 16 [.ref m, .int (nI t), .int y, .int (nI k)] [] σ K = K (some (.int (tyF (ks μ) t n y d k))) σ := by
  have q1 := fun K => e113 (K := K) h ht (show 39 < 160 by omega)
  rw [← L39] at q1
  intro d
  induction d with
  | zero =>
    intro k hd hk
    have h1 : ¬ nI k < nI n := nI_nlt (by omega) (by omega)
    rw [x153_16]
    simp only [x153_17, x153_18, x153_19, x153_21, x153_24, x153_27, x153_28, x153_29, x153_30, x153_33, x153_34, x153_37, x153_38, x153_39, x153_41, x153_42, x153_43, x153_44, x153_45, x153_48, x153_49, x153_52, x153_55, x153_56, pushO, List.length_cons, List.length_nil, Nat.reduceAdd, Nat.reduceLeDiff, Nat.le_refl, Nat.zero_le, isD_i, isD_r, isD_l, isD_n, if_true, if_false, ite_true, ite_false, reduceIte, mdF h, q1, hn, h1, tyF]
  | succ d ih =>
    intro k hd hk
    have h1 : nI k < nI n := nI_lt (by omega) (by omega)
    have r := fun K => e152 (K := K) h ht hn hb (show k < n by omega) hc
    have g := fun K => e113 (K := K) h ht (show 40 + 2 * k < 160 by omega)
    rw [x153_16]
    unfold tyF
    by_cases h2 : nI (trR (ks μ) t n k) = y
    · rw [if_pos h2]
      simp only [x153_17, x153_18, x153_19, x153_21, x153_24, x153_27, x153_28, x153_29, x153_30, x153_33, x153_34, x153_37, x153_38, x153_39, x153_41, x153_42, x153_43, x153_44, x153_45, x153_48, x153_49, x153_52, x153_55, x153_56, pushO, List.length_cons, List.length_nil, Nat.reduceAdd, Nat.reduceLeDiff, Nat.le_refl, Nat.zero_le, isD_i, isD_r, isD_l, isD_n, if_true, if_false, ite_true, ite_false, reduceIte, mdF h, q1, hn, h1, r, h2, ix40, g, vH]
    · rw [if_neg h2]
      simp only [x153_17, x153_18, x153_19, x153_21, x153_24, x153_27, x153_28, x153_29, x153_30, x153_33, x153_34, x153_37, x153_38, x153_39, x153_41, x153_42, x153_43, x153_44, x153_45, x153_48, x153_49, x153_52, x153_55, x153_56, pushO, List.length_cons, List.length_nil, Nat.reduceAdd, Nat.reduceLeDiff, Nat.le_refl, Nat.zero_le, isD_i, isD_r, isD_l, isD_n, if_true, if_false, ite_true, ite_false, reduceIte, mdF h, q1, hn, h1, r, h2, ← nI_succ]
      exact ih (k + 1) (by omega) (by omega)
theorem d153a {s y : Int32} {K : Option Value → Hp → Prop} {m : Nat} {μ : ModM} {σ : Hp} (h : modAt m μ σ) (hs : isSt s = false) : X 153 0 [.ref m, .int s, .int y, .null] [] σ K = K (some (.int (-1))) σ := by
  simp only [x153_0, x153_1, x153_2, x153_5, x153_6, x153_9, x153_12, x153_13, pushO, List.length_cons, List.length_nil, Nat.reduceAdd, Nat.reduceLeDiff, Nat.le_refl, Nat.zero_le, isD_i, isD_r, isD_l, isD_n, if_true, if_false, ite_true, ite_false, reduceIte, mdF h, mdP0s h, e111, hs, bI_f]
theorem d153b {t n : Nat} {y : Int32} {K : Option Value → Hp → Prop} {m : Nat} {μ : ModM} {σ : Hp} (h : modAt m μ σ) (ht : t < 2) (hn : gt (ks μ) t 39 = nI n) (hb : n ≤ 60) (hc : ∀ k, k < n → 0 ≤ (vD (ks μ) t k).toInt) : X 153 0 [.ref m, .int (nI t), .int y, .null] [] σ K = K (some (.int (tyF (ks μ) t n y n 0))) σ := by
  have hs : isSt (nI t) = true := by
    have : t = 0 ∨ t = 1 := by omega
    rcases this with rfl | rfl <;> decide +kernel
  have q := fun K => l153 (y := y) (K := K) h ht hn hb hc n 0 rfl (by omega)
  simp only [nI_0] at q
  simp only [x153_0, x153_1, x153_2, x153_5, x153_6, x153_9, x153_12, x153_13, x153_14, x153_15, pushO, List.length_cons, List.length_nil, Nat.reduceAdd, Nat.reduceLeDiff, Nat.le_refl, Nat.zero_le, isD_i, isD_r, isD_l, isD_n, if_true, if_false, ite_true, ite_false, reduceIte, mdF h, mdP0s h, e111, hs, bI_t, i1_ne, q]
