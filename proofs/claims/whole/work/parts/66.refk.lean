/-! the reference's joining: its refusal, a guest joined, how many are ahead -/
theorem f113 {x t k : Nat} {i j : Int32} {μ : ModM} {σ : Hp} {K : Option Value → Hp → Prop} (h : modAt x μ σ) (ht : t < 2) (hk : k < 160) (hi : i = nI t) (hj : j = nI k) : X 113 0 [.ref x, .int i, .int j] [] σ K = K (some (.int (gt (ks μ) t k))) σ := by
  subst hi hj
  exact e113 h ht hk
theorem l136 {N0 N1 : Nat} {K : Option Value → Hp → Prop} {m : Nat} {μ : ModM} {σ : Hp} (h : modAt m μ σ) (h0 : gt (ks μ) 0 39 = nI N0) (b0 : N0 ≤ 60) (h1 : gt (ks μ) 1 39 = nI N1) (b1 : N1 ≤ 60) : ∀ (d k a : Nat), N1 - k = d → k ≤ N1 → X 136 10 [.ref m, .int (nI a), .int (nI k)] [] σ K = X 136 56 [.ref m, .int (nI (fold (fun a k => if seatOfR (vH (ks μ) 0) N0 (vH (ks μ) 1 k) = -6 then a + 1 else a) d k a)), .int (nI N1)] [] σ K := by
  have q1 := fun K => f113 (K := K) (i := 1) (j := 39) h (show 1 < 2 by omega) (show 39 < 160 by omega) L1 L39
  intro d
  induction d with
  | zero =>
    intro k a hd hk
    have ek : k = N1 := by omega
    subst ek
    have n1 : ¬ nI k < nI k := nI_nlt (by omega) (by omega)
    rw [x136_10]
    simp only [x136_11, x136_12, x136_13, x136_15, x136_18, pushO, List.length_cons, List.length_nil, Nat.reduceAdd, Nat.reduceLeDiff, Nat.le_refl, Nat.zero_le, isD_i, isD_r, isD_l, isD_n, if_true, if_false, ite_true, ite_false, reduceIte, mdF h, q1, h1, n1, fold]
  | succ d ih =>
    intro k a hd hk
    have n1 : nI k < nI N1 := nI_lt (by omega) (by omega)
    have a1 : nI a + 1 = nI (a + 1) := by rw [L1, nIa]
    have a0 : nI a + 0 = nI a := by rw [← nI_0, nIa, Nat.add_zero]
    have c1 := fun K => f113 (K := K) (i := 1) (j := nI (40 + 2 * k)) h (show 1 < 2 by omega) (show 40 + 2 * k < 160 by omega) L1 rfl
    have q2 := fun y K => e126 (y := y) (K := K) h (show 0 < 2 by omega) h0 b0
    simp only [nI_0] at q2
    rw [x136_10]
    unfold fold
    by_cases h3 : seatOfR (vH (ks μ) 0) N0 (vH (ks μ) 1 k) = -6
    · have h4 : seatOfR (vH (ks μ) 0) N0 (gt (ks μ) 1 (40 + 2 * k)) = -6 := h3
      rw [if_pos h3]
      simp only [x136_11, x136_12, x136_13, x136_15, x136_18, x136_21, x136_22, x136_23, x136_24, x136_25, x136_26, x136_28, x136_29, x136_30, x136_31, x136_32, x136_35, x136_38, x136_40, x136_43, x136_44, x136_47, x136_48, x136_49, x136_50, x136_53, pushO, List.length_cons, List.length_nil, Nat.reduceAdd, Nat.reduceLeDiff, Nat.le_refl, Nat.zero_le, isD_i, isD_r, isD_l, isD_n, if_true, if_false, ite_true, ite_false, reduceIte, mdF h, q1, h1, n1, ix40, c1, q2, h4, a1, ← nI_succ]
      exact ih (k + 1) (a + 1) (by omega) (by omega)
    · have h4 : ¬ seatOfR (vH (ks μ) 0) N0 (gt (ks μ) 1 (40 + 2 * k)) = -6 := h3
      rw [if_neg h3]
      simp only [x136_11, x136_12, x136_13, x136_15, x136_18, x136_21, x136_22, x136_23, x136_24, x136_25, x136_26, x136_28, x136_29, x136_30, x136_31, x136_32, x136_35, x136_38, x136_40, x136_43, x136_44, x136_47, x136_48, x136_49, x136_50, x136_53, pushO, List.length_cons, List.length_nil, Nat.reduceAdd, Nat.reduceLeDiff, Nat.le_refl, Nat.zero_le, isD_i, isD_r, isD_l, isD_n, if_true, if_false, ite_true, ite_false, reduceIte, mdF h, q1, h1, n1, ix40, c1, q2, h4, a0, ← nI_succ]
      exact ih (k + 1) a (by omega) (by omega)
theorem e136 {K : Option Value → Hp → Prop} {m : Nat} {μ : ModM} {σ : Hp} (h : modAt m μ σ) {n N : Nat → Nat} {S : Nat} (hv : ∀ t, t < 2 → rvOK (ks μ) t (n t) (N t) S) : X 136 0 [.ref m, .null, .null] [] σ K = K (some (.int (errJ (vB (ks μ) n N S)))) σ := by
  obtain ⟨o1, o2, o3, o4, o5, o6, o7, o8⟩ := hv 0 (by omega)
  obtain ⟨p1, p2, p3, p4, p5, p6, p7, p8⟩ := hv 1 (by omega)
  have q0 := fun K => f113 (K := K) (i := 0) (j := 39) h (show 0 < 2 by omega) (show 39 < 160 by omega) nI_0.symm L39
  have l := l136 (K := K) h o6 o7 p6 p7 (N 1) 0 (N 0) (by omega) (by omega)
  rw [nI_0] at l
  have z0 := fun K => f113 (K := K) (i := 0) (j := 0) h (show 0 < 2 by omega) (show 0 < 160 by omega) nI_0.symm nI_0.symm
  have z1 := fun K => f113 (K := K) (i := 1) (j := 0) h (show 1 < 2 by omega) (show 0 < 160 by omega) L1 nI_0.symm
  simp only [x136_0, x136_1, x136_2, x136_4, x136_7, x136_8, x136_9, pushO, List.length_cons, List.length_nil, Nat.reduceAdd, Nat.reduceLeDiff, Nat.le_refl, Nat.zero_le, isD_i, isD_r, isD_l, isD_n, if_true, if_false, ite_true, ite_false, reduceIte, mdF h, q0, o6]
  rw [l]
  unfold errJ
  show _ = K (some (.int (if 99999 < gt (ks μ) 0 0 + gt (ks μ) 1 0 then -4 else if 60 < nI (fold (fun a k => if seatOfR (vH (ks μ) 0) (N 0) (vH (ks μ) 1 k) = -6 then a + 1 else a) (N 1) 0 (N 0)) then -4 else 0))) σ
  by_cases k1 : 60 < nI (fold (fun a k => if seatOfR (vH (ks μ) 0) (N 0) (vH (ks μ) 1 k) = -6 then a + 1 else a) (N 1) 0 (N 0))
  · by_cases k2 : 99999 < gt (ks μ) 0 0 + gt (ks μ) 1 0
    · simp only [x136_56, x136_57, x136_59, x136_62, x136_63, x136_64, x136_65, x136_68, x136_69, x136_70, x136_71, x136_74, x136_75, x136_77, x136_80, x136_82, x136_85, x136_86, pushO, List.length_cons, List.length_nil, Nat.reduceAdd, Nat.reduceLeDiff, Nat.le_refl, Nat.zero_le, isD_i, isD_r, isD_l, isD_n, if_true, if_false, ite_true, ite_false, reduceIte, mdF h, k1, k2, z0, z1]
    · simp only [x136_56, x136_57, x136_59, x136_62, x136_63, x136_64, x136_65, x136_68, x136_69, x136_70, x136_71, x136_74, x136_75, x136_77, x136_80, x136_82, x136_85, x136_86, pushO, List.length_cons, List.length_nil, Nat.reduceAdd, Nat.reduceLeDiff, Nat.le_refl, Nat.zero_le, isD_i, isD_r, isD_l, isD_n, if_true, if_false, ite_true, ite_false, reduceIte, mdF h, k1, k2, z0, z1]
  · by_cases k2 : 99999 < gt (ks μ) 0 0 + gt (ks μ) 1 0
    · simp only [x136_56, x136_57, x136_59, x136_62, x136_63, x136_64, x136_65, x136_68, x136_69, x136_70, x136_71, x136_74, x136_75, x136_77, x136_80, x136_82, x136_85, x136_86, pushO, List.length_cons, List.length_nil, Nat.reduceAdd, Nat.reduceLeDiff, Nat.le_refl, Nat.zero_le, isD_i, isD_r, isD_l, isD_n, if_true, if_false, ite_true, ite_false, reduceIte, mdF h, k1, k2, z0, z1]
    · simp only [x136_56, x136_57, x136_59, x136_62, x136_63, x136_64, x136_65, x136_68, x136_69, x136_70, x136_71, x136_74, x136_75, x136_77, x136_80, x136_82, x136_85, x136_86, pushO, List.length_cons, List.length_nil, Nat.reduceAdd, Nat.reduceLeDiff, Nat.le_refl, Nat.zero_le, isD_i, isD_r, isD_l, isD_n, if_true, if_false, ite_true, ite_false, reduceIte, mdF h, k1, k2, z0, z1]
/-- the reference under a joining: the row of those that are joined, how many -/
def wJ (μ : ModM) (j : Nat → Int32) (c : Nat) : ModM := wjn (wj μ j) c
theorem ks_wJ {μ : ModM} {j : Nat → Int32} {c : Nat} : ks (wJ μ j c) = ks μ := rfl
theorem kj_wJ {μ : ModM} {j : Nat → Int32} {c : Nat} : kj (wJ μ j c) = j := rfl
theorem kjn_wJ {μ : ModM} {j : Nat → Int32} {c : Nat} : kjn (wJ μ j c) = c := rfl
theorem j_set {m i c : Nat} {v : Int32} {μ : ModM} {σ : Hp} {j : Nat → Int32} (hi : i < 2 ^ 31) : pA (modPut m (wJ μ j c) σ) (m + 6) (nI i) v = modPut m (wJ μ (upd j i v) c) σ := by
  rw [mdA6 modAP, modPP, nI_clamp hi]
  rfl
theorem jn_set {m c c2 : Nat} {μ : ModM} {σ : Hp} {j : Nat → Int32} : pF (modPut m (wJ μ j c) σ) m 9 (.int (nI c2)) = modPut m (wJ μ j c2) σ := by
  rw [mdP9 modAP, modPP]
  rfl
def jgF (j : Nat → Int32) (c : Nat) (y C E : Int32) : Nat → Int32 := upd (upd (upd j (3 * c) y) (3 * c + 1) C) (3 * c + 2) E
def jgC (V : StaM) (y : Int32) : Int32 := mosR (sR (aZ V)) y + mosR (sR (aO V)) y
def jgE (V : StaM) (y : Int32) : Int32 := jgC V y - lesR (sR (aZ V)) y - lesR (sR (aO V)) y
theorem g137 {m c : Nat} {y : Int32} {μ : ModM} {σ : Hp} {j : Nat → Int32} {K : Option Value → Hp → Prop} {n N : Nat → Nat} {S : Nat} (hv : ∀ t, t < 2 → rvOK (ks μ) t (n t) (N t) S) (hc : c < 24) : X 137 0 [.ref m, .int y, .null] [] (modPut m (wJ μ j c) σ) K = K none (modPut m (wJ μ (jgF j c y (jgC (vB (ks μ) n N S) y) (jgE (vB (ks μ) n N S) y)) (c + 1)) σ) := by
  have f := fun j => mdF (modAP (r := m) (ρ := wJ μ j c) (σ := σ))
  have m0 := fun j K => e124 (y := y) (K := K) (modAP (r := m) (ρ := wJ μ j c) (σ := σ)) (show 0 < 2 by omega) (hv 0 (by omega))
  have m1 := fun j K => e124 (y := y) (K := K) (modAP (r := m) (ρ := wJ μ j c) (σ := σ)) (show 1 < 2 by omega) (hv 1 (by omega))
  have s0 := fun j K => e125 (y := y) (K := K) (modAP (r := m) (ρ := wJ μ j c) (σ := σ)) (show 0 < 2 by omega) (hv 0 (by omega))
  have s1 := fun j K => e125 (y := y) (K := K) (modAP (r := m) (ρ := wJ μ j c) (σ := σ)) (show 1 < 2 by omega) (hv 1 (by omega))
  rw [nI_0] at m0 s0
  rw [← L1] at m1 s1
  simp only [ks_wJ] at m0 m1 s0 s1
  simp only [kj_wJ, kjn_wJ] at f
  have i0 : 3 * nI c = nI (3 * c) := by rw [L3, nIm]
  have i1 : nI (3 * c) + 1 = nI (3 * c + 1) := by rw [L1, nIa]
  have i2 : nI (3 * c) + 2 = nI (3 * c + 2) := by rw [L2, nIa]
  have b0 : inB (nI (3 * c)) 72 = true := inB_nI (by omega) (by omega)
  have b1 : inB (nI (3 * c + 1)) 72 = true := inB_nI (by omega) (by omega)
  have b2 : inB (nI (3 * c + 2)) 72 = true := inB_nI (by omega) (by omega)
  have e2 : nI c + 1 = nI (c + 1) := by rw [L1, nIa]
  simp only [x137_0, x137_1, x137_2, x137_3, x137_6, x137_7, x137_8, x137_9, x137_12, x137_13, x137_14, x137_15, x137_18, x137_19, x137_20, x137_23, x137_24, x137_25, x137_26, x137_27, x137_30, x137_31, x137_32, x137_35, x137_36, x137_37, x137_38, x137_39, x137_40, x137_41, x137_44, x137_45, x137_46, x137_49, x137_50, x137_51, x137_52, x137_53, x137_54, x137_55, x137_56, x137_59, x137_60, x137_61, x137_62, x137_63, x137_66, x137_67, x137_68, x137_69, x137_69i, x137_70, x137_73, x137_74, x137_75, x137_78, pushO, List.length_cons, List.length_nil, Nat.reduceAdd, Nat.reduceLeDiff, Nat.le_refl, Nat.zero_le, isD_i, isD_r, isD_l, isD_n, if_true, if_false, ite_true, ite_false, reduceIte, f, m0, m1, s0, s1, i0, i1, i2, b0, b1, b2, e2, j_set (show 3 * c < 2 ^ 31 by omega), j_set (show 3 * c + 1 < 2 ^ 31 by omega), j_set (show 3 * c + 2 < 2 ^ 31 by omega), jn_set]
  rfl
/-- those that are joined, as rows of their own -/
def jG (j : Nat → Int32) : Nat → Int32 := fun k => j (3 * k)
def jC (j : Nat → Int32) : Nat → Int32 := fun k => j (3 * k + 1)
def jE (j : Nat → Int32) : Nat → Int32 := fun k => j (3 * k + 2)
theorem l138 {c i : Nat} {j : Nat → Int32} {K : Option Value → Hp → Prop} {m : Nat} {μ : ModM} {σ : Hp} (h : modAt m μ σ) (hj : kj μ = j) (hc : kjn μ = c) (hb : c ≤ 24) (hi : i < c) (pc : ∀ k, k < c → 0 ≤ (jC j k).toInt) (pe : ∀ k, k < c → 0 ≤ (jE j k).toInt) : ∀ (d k a : Nat) (w4 w5 : Value), isD w4 = false → isD w5 = false → c - k = d → k ≤ c → X 138 4 [.ref m, .int (nI i), .int (nI a), .int (nI k), w4, w5] [] σ K = K (some (.int (nI (fold (fun a k => if ihN (jG j) (jC j) (jE j) k i = true then a + 1 else a) d k a)))) σ := by
  subst hj hc
  have f := mdF h
  have ix0 : ∀ k, 3 * nI k = nI (3 * k) := fun k => by rw [L3, nIm]
  have ix1 : ∀ k, nI (3 * k) + 1 = nI (3 * k + 1) := fun k => by rw [L1, nIa]
  have ix2 : ∀ k, nI (3 * k) + 2 = nI (3 * k + 2) := fun k => by rw [L2, nIa]
  have bi0 : inB (nI (3 * i)) 72 = true := inB_nI (by omega) (by omega)
  have bi1 : inB (nI (3 * i + 1)) 72 = true := inB_nI (by omega) (by omega)
  have bi2 : inB (nI (3 * i + 2)) 72 = true := inB_nI (by omega) (by omega)
  have ci0 : (nI (3 * i)).toNatClampNeg = 3 * i := nI_clamp (by omega)
  have ci1 : (nI (3 * i + 1)).toNatClampNeg = 3 * i + 1 := nI_clamp (by omega)
  have ci2 : (nI (3 * i + 2)).toNatClampNeg = 3 * i + 2 := nI_clamp (by omega)
  intro d
  induction d with
  | zero =>
    intro k a w4 w5 _ _ hd hk
    have h1 : ¬ nI k < nI (kjn μ) := nI_nlt (by omega) (by omega)
    rw [x138_4]
    simp only [x138_5, x138_6, x138_9, x138_111, x138_112, pushO, List.length_cons, List.length_nil, Nat.reduceAdd, Nat.reduceLeDiff, Nat.le_refl, Nat.zero_le, isD_i, isD_r, isD_l, isD_n, if_true, if_false, ite_true, ite_false, reduceIte, f, h1, fold]
  | succ d ih =>
    intro k a w4 w5 h4 h5 hd hk
    have h1 : nI k < nI (kjn μ) := nI_lt (by omega) (by omega)
    have bk0 : inB (nI (3 * k)) 72 = true := inB_nI (by omega) (by omega)
    have bk1 : inB (nI (3 * k + 1)) 72 = true := inB_nI (by omega) (by omega)
    have bk2 : inB (nI (3 * k + 2)) 72 = true := inB_nI (by omega) (by omega)
    have ck0 : (nI (3 * k)).toNatClampNeg = 3 * k := nI_clamp (by omega)
    have ck1 : (nI (3 * k + 1)).toNatClampNeg = 3 * k + 1 := nI_clamp (by omega)
    have ck2 : (nI (3 * k + 2)).toNatClampNeg = 3 * k + 2 := nI_clamp (by omega)
    have a1 : nI a + 1 = nI (a + 1) := by rw [L1, nIa]
    have k1' : nI k + 1 = nI (k + 1) := by rw [L1, nIa]
    have a0 : nI a + 0 = nI a := by rw [← nI_0, nIa, Nat.add_zero]
    have pcd : (0 < kj μ (3 * k + 1) - kj μ (3 * i + 1)) = (jC (kj μ) i < jC (kj μ) k) := sb_pos (pc k (by omega)) (pc i hi)
    have zcd : (kj μ (3 * k + 1) - kj μ (3 * i + 1) = 0) = (jC (kj μ) k = jC (kj μ) i) := sb_zero (pc k (by omega)) (pc i hi)
    have ned : (kj μ (3 * k + 2) - kj μ (3 * i + 2) < 0) = (jE (kj μ) k < jE (kj μ) i) := sb_neg (pe k (by omega)) (pe i hi)
    have zed : (kj μ (3 * k + 2) - kj μ (3 * i + 2) = 0) = (jE (kj μ) k = jE (kj μ) i) := sb_zero (pe k (by omega)) (pe i hi)
    have fg : (kj μ (3 * k) < kj μ (3 * i)) = (jG (kj μ) k < jG (kj μ) i) := rfl
    rw [x138_4]
    simp only [x138_5, x138_6, x138_9, x138_12, x138_13, x138_16, x138_17, x138_18, x138_19, x138_20, x138_21, x138_22, x138_23, x138_26, x138_27, x138_28, x138_29, x138_30, x138_31, x138_32, x138_33, x138_35, x138_36, x138_39, x138_40, x138_41, x138_42, x138_43, x138_44, x138_45, x138_46, x138_49, x138_50, x138_51, x138_52, x138_53, x138_54, x138_55, x138_56, x138_58, x138_59, pushO, List.length_cons, List.length_nil, Nat.reduceAdd, Nat.reduceLeDiff, Nat.le_refl, Nat.zero_le, isD_i, isD_r, isD_l, isD_n, if_true, if_false, ite_true, ite_false, reduceIte, h4, h5, f, h1, ix0, ix1, ix2, bi0, bi1, bi2, bk0, bk1, bk2, ci0, ci1, ci2, ck0, ck1, ck2]
    unfold fold
    by_cases k1 : jC (kj μ) k = jC (kj μ) i
    · have k2 : ¬ jC (kj μ) i < jC (kj μ) k := by rw [k1]; exact Int32.lt_irrefl
      by_cases k3 : jE (kj μ) k = jE (kj μ) i
      · have k4 : ¬ jE (kj μ) k < jE (kj μ) i := by rw [k3]; exact Int32.lt_irrefl
        by_cases k5 : jG (kj μ) k < jG (kj μ) i
        · have hh : ihN (jG (kj μ)) (jC (kj μ)) (jE (kj μ)) k i = true := by unfold ihN; rw [if_pos k1, if_pos k3]; exact decide_eq_true k5
          rw [hh, if_pos rfl]
          simp only [x138_61, x138_64, x138_66, x138_69, x138_71, x138_74, x138_76, x138_79, x138_80, x138_83, x138_84, x138_85, x138_86, x138_87, x138_88, x138_91, x138_92, x138_93, x138_94, x138_95, x138_98, x138_99, x138_102, x138_103, x138_104, x138_105, x138_108, pushO, List.length_cons, List.length_nil, Nat.reduceAdd, Nat.reduceLeDiff, Nat.le_refl, Nat.zero_le, isD_i, isD_r, isD_l, isD_n, if_true, if_false, ite_true, ite_false, reduceIte, Int32.lt_irrefl, f, pcd, zcd, ned, zed, k2, k1, k4, k3, ix0, bi0, bk0, ci0, ck0, fg, k5, a1, k1']
          exact ih (k + 1) (a + 1) _ _ (isD_i _) (isD_i _) (by omega) (by omega)
        · have hh : ihN (jG (kj μ)) (jC (kj μ)) (jE (kj μ)) k i = false := by unfold ihN; rw [if_pos k1, if_pos k3]; exact decide_eq_false k5
          rw [hh, if_neg Bool.false_ne_true]
          simp only [x138_61, x138_64, x138_66, x138_69, x138_71, x138_74, x138_76, x138_79, x138_80, x138_83, x138_84, x138_85, x138_86, x138_87, x138_88, x138_91, x138_92, x138_93, x138_94, x138_95, x138_98, x138_99, x138_102, x138_103, x138_104, x138_105, x138_108, pushO, List.length_cons, List.length_nil, Nat.reduceAdd, Nat.reduceLeDiff, Nat.le_refl, Nat.zero_le, isD_i, isD_r, isD_l, isD_n, if_true, if_false, ite_true, ite_false, reduceIte, Int32.lt_irrefl, f, pcd, zcd, ned, zed, k2, k1, k4, k3, ix0, bi0, bk0, ci0, ck0, fg, k5, a0, k1']
          exact ih (k + 1) a _ _ (isD_i _) (isD_i _) (by omega) (by omega)
      · by_cases k4 : jE (kj μ) k < jE (kj μ) i
        · have hh : ihN (jG (kj μ)) (jC (kj μ)) (jE (kj μ)) k i = true := by unfold ihN; rw [if_pos k1, if_neg k3]; exact decide_eq_true k4
          rw [hh, if_pos rfl]
          simp only [x138_61, x138_64, x138_66, x138_69, x138_71, x138_74, x138_76, x138_79, x138_80, x138_83, x138_84, x138_85, x138_86, x138_87, x138_88, x138_91, x138_92, x138_93, x138_94, x138_95, x138_98, x138_99, x138_102, x138_103, x138_104, x138_105, x138_108, pushO, List.length_cons, List.length_nil, Nat.reduceAdd, Nat.reduceLeDiff, Nat.le_refl, Nat.zero_le, isD_i, isD_r, isD_l, isD_n, if_true, if_false, ite_true, ite_false, reduceIte, Int32.lt_irrefl, f, pcd, zcd, ned, zed, k2, k1, k4, a1, k1']
          exact ih (k + 1) (a + 1) _ _ (isD_i _) (isD_i _) (by omega) (by omega)
        · have hh : ihN (jG (kj μ)) (jC (kj μ)) (jE (kj μ)) k i = false := by unfold ihN; rw [if_pos k1, if_neg k3]; exact decide_eq_false k4
          rw [hh, if_neg Bool.false_ne_true]
          simp only [x138_61, x138_64, x138_66, x138_69, x138_71, x138_74, x138_76, x138_79, x138_80, x138_83, x138_84, x138_85, x138_86, x138_87, x138_88, x138_91, x138_92, x138_93, x138_94, x138_95, x138_98, x138_99, x138_102, x138_103, x138_104, x138_105, x138_108, pushO, List.length_cons, List.length_nil, Nat.reduceAdd, Nat.reduceLeDiff, Nat.le_refl, Nat.zero_le, isD_i, isD_r, isD_l, isD_n, if_true, if_false, ite_true, ite_false, reduceIte, Int32.lt_irrefl, f, pcd, zcd, ned, zed, k2, k1, k4, k3, a0, k1']
          exact ih (k + 1) a _ _ (isD_i _) (isD_i _) (by omega) (by omega)
    · by_cases k2 : jC (kj μ) i < jC (kj μ) k
      · have hh : ihN (jG (kj μ)) (jC (kj μ)) (jE (kj μ)) k i = true := by unfold ihN; rw [if_neg k1]; exact decide_eq_true k2
        rw [hh, if_pos rfl]
        simp only [x138_61, x138_64, x138_66, x138_69, x138_71, x138_74, x138_76, x138_79, x138_80, x138_83, x138_84, x138_85, x138_86, x138_87, x138_88, x138_91, x138_92, x138_93, x138_94, x138_95, x138_98, x138_99, x138_102, x138_103, x138_104, x138_105, x138_108, pushO, List.length_cons, List.length_nil, Nat.reduceAdd, Nat.reduceLeDiff, Nat.le_refl, Nat.zero_le, isD_i, isD_r, isD_l, isD_n, if_true, if_false, ite_true, ite_false, reduceIte, Int32.lt_irrefl, f, pcd, zcd, k2, a1, k1']
        exact ih (k + 1) (a + 1) _ _ (isD_i _) (isD_i _) (by omega) (by omega)
      · have hh : ihN (jG (kj μ)) (jC (kj μ)) (jE (kj μ)) k i = false := by unfold ihN; rw [if_neg k1]; exact decide_eq_false k2
        rw [hh, if_neg Bool.false_ne_true]
        simp only [x138_61, x138_64, x138_66, x138_69, x138_71, x138_74, x138_76, x138_79, x138_80, x138_83, x138_84, x138_85, x138_86, x138_87, x138_88, x138_91, x138_92, x138_93, x138_94, x138_95, x138_98, x138_99, x138_102, x138_103, x138_104, x138_105, x138_108, pushO, List.length_cons, List.length_nil, Nat.reduceAdd, Nat.reduceLeDiff, Nat.le_refl, Nat.zero_le, isD_i, isD_r, isD_l, isD_n, if_true, if_false, ite_true, ite_false, reduceIte, Int32.lt_irrefl, f, pcd, zcd, k2, k1, a0, k1']
        exact ih (k + 1) a _ _ (isD_i _) (isD_i _) (by omega) (by omega)
def ahN (j : Nat → Int32) (c i : Nat) : Nat := fold (fun a k => if ihN (jG j) (jC j) (jE j) k i = true then a + 1 else a) c 0 0
theorem e138 {c i : Nat} {j : Nat → Int32} {K : Option Value → Hp → Prop} {m : Nat} {μ : ModM} {σ : Hp} (h : modAt m μ σ) (hj : kj μ = j) (hc : kjn μ = c) (hb : c ≤ 24) (hi : i < c) (pc : ∀ k, k < c → 0 ≤ (jC j k).toInt) (pe : ∀ k, k < c → 0 ≤ (jE j k).toInt) : X 138 0 [.ref m, .int (nI i), .null, .null, .null, .null] [] σ K = K (some (.int (nI (ahN j c i)))) σ := by
  have q := l138 (K := K) h hj hc hb hi pc pe c 0 0 .null .null isD_n isD_n rfl (by omega)
  rw [nI_0] at q
  simp only [x138_0, x138_1, x138_2, x138_3, pushO, List.length_cons, List.length_nil, Nat.reduceAdd, Nat.reduceLeDiff, Nat.le_refl, Nat.zero_le, isD_i, isD_r, isD_l, isD_n, if_true, if_false, ite_true, ite_false, reduceIte, q, ahN]
