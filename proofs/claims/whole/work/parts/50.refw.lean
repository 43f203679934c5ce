/-! the reference's coming -/
theorem g113_0 {t m : Nat} {μ : ModM} {σ : Hp} {s : Nat → Int32} {K : Option Value → Hp → Prop} (ht : t < 2) : X 113 0 [.ref m, .int (nI t), .int 0] [] (modPut m (ws μ s) σ) K = K (some (.int (gt s t 0))) (modPut m (ws μ s) σ) := by
  have q := g113 (K := K) (m := m) (μ := μ) (σ := σ) (s := s) ht (show 0 < 160 by omega)
  rwa [nI_0] at q
theorem g113_1 {t m : Nat} {μ : ModM} {σ : Hp} {s : Nat → Int32} {K : Option Value → Hp → Prop} (ht : t < 2) : X 113 0 [.ref m, .int (nI t), .int 1] [] (modPut m (ws μ s) σ) K = K (some (.int (gt s t 1))) (modPut m (ws μ s) σ) := by
  have q := g113 (K := K) (m := m) (μ := μ) (σ := σ) (s := s) ht (show 1 < 160 by omega)
  rwa [← L1] at q
theorem g113_2 {t m : Nat} {μ : ModM} {σ : Hp} {s : Nat → Int32} {K : Option Value → Hp → Prop} (ht : t < 2) : X 113 0 [.ref m, .int (nI t), .int 2] [] (modPut m (ws μ s) σ) K = K (some (.int (gt s t 2))) (modPut m (ws μ s) σ) := by
  have q := g113 (K := K) (m := m) (μ := μ) (σ := σ) (s := s) ht (show 2 < 160 by omega)
  rwa [← L2] at q
theorem g113_39 {t m : Nat} {μ : ModM} {σ : Hp} {s : Nat → Int32} {K : Option Value → Hp → Prop} (ht : t < 2) : X 113 0 [.ref m, .int (nI t), .int 39] [] (modPut m (ws μ s) σ) K = K (some (.int (gt s t 39))) (modPut m (ws μ s) σ) := by
  have q := g113 (K := K) (m := m) (μ := μ) (σ := σ) (s := s) ht (show 39 < 160 by omega)
  rwa [← L39] at q
theorem g114_0 {v : Int32} {t m : Nat} {μ : ModM} {σ : Hp} {s : Nat → Int32} {K : Option Value → Hp → Prop} (ht : t < 2) : X 114 0 [.ref m, .int (nI t), .int 0, .int v] [] (modPut m (ws μ s) σ) K = K none (modPut m (ws μ (lt_ s t 0 v)) σ) := by
  have q := g114 (v := v) (K := K) (m := m) (μ := μ) (σ := σ) (s := s) ht (show 0 < 160 by omega)
  rwa [nI_0] at q
theorem g114_1 {v : Int32} {t m : Nat} {μ : ModM} {σ : Hp} {s : Nat → Int32} {K : Option Value → Hp → Prop} (ht : t < 2) : X 114 0 [.ref m, .int (nI t), .int 1, .int v] [] (modPut m (ws μ s) σ) K = K none (modPut m (ws μ (lt_ s t 1 v)) σ) := by
  have q := g114 (v := v) (K := K) (m := m) (μ := μ) (σ := σ) (s := s) ht (show 1 < 160 by omega)
  rwa [← L1] at q
theorem g114_2 {v : Int32} {t m : Nat} {μ : ModM} {σ : Hp} {s : Nat → Int32} {K : Option Value → Hp → Prop} (ht : t < 2) : X 114 0 [.ref m, .int (nI t), .int 2, .int v] [] (modPut m (ws μ s) σ) K = K none (modPut m (ws μ (lt_ s t 2 v)) σ) := by
  have q := g114 (v := v) (K := K) (m := m) (μ := μ) (σ := σ) (s := s) ht (show 2 < 160 by omega)
  rwa [← L2] at q
theorem g114_39 {v : Int32} {t m : Nat} {μ : ModM} {σ : Hp} {s : Nat → Int32} {K : Option Value → Hp → Prop} (ht : t < 2) : X 114 0 [.ref m, .int (nI t), .int 39, .int v] [] (modPut m (ws μ s) σ) K = K none (modPut m (ws μ (lt_ s t 39 v)) σ) := by
  have q := g114 (v := v) (K := K) (m := m) (μ := μ) (σ := σ) (s := s) ht (show 39 < 160 by omega)
  rwa [← L39] at q
theorem ctx {m : Nat} {μ : ModM} {σ : Hp} (s : Nat → Int32) : okO (modPut m (ws μ s) σ) m 9 = true := (mdF (modAP (r := m) (ρ := ws μ s) (σ := σ))).1
/-- a true count more -/
def ctF (s : Nat → Int32) (t N : Nat) (y z : Int32) : Nat → Int32 := match seatO (vH s t) N y with
  | some j => lt_ s t (41 + 2 * j) (gt s t (41 + 2 * j) + z)
  | none => lt_ (lt_ (lt_ (lt_ s t (40 + 2 * N) y) t (41 + 2 * N) 0) t 39 (nI (N + 1))) t (41 + 2 * N) (gt (lt_ (lt_ (lt_ s t (40 + 2 * N) y) t (41 + 2 * N) 0) t 39 (nI (N + 1))) t (41 + 2 * N) + z)
theorem g128 {N : Nat} {y z : Int32} {t m : Nat} {μ : ModM} {σ : Hp} {s : Nat → Int32} {K : Option Value → Hp → Prop} (ht : t < 2) (hN : gt s t 39 = nI N) (hb : N ≤ 60) (hf : seatO (vH s t) N y = none → N < 60) : X 128 0 [.ref m, .int (nI t), .int y, .int z, .null] [] (modPut m (ws μ s) σ) K = K none (modPut m (ws μ (ctF s t N y z)) σ) := by
  have q := fun K => e126 (y := y) (K := K) (modAP (r := m) (ρ := ws μ s) (σ := σ)) ht hN hb
  unfold ctF
  rw [show ks (ws μ s) = s from rfl] at q
  cases hj : seatO (vH s t) N y with
  | some j =>
    have hj2 := seatO_lt hj
    have q2 : seatOfR (vH s t) N y = nI j := by rw [seatOf_O, hj]; rfl
    have n6 : ¬ nI j = -6 := nI_n6 (by omega)
    simp only [q2] at q
    simp only [x128_0, x128_1, x128_2, x128_3, x128_6, x128_8, x128_10, x128_12, x128_15, x128_16, x128_17, x128_19, x128_22, x128_24, x128_25, x128_26, x128_28, x128_29, x128_31, x128_32, x128_33, x128_34, x128_37, x128_38, x128_39, x128_41, x128_42, x128_44, x128_45, x128_46, x128_47, x128_48, x128_49, x128_52, x128_53, x128_54, x128_56, x128_58, x128_59, x128_60, x128_63, x128_64, x128_65, x128_67, x128_68, x128_70, x128_71, x128_72, x128_73, x128_74, x128_75, x128_76, x128_78, x128_79, x128_81, x128_82, x128_83, x128_84, x128_85, x128_88, x128_89, x128_90, x128_93, pushO, List.length_cons, List.length_nil, Nat.reduceAdd, Nat.reduceLeDiff, Nat.le_refl, Nat.zero_le, isD_i, isD_r, isD_l, isD_n, if_true, if_false, ite_true, ite_false, reduceIte, ctx, q, n6, ix40, ix41, g113 ht (show 41 + 2 * j < 160 by omega), g114 ht (show 41 + 2 * j < 160 by omega)]
  | none =>
    have hN2 := hf hj
    have q2 : seatOfR (vH s t) N y = -6 := by rw [seatOf_O, hj]; rfl
    simp only [q2] at q
    have e2 : nI N + 1 = nI (N + 1) := by rw [L1, nIa]
    simp only [x128_0, x128_1, x128_2, x128_3, x128_6, x128_8, x128_10, x128_12, x128_15, x128_16, x128_17, x128_19, x128_22, x128_24, x128_25, x128_26, x128_28, x128_29, x128_31, x128_32, x128_33, x128_34, x128_37, x128_38, x128_39, x128_41, x128_42, x128_44, x128_45, x128_46, x128_47, x128_48, x128_49, x128_52, x128_53, x128_54, x128_56, x128_58, x128_59, x128_60, x128_63, x128_64, x128_65, x128_67, x128_68, x128_70, x128_71, x128_72, x128_73, x128_74, x128_75, x128_76, x128_78, x128_79, x128_81, x128_82, x128_83, x128_84, x128_85, x128_88, x128_89, x128_90, x128_93, pushO, List.length_cons, List.length_nil, Nat.reduceAdd, Nat.reduceLeDiff, Nat.le_refl, Nat.zero_le, isD_i, isD_r, isD_l, isD_n, if_true, if_false, ite_true, ite_false, reduceIte, ctx, q, hN, ix40, ix41, e2, g113_39 ht, g114_39 ht, g113 ht (show 41 + 2 * N < 160 by omega), g114 ht (show 41 + 2 * N < 160 by omega), g114 ht (show 40 + 2 * N < 160 by omega)]
/-- a coming -/
def cmP (s : Nat → Int32) (t n k : Nat) (y : Int32) : Nat → Int32 :=
  if k = n then lt_ (lt_ (lt_ (lt_ s t 1 (nI (k + 1))) t (3 + 3 * k) y) t (4 + 3 * k) 0) t (5 + 3 * k) 0
  else if gt s t (3 + 3 * k) = y then s
  else lt_ (lt_ (lt_ s t (3 + 3 * k) y) t (5 + 3 * k) (gt (lt_ s t (3 + 3 * k) y) t (4 + 3 * k))) t 2 (gt (lt_ (lt_ s t (3 + 3 * k) y) t (5 + 3 * k) (gt (lt_ s t (3 + 3 * k) y) t (4 + 3 * k))) t 2 + 1)
def cmQ (s : Nat → Int32) (t k : Nat) (z : Int32) : Nat → Int32 := lt_ (lt_ s t (4 + 3 * k) (gt s t (4 + 3 * k) + z)) t 0 (gt (lt_ s t (4 + 3 * k) (gt s t (4 + 3 * k) + z)) t 0 + z)
theorem g130a {k : Nat} {y z : Int32} {w4 : Value} {t m : Nat} {μ : ModM} {σ : Hp} {s : Nat → Int32} {K : Option Value → Hp → Prop} (ht : t < 2) (hk : k < 12) : X 130 105 [.ref m, .int (nI t), .int y, .int z, .int (nI k), .int (nI (3 + 3 * k))] [] (modPut m (ws μ s) σ) K = X 130 119 [.ref m, .int (nI t), .int y, .int z, .int (nI k), .int (nI (3 + 3 * k))] [] (modPut m (ws μ (lt_ s t 2 (gt s t 2 + 1))) σ) K := by
  simp only [x130_105, x130_106, x130_107, x130_108, x130_109, x130_110, x130_111, x130_114, x130_115, x130_116, pushO, List.length_cons, List.length_nil, Nat.reduceAdd, Nat.reduceLeDiff, Nat.le_refl, Nat.zero_le, isD_i, isD_r, isD_l, isD_n, if_true, if_false, ite_true, ite_false, reduceIte, ctx, g113_2 ht, g114_2 ht]
theorem g130b {k : Nat} {y z : Int32} {t m : Nat} {μ : ModM} {σ : Hp} {s : Nat → Int32} {K : Option Value → Hp → Prop} (ht : t < 2) (hk : k < 12) : X 130 119 [.ref m, .int (nI t), .int y, .int z, .int (nI k), .int (nI (3 + 3 * k))] [] (modPut m (ws μ s) σ) K = X 130 153 [.ref m, .int (nI t), .int y, .int z, .int (nI k), .int (nI (3 + 3 * k))] [] (modPut m (ws μ (cmQ s t k z)) σ) K := by
  simp only [x130_119, x130_120, x130_121, x130_123, x130_124, x130_125, x130_126, x130_127, x130_129, x130_130, x130_131, x130_134, x130_135, x130_136, x130_139, x130_140, x130_141, x130_142, x130_143, x130_144, x130_145, x130_148, x130_149, x130_150, pushO, List.length_cons, List.length_nil, Nat.reduceAdd, Nat.reduceLeDiff, Nat.le_refl, Nat.zero_le, isD_i, isD_r, isD_l, isD_n, if_true, if_false, ite_true, ite_false, reduceIte, ctx, ixc, g113 ht (show 4 + 3 * k < 160 by omega), g114 ht (show 4 + 3 * k < 160 by omega), g113_0 ht, g114_0 ht, cmQ]
theorem g130c {n k : Nat} {y z : Int32} {t m : Nat} {μ : ModM} {σ : Hp} {s : Nat → Int32} {K : Option Value → Hp → Prop} (ht : t < 2) (hn : gt s t 1 = nI n) (hk : k < 12) (hb : n ≤ 12) : X 130 16 [.ref m, .int (nI t), .int y, .int z, .int (nI k), .int (nI (3 + 3 * k))] [] (modPut m (ws μ s) σ) K = X 130 119 [.ref m, .int (nI t), .int y, .int z, .int (nI k), .int (nI (3 + 3 * k))] [] (modPut m (ws μ (cmP s t n k y)) σ) K := by
  unfold cmP
  by_cases h1 : k = n
  · subst h1
    have e2 : nI k + 1 = nI (k + 1) := by rw [L1, nIa]
    rw [if_pos rfl]
    simp only [x130_16, x130_18, x130_19, x130_20, x130_21, x130_24, x130_27, x130_28, x130_29, x130_30, x130_32, x130_33, x130_34, x130_37, x130_38, x130_39, x130_41, x130_42, x130_45, x130_46, x130_47, x130_49, x130_50, x130_51, x130_52, x130_55, x130_56, x130_57, x130_59, x130_60, x130_61, x130_62, x130_65, pushO, List.length_cons, List.length_nil, Nat.reduceAdd, Nat.reduceLeDiff, Nat.le_refl, Nat.zero_le, isD_i, isD_r, isD_l, isD_n, if_true, if_false, ite_true, ite_false, reduceIte, ctx, g113_1 ht, hn, e2, g114_1 ht, ixc, ixe, g114 ht (show 3 + 3 * k < 160 by omega), g114 ht (show 4 + 3 * k < 160 by omega), g114 ht (show 5 + 3 * k < 160 by omega)]
  · rw [if_neg h1]
    have h2 : ¬ nI k = nI n := by rw [nI_eq_iff (by omega) (by omega)]; exact h1
    by_cases h3 : gt s t (3 + 3 * k) = y
    · rw [if_pos h3]
      simp only [x130_16, x130_18, x130_19, x130_20, x130_21, x130_24, x130_27, x130_28, x130_29, x130_30, x130_32, x130_33, x130_34, x130_37, x130_38, x130_39, x130_41, x130_42, x130_45, x130_46, x130_47, x130_49, x130_50, x130_51, x130_52, x130_55, x130_56, x130_57, x130_59, x130_60, x130_61, x130_62, x130_65, x130_68, x130_69, x130_70, x130_72, x130_75, x130_76, pushO, List.length_cons, List.length_nil, Nat.reduceAdd, Nat.reduceLeDiff, Nat.le_refl, Nat.zero_le, isD_i, isD_r, isD_l, isD_n, if_true, if_false, ite_true, ite_false, reduceIte, ctx, g113_1 ht, hn, h2, g113 ht (show 3 + 3 * k < 160 by omega), h3]
    · rw [if_neg h3]
      simp only [x130_16, x130_18, x130_19, x130_20, x130_21, x130_24, x130_27, x130_28, x130_29, x130_30, x130_32, x130_33, x130_34, x130_37, x130_38, x130_39, x130_41, x130_42, x130_45, x130_46, x130_47, x130_49, x130_50, x130_51, x130_52, x130_55, x130_56, x130_57, x130_59, x130_60, x130_61, x130_62, x130_65, x130_68, x130_69, x130_70, x130_72, x130_75, x130_76, x130_79, x130_80, x130_81, x130_83, x130_84, x130_87, x130_88, x130_89, x130_91, x130_92, x130_93, x130_94, x130_95, x130_97, x130_98, x130_99, x130_102, pushO, List.length_cons, List.length_nil, Nat.reduceAdd, Nat.reduceLeDiff, Nat.le_refl, Nat.zero_le, isD_i, isD_r, isD_l, isD_n, if_true, if_false, ite_true, ite_false, reduceIte, ctx, g113_1 ht, hn, h2, g113 ht (show 3 + 3 * k < 160 by omega), g113 ht (show 4 + 3 * k < 160 by omega), h3, ixc, ixe, g114 ht (show 3 + 3 * k < 160 by omega), g114 ht (show 5 + 3 * k < 160 by omega)]
      exact g130a (w4 := .null) ht hk
