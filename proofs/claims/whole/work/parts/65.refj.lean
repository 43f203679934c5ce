/-! the reference's ageing -/
def agS (s : Nat → Int32) (t k : Nat) : Nat → Int32 := lt_ (lt_ s t (4 + 3 * k) (gt s t (4 + 3 * k) / 2)) t (5 + 3 * k) (if gt s t (4 + 3 * k) / 2 < gt s t (5 + 3 * k) / 2 then gt s t (4 + 3 * k) / 2 else gt s t (5 + 3 * k) / 2)
def agF (t : Nat) : Nat → Nat → (Nat → Int32) → (Nat → Int32)
  | 0, _, s => s
  | d + 1, n, s => if gt s t (4 + 3 * d) / 2 = 0 then agF t d (n - 1) (guF (agS s t d) t n d) else agF t d n (agS s t d)
theorem l134a {t m : Nat} {μ : ModM} {σ : Hp} {K : Option Value → Hp → Prop} (ht : t < 2) : ∀ (d n : Nat) (s : Nat → Int32) (w3 w4 : Value), isD w3 = false → isD w4 = false → d ≤ n → n ≤ 12 → gt s t 1 = nI n → ∃ w3' w4' : Value, isD w3' = false ∧ isD w4' = false ∧ X 134 23 [.ref m, .int (nI t), .int (nI d - 1), w3, w4] [] (modPut m (ws μ s) σ) K = X 134 99 [.ref m, .int (nI t), .int (-1), w3', w4'] [] (modPut m (ws μ (agF t d n s)) σ) K := by
  intro d
  induction d with
  | zero =>
    intro n s w3 w4 h3 h4 hd hb hn
    refine ⟨w3, w4, h3, h4, ?_⟩
    have e1 : nI 0 - 1 = -1 := by decide +kernel
    have n1 : (-1 : Int32) < 0 := by decide +kernel
    rw [x134_23, e1]
    simp only [x134_24, pushO, List.length_cons, List.length_nil, Nat.reduceAdd, Nat.reduceLeDiff, Nat.le_refl, Nat.zero_le, isD_i, isD_r, isD_l, isD_n, if_true, if_false, ite_true, ite_false, reduceIte, n1, agF]
  | succ d ih =>
    intro n s w3 w4 h3 h4 hd hb hn
    have n1 : ¬ nI d < 0 := nI_pos (by omega)
    have c1 := fun s K => e116 (K := K) (modAP (r := m) (ρ := ws μ s) (σ := σ)) ht (show d < 52 by omega)
    have c2 := fun s K => e117 (K := K) (modAP (r := m) (ρ := ws μ s) (σ := σ)) ht (show d < 51 by omega)
    simp only [ks_ws] at c1 c2
    have a1 := fun s v K => g114 (K := K) (m := m) (μ := μ) (σ := σ) (s := s) (v := v) ht (show 4 + 3 * d < 160 by omega)
    have a2 := fun s v K => g114 (K := K) (m := m) (μ := μ) (σ := σ) (s := s) (v := v) ht (show 5 + 3 * d < 160 by omega)
    have u1 : gt (agS s t d) t 1 = nI n := by
      unfold agS
      rw [gt_n (by omega), gt_n (by omega)]
      exact hn
    have g := fun K => g121 (K := K) (m := m) (μ := μ) (σ := σ) (s := agS s t d) (k := d) ht u1 hb (by omega)
    have em : nI d + (-1) = nI d - 1 := by rw [← Int32.sub_eq_add_neg]
    have step : X 134 23 [.ref m, .int (nI t), .int (nI d), w3, w4] [] (modPut m (ws μ s) σ) K = X 134 83 [.ref m, .int (nI t), .int (nI d), .int (gt s t (4 + 3 * d) / 2), .int (gt s t (5 + 3 * d) / 2)] [] (modPut m (ws μ (agS s t d)) σ) K := by
      rw [x134_23]
      unfold agS
      by_cases h5 : gt s t (4 + 3 * d) / 2 < gt s t (5 + 3 * d) / 2
      · simp only [x134_24, x134_27, x134_28, x134_29, x134_30, x134_33, x134_34, x134_35, x134_36, x134_37, x134_38, x134_39, x134_42, x134_43, x134_44, x134_46, x134_47, x134_48, x134_49, x134_50, x134_51, x134_52, x134_53, x134_54, x134_55, x134_56, x134_59, x134_60, x134_61, x134_62, x134_63, x134_64, x134_65, x134_66, x134_67, x134_68, x134_70, x134_71, x134_74, x134_75, x134_78, x134_80, pushO, List.length_cons, List.length_nil, Nat.reduceAdd, Nat.reduceLeDiff, Nat.le_refl, Nat.zero_le, isD_i, isD_r, isD_l, isD_n, if_true, if_false, ite_true, ite_false, reduceIte, ctx, n1, h3, h4, c1, c2, two_ne, not_false_eq_true, ixg, ixc, ixe, a1, a2, h5]
      · simp only [x134_24, x134_27, x134_28, x134_29, x134_30, x134_33, x134_34, x134_35, x134_36, x134_37, x134_38, x134_39, x134_42, x134_43, x134_44, x134_46, x134_47, x134_48, x134_49, x134_50, x134_51, x134_52, x134_53, x134_54, x134_55, x134_56, x134_59, x134_60, x134_61, x134_62, x134_63, x134_64, x134_65, x134_66, x134_67, x134_68, x134_70, x134_71, x134_74, x134_75, x134_78, x134_80, pushO, List.length_cons, List.length_nil, Nat.reduceAdd, Nat.reduceLeDiff, Nat.le_refl, Nat.zero_le, isD_i, isD_r, isD_l, isD_n, if_true, if_false, ite_true, ite_false, reduceIte, ctx, n1, h3, h4, c1, c2, two_ne, not_false_eq_true, ixg, ixc, ixe, a1, a2, h5]
    rw [nI_pred, step]
    unfold agF
    by_cases h6 : gt s t (4 + 3 * d) / 2 = 0
    · obtain ⟨v3, v4, q1, q2, q3⟩ := ih (n - 1) (guF (agS s t d) t n d) (.int 0) (.int (gt s t (5 + 3 * d) / 2)) (isD_i _) (isD_i _) (by omega) (by omega) guF_1
      refine ⟨v3, v4, q1, q2, ?_⟩
      rw [if_pos h6, ← q3]
      simp only [x134_83, x134_84, x134_87, x134_88, x134_89, x134_90, x134_93, x134_96, pushO, List.length_cons, List.length_nil, Nat.reduceAdd, Nat.reduceLeDiff, Nat.le_refl, Nat.zero_le, isD_i, isD_r, isD_l, isD_n, if_true, if_false, ite_true, ite_false, reduceIte, ctx, h6, g, em]
    · obtain ⟨v3, v4, q1, q2, q3⟩ := ih n (agS s t d) (.int (gt s t (4 + 3 * d) / 2)) (.int (gt s t (5 + 3 * d) / 2)) (isD_i _) (isD_i _) (by omega) (by omega) u1
      refine ⟨v3, v4, q1, q2, ?_⟩
      rw [if_neg h6, ← q3]
      simp only [x134_83, x134_84, x134_87, x134_88, x134_89, x134_90, x134_93, x134_96, pushO, List.length_cons, List.length_nil, Nat.reduceAdd, Nat.reduceLeDiff, Nat.le_refl, Nat.zero_le, isD_i, isD_r, isD_l, isD_n, if_true, if_false, ite_true, ite_false, reduceIte, ctx, h6, em]
def atF (t : Nat) : Nat → Nat → Nat → (Nat → Int32) → Nat × (Nat → Int32)
  | 0, _, a, s => (a, s)
  | d + 1, k, a, s => if 0 < gt s t (41 + 2 * k) / 2 then atF t d (k + 1) (a + 1) (lt_ (lt_ s t (40 + 2 * a) (gt s t (40 + 2 * k))) t (41 + 2 * a) (gt s t (41 + 2 * k) / 2)) else atF t d (k + 1) a s
theorem atF_le {t : Nat} : ∀ (d k a : Nat) (s : Nat → Int32), (atF t d k a s).1 ≤ a + d
  | 0, _, _, _ => Nat.le_refl _
  | d + 1, k, a, s => by
    unfold atF
    split
    · have := atF_le (t := t) d (k + 1) (a + 1) (lt_ (lt_ s t (40 + 2 * a) (gt s t (40 + 2 * k))) t (41 + 2 * a) (gt s t (41 + 2 * k) / 2))
      omega
    · have := atF_le (t := t) d (k + 1) a s
      omega
theorem l134b {N : Nat} (hN : N ≤ 60) {t m : Nat} {μ : ModM} {σ : Hp} {K : Option Value → Hp → Prop} (ht : t < 2) : ∀ (d k a : Nat) (s : Nat → Int32) (w4 : Value), isD w4 = false → N - k = d → k ≤ N → a ≤ k → gt s t 39 = nI N → ∃ w4' : Value, isD w4' = false ∧ X 134 103 [.ref m, .int (nI t), .int (nI a), .int (nI k), w4] [] (modPut m (ws μ s) σ) K = X 134 182 [.ref m, .int (nI t), .int (nI (atF t d k a s).1), .int (nI N), w4'] [] (modPut m (ws μ (atF t d k a s).2) σ) K := by
  intro d
  induction d with
  | zero =>
    intro k a s w4 h4 hd hk ha h39
    refine ⟨w4, h4, ?_⟩
    have ek : k = N := by omega
    subst ek
    have h1 : ¬ nI k < nI k := nI_nlt (by omega) (by omega)
    rw [x134_103]
    simp only [x134_104, x134_105, x134_106, x134_108, x134_111, pushO, List.length_cons, List.length_nil, Nat.reduceAdd, Nat.reduceLeDiff, Nat.le_refl, Nat.zero_le, isD_i, isD_r, isD_l, isD_n, if_true, if_false, ite_true, ite_false, reduceIte, ctx, g113_39 ht, h39, h1, atF]
  | succ d ih =>
    intro k a s w4 h4 hd hk ha h39
    have h1 : nI k < nI N := nI_lt (by omega) (by omega)
    have c1 := fun s K => g113 (K := K) (m := m) (μ := μ) (σ := σ) (s := s) ht (show 41 + 2 * k < 160 by omega)
    have c2 := fun s K => g113 (K := K) (m := m) (μ := μ) (σ := σ) (s := s) ht (show 40 + 2 * k < 160 by omega)
    have a1 := fun s v K => g114 (K := K) (m := m) (μ := μ) (σ := σ) (s := s) (v := v) ht (show 41 + 2 * a < 160 by omega)
    have a2 := fun s v K => g114 (K := K) (m := m) (μ := μ) (σ := σ) (s := s) (v := v) ht (show 40 + 2 * a < 160 by omega)
    have k1' : nI k + 1 = nI (k + 1) := by rw [L1, nIa]
    have a1' : nI a + 1 = nI (a + 1) := by rw [L1, nIa]
    rw [x134_103]
    unfold atF
    by_cases h6 : 0 < gt s t (41 + 2 * k) / 2
    · obtain ⟨v4, q1, q2⟩ := ih (k + 1) (a + 1) (lt_ (lt_ s t (40 + 2 * a) (gt s t (40 + 2 * k))) t (41 + 2 * a) (gt s t (41 + 2 * k) / 2)) (.int (gt s t (41 + 2 * k) / 2)) (isD_i _) (by omega) (by omega) (by omega) (by rw [gt_n (by omega), gt_n (by omega)]; exact h39)
      refine ⟨v4, q1, ?_⟩
      rw [if_pos h6, ← q2]
      simp only [x134_104, x134_105, x134_106, x134_108, x134_111, x134_114, x134_115, x134_116, x134_118, x134_119, x134_120, x134_121, x134_122, x134_123, x134_124, x134_127, x134_128, x134_129, x134_131, x134_133, x134_136, x134_137, x134_138, x134_140, x134_141, x134_142, x134_143, x134_144, x134_145, x134_146, x134_148, x134_149, x134_150, x134_151, x134_152, x134_155, x134_158, x134_159, x134_160, x134_162, x134_163, x134_164, x134_165, x134_166, x134_167, x134_168, x134_170, x134_173, x134_176, x134_179, pushO, List.length_cons, List.length_nil, Nat.reduceAdd, Nat.reduceLeDiff, Nat.le_refl, Nat.zero_le, isD_i, isD_r, isD_l, isD_n, if_true, if_false, ite_true, ite_false, reduceIte, ctx, g113_39 ht, h39, h1, h4, ix40, ix41, c1, c2, a1, a2, two_ne, not_false_eq_true, h6, k1', a1']
    · obtain ⟨v4, q1, q2⟩ := ih (k + 1) a s (.int (gt s t (41 + 2 * k) / 2)) (isD_i _) (by omega) (by omega) (by omega) h39
      refine ⟨v4, q1, ?_⟩
      rw [if_neg h6, ← q2]
      simp only [x134_104, x134_105, x134_106, x134_108, x134_111, x134_114, x134_115, x134_116, x134_118, x134_119, x134_120, x134_121, x134_122, x134_123, x134_124, x134_127, x134_128, x134_129, x134_131, x134_133, x134_136, x134_137, x134_138, x134_140, x134_141, x134_142, x134_143, x134_144, x134_145, x134_146, x134_148, x134_149, x134_150, x134_151, x134_152, x134_155, x134_158, x134_159, x134_160, x134_162, x134_163, x134_164, x134_165, x134_166, x134_167, x134_168, x134_170, x134_173, x134_176, x134_179, pushO, List.length_cons, List.length_nil, Nat.reduceAdd, Nat.reduceLeDiff, Nat.le_refl, Nat.zero_le, isD_i, isD_r, isD_l, isD_n, if_true, if_false, ite_true, ite_false, reduceIte, ctx, g113_39 ht, h39, h1, h4, ix40, ix41, c1, c2, two_ne, not_false_eq_true, h6, k1']
theorem L120 : (120 : Int32) = nI 120 := by decide +kernel
theorem ix2 (k : Nat) : 2 * nI k = nI (2 * k) := by rw [L2, nIm]
theorem ix40a (k : Nat) : 40 + nI k = nI (40 + k) := by rw [L40, nIa]
theorem l134c {a : Nat} {w4 : Value} {t m : Nat} {μ : ModM} {σ : Hp} {K : Option Value → Hp → Prop} (ht : t < 2) : ∀ (d q : Nat) (s : Nat → Int32), 120 - q = d → q ≤ 120 → X 134 186 [.ref m, .int (nI t), .int (nI a), .int (nI q), w4] [] (modPut m (ws μ s) σ) K = X 134 208 [.ref m, .int (nI t), .int (nI a), .int (nI 120), w4] [] (modPut m (ws μ (clF t d (40 + q) s)) σ) K := by
  intro d
  induction d with
  | zero =>
    intro q s hd hq
    have eq : q = 120 := by omega
    subst eq
    have h1 : ¬ nI 120 < nI 120 := nI_nlt (by omega) (by omega)
    rw [x134_186]
    simp only [x134_187, x134_189, pushO, List.length_cons, List.length_nil, Nat.reduceAdd, Nat.reduceLeDiff, Nat.le_refl, Nat.zero_le, isD_i, isD_r, isD_l, isD_n, if_true, if_false, ite_true, ite_false, reduceIte, L120, h1, clF]
  | succ d ih =>
    intro q s hd hq
    have h1 : nI q < nI 120 := nI_lt (by omega) (by omega)
    have a1 := fun s v K => g114 (K := K) (m := m) (μ := μ) (σ := σ) (s := s) (v := v) ht (show 40 + q < 160 by omega)
    rw [x134_186]
    simp only [x134_187, x134_189, x134_192, x134_193, x134_194, x134_196, x134_197, x134_198, x134_199, x134_202, x134_205, pushO, List.length_cons, List.length_nil, Nat.reduceAdd, Nat.reduceLeDiff, Nat.le_refl, Nat.zero_le, isD_i, isD_r, isD_l, isD_n, if_true, if_false, ite_true, ite_false, reduceIte, ctx, L120, h1, ix40a, a1, ← nI_succ, clF]
    exact ih (q + 1) _ (by omega) (by omega)
theorem gvF_n {t b : Nat} : ∀ (d q : Nat) (s : Nat → Int32), 3 + q + d ≤ b → gt (gvF t d q s) t b = gt s t b := by
  intro d
  induction d with
  | zero => intro q s _; rfl
  | succ d ih =>
    intro q s hq
    unfold gvF
    rw [ih _ _ (by omega), gt_n (by omega)]
theorem clF_n {t b : Nat} : ∀ (d q : Nat) (s : Nat → Int32), q + d ≤ b ∨ b < q → gt (clF t d q s) t b = gt s t b := by
  intro d
  induction d with
  | zero => intro q s _; rfl
  | succ d ih =>
    intro q s hq
    unfold clF
    rw [ih _ _ (by omega), gt_n (by omega)]
theorem guF_n {s : Nat → Int32} {t n k b : Nat} (hb : 39 ≤ b) (hn : n ≤ 12) (hk : k < n) : gt (guF s t n k) t b = gt s t b := by
  unfold guF
  rw [gt_n (by omega), clF_n _ _ _ (by omega), gvF_n _ _ _ (by omega)]
theorem agS_n {s : Nat → Int32} {t k b : Nat} (hb : 39 ≤ b) (hk : k < 11) : gt (agS s t k) t b = gt s t b := by
  unfold agS
  rw [gt_n (by omega), gt_n (by omega)]
theorem agS_n2 {s : Nat → Int32} {t k b : Nat} (hb : b ≠ 4 + 3 * k) (hk : b ≠ 5 + 3 * k) : gt (agS s t k) t b = gt s t b := by
  unfold agS
  rw [gt_n hk, gt_n hb]
theorem agF_n {t b : Nat} (hb : 39 ≤ b) : ∀ (d n : Nat) (s : Nat → Int32), d ≤ n → n ≤ 12 → gt (agF t d n s) t b = gt s t b := by
  intro d
  induction d with
  | zero => intro n s _ _; rfl
  | succ d ih =>
    intro n s hd hn
    unfold agF
    split
    · rw [ih _ _ (by omega) (by omega), guF_n hb hn (by omega), agS_n2 (by omega) (by omega)]
    · rw [ih _ _ (by omega) (by omega), agS_n2 (by omega) (by omega)]
def ageM (s : Nat → Int32) (t n N : Nat) : Nat → Int32 := lt_ (clF t (120 - 2 * (atF t N 0 0 (agF t n n (lt_ s t 0 (gt s t 0 / 2)))).1) (40 + 2 * (atF t N 0 0 (agF t n n (lt_ s t 0 (gt s t 0 / 2)))).1) (atF t N 0 0 (agF t n n (lt_ s t 0 (gt s t 0 / 2)))).2) t 39 (nI (atF t N 0 0 (agF t n n (lt_ s t 0 (gt s t 0 / 2)))).1)
theorem g134 {n N : Nat} {s : Nat → Int32} {t m : Nat} {μ : ModM} {σ : Hp} {K : Option Value → Hp → Prop} (ht : t < 2) (hn : gt s t 1 = nI n) (hb : n ≤ 12) (h39 : gt s t 39 = nI N) (hN : N ≤ 60) : X 134 0 [.ref m, .int (nI t), .null, .null, .null] [] (modPut m (ws μ s) σ) K = K none (modPut m (ws μ (ageM s t n N)) σ) := by
  unfold ageM
  generalize hs0 : lt_ s t 0 (gt s t 0 / 2) = s0
  have u1 : gt s0 t 1 = nI n := by rw [← hs0, gt_n (by omega), hn]
  have u2 : gt s0 t 39 = nI N := by rw [← hs0, gt_n (by omega), h39]
  obtain ⟨v3, v4, q1, q2, q3⟩ := l134a (m := m) (μ := μ) (σ := σ) (K := K) ht n n s0 .null .null isD_n isD_n (by omega) hb u1
  have u3 : gt (agF t n n s0) t 39 = nI N := by rw [agF_n (by omega) _ _ _ (by omega) hb, u2]
  generalize hs1 : agF t n n s0 = s1 at *
  obtain ⟨v5, q4, q5⟩ := l134b (m := m) (μ := μ) (σ := σ) (K := K) hN ht N 0 0 s1 v4 q2 (by omega) (by omega) (by omega) u3
  have le := atF_le (t := t) N 0 0 s1
  generalize hr : atF t N 0 0 s1 = r at *
  obtain ⟨a, s2⟩ := r
  have q6 := l134c (a := a) (w4 := v5) (m := m) (μ := μ) (σ := σ) (K := K) ht (120 - 2 * a) (2 * a) s2 rfl (by show 2 * a ≤ 120; have : a ≤ 0 + N := le; omega)
  rw [nI_0] at q5
  simp only [x134_0, x134_1, x134_2, x134_3, x134_4, x134_5, x134_6, x134_9, x134_10, x134_11, x134_14, x134_15, x134_16, x134_17, x134_20, x134_21, x134_22, pushO, List.length_cons, List.length_nil, Nat.reduceAdd, Nat.reduceLeDiff, Nat.le_refl, Nat.zero_le, isD_i, isD_r, isD_l, isD_n, if_true, if_false, ite_true, ite_false, reduceIte, ctx, g113_0 ht, g113_1 ht, g114_0 ht, hs0, u1, two_ne, not_false_eq_true]
  rw [q3]
  simp only [x134_99, x134_100, x134_101, x134_102, pushO, List.length_cons, List.length_nil, Nat.reduceAdd, Nat.reduceLeDiff, Nat.le_refl, Nat.zero_le, isD_i, isD_r, isD_l, isD_n, if_true, if_false, ite_true, ite_false, reduceIte, isD_i, q1]
  rw [q5]
  simp only [x134_182, x134_183, x134_184, x134_185, pushO, List.length_cons, List.length_nil, Nat.reduceAdd, Nat.reduceLeDiff, Nat.le_refl, Nat.zero_le, isD_i, isD_r, isD_l, isD_n, if_true, if_false, ite_true, ite_false, reduceIte, isD_i, ix2]
  rw [q6]
  simp only [x134_208, x134_209, x134_210, x134_212, x134_213, x134_216, pushO, List.length_cons, List.length_nil, Nat.reduceAdd, Nat.reduceLeDiff, Nat.le_refl, Nat.zero_le, isD_i, isD_r, isD_l, isD_n, if_true, if_false, ite_true, ite_false, reduceIte, ctx, g114_39 ht]
theorem guF_0 {s : Nat → Int32} {t n k b : Nat} (hb : b ≠ 1) (hb3 : b < 3) (hk : k < n) : gt (guF s t n k) t b = gt s t b := by
  have gv : ∀ (d q : Nat) (s : Nat → Int32), gt (gvF t d q s) t b = gt s t b := by
    intro d
    induction d with
    | zero => intro q s; rfl
    | succ d ih =>
      intro q s
      unfold gvF
      rw [ih, gt_n (by omega)]
  unfold guF
  rw [gt_n (by omega), clF_n _ _ _ (by omega), gv]
theorem agF_0 {t b : Nat} (hb : b ≠ 1) (hb3 : b < 3) : ∀ (d n : Nat) (s : Nat → Int32), d ≤ n → gt (agF t d n s) t b = gt s t b := by
  intro d
  induction d with
  | zero => intro n s _; rfl
  | succ d ih =>
    intro n s hd
    unfold agF
    split
    · rw [ih _ _ (by omega), guF_0 hb hb3 (by omega), agS_n2 (by omega) (by omega)]
    · rw [ih _ _ (by omega), agS_n2 (by omega) (by omega)]
theorem atF_n {t b : Nat} (hb : b < 40) : ∀ (d k a : Nat) (s : Nat → Int32), gt (atF t d k a s).2 t b = gt s t b := by
  intro d
  induction d with
  | zero => intro k a s; rfl
  | succ d ih =>
    intro k a s
    unfold atF
    split
    · rw [ih, gt_n (by omega), gt_n (by omega)]
    · rw [ih]
theorem ageM_0 {s : Nat → Int32} {t n N : Nat} : gt (ageM s t n N) t 0 = gt s t 0 / 2 := by
  unfold ageM
  rw [gt_n (by omega), clF_n _ _ _ (by omega), atF_n (by omega), agF_0 (by omega) (by omega) _ _ _ (by omega), gt_s]
theorem d135a {s : Int32} {K : Option Value → Hp → Prop} {m : Nat} {μ : ModM} {σ : Hp} (h : modAt m μ σ) (hs : isSt s = false) : X 135 0 [.ref m, .int s] [] σ K = K (some (.int (-1))) σ := by
  simp only [x135_0, x135_1, x135_2, x135_5, x135_6, x135_9, x135_12, x135_13, pushO, List.length_cons, List.length_nil, Nat.reduceAdd, Nat.reduceLeDiff, Nat.le_refl, Nat.zero_le, isD_i, isD_r, isD_l, isD_n, if_true, if_false, ite_true, ite_false, reduceIte, mdF h, mdP0s h, e111, hs, bI_f]
theorem d135b {t n N S : Nat} {K : Option Value → Hp → Prop} {m : Nat} {μ : ModM} {σ : Hp} (h : modAt m μ σ) (ht : t < 2) (hm : kum μ ≤ 6) (o : rvOK (ks μ) t n N S) : X 135 0 [.ref m, .int (nI t)] [] σ K = K (some (.int (gt (ks μ) t 0 / 2))) (modPut m (ws (rcM μ) (ageM (ks μ) t n N)) σ) := by
  obtain ⟨o1, o2, o3, o4, o5, o6, o7, o8⟩ := o
  have g := fun K => g134 (K := K) (m := m) (μ := rcM μ) (σ := σ) (s := ks μ) ht o1 (by omega) o6 o7
  simp only [x135_0, x135_1, x135_2, x135_5, x135_6, x135_9, x135_12, x135_13, x135_14, x135_15, x135_18, x135_19, x135_20, x135_23, x135_24, x135_25, x135_26, x135_29, pushO, List.length_cons, List.length_nil, Nat.reduceAdd, Nat.reduceLeDiff, Nat.le_refl, Nat.zero_le, isD_i, isD_r, isD_l, isD_n, if_true, if_false, ite_true, ite_false, reduceIte, mdF h, mdP0s h, e111, st_nI ht, bI_t, i1_ne, q118 h hm, rc_ws, ctx, g, g113_0 ht, ageM_0]
