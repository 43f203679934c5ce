/-! the reference's answers, on: of, stream, count -/
theorem l144 {t n : Nat} {K : Option Value → Hp → Prop} {m : Nat} {μ : ModM} {σ : Hp} (h : modAt m μ σ) (ht : t < 2) (hn : gt (ks μ) t 1 = nI n) (hb : n ≤ 12) : ∀ (d i : Nat) (a : Int32), n - i = d → i ≤ n → X 144 4 [.ref m, .int (nI t), .int a, .int (nI i)] [] σ K = K (some (.int (fold (fun a k => a + vC (ks μ) t k) d i a))) σ := by
  have q1 := fun K => e113 (K := K) h ht (show 1 < 160 by omega)
  rw [← L1] at q1
  intro d
  induction d with
  | zero =>
    intro i a hd hi
    have h1 : ¬ nI i < nI n := nI_nlt (by omega) (by omega)
    rw [x144_4]
    simp only [x144_5, x144_6, x144_7, x144_8, x144_11, x144_14, x144_15, x144_16, x144_17, x144_18, x144_21, x144_22, x144_23, x144_26, x144_29, x144_30, pushO, List.length_cons, List.length_nil, Nat.reduceAdd, Nat.reduceLeDiff, Nat.le_refl, Nat.zero_le, isD_i, isD_r, isD_l, isD_n, if_true, if_false, ite_true, ite_false, reduceIte, mdF h, q1, hn, h1, fold]
  | succ d ih =>
    intro i a hd hi
    have h1 : nI i < nI n := nI_lt (by omega) (by omega)
    rw [x144_4]
    simp only [x144_5, x144_6, x144_7, x144_8, x144_11, x144_14, x144_15, x144_16, x144_17, x144_18, x144_21, x144_22, x144_23, x144_26, pushO, List.length_cons, List.length_nil, Nat.reduceAdd, Nat.reduceLeDiff, Nat.le_refl, Nat.zero_le, isD_i, isD_r, isD_l, isD_n, if_true, if_false, ite_true, ite_false, reduceIte, mdF h, q1, hn, h1, e116 h ht (show i < 52 by omega), ← nI_succ, fold]
    exact ih (i + 1) _ (by omega) (by omega)
theorem e144 {t n : Nat} {K : Option Value → Hp → Prop} {m : Nat} {μ : ModM} {σ : Hp} (h : modAt m μ σ) (ht : t < 2) (hn : gt (ks μ) t 1 = nI n) (hb : n ≤ 12) : X 144 0 [.ref m, .int (nI t), .null, .null] [] σ K = K (some (.int (fold (fun a k => a + vC (ks μ) t k) n 0 0))) σ := by
  have q := l144 (K := K) h ht hn hb n 0 0 (by omega) (by omega)
  rw [nI_0] at q
  simp only [x144_0, x144_1, x144_2, x144_3, pushO, List.length_cons, List.length_nil, Nat.reduceAdd, Nat.reduceLeDiff, Nat.le_refl, Nat.zero_le, isD_i, isD_r, isD_l, isD_n, if_true, if_false, ite_true, ite_false, reduceIte, q]
theorem l145 {t n : Nat} {K : Option Value → Hp → Prop} {m : Nat} {μ : ModM} {σ : Hp} (h : modAt m μ σ) (ht : t < 2) (hn : gt (ks μ) t 1 = nI n) (hb : n ≤ 12) : ∀ (d i : Nat) (a : Int32), n - i = d → i ≤ n → X 145 4 [.ref m, .int (nI t), .int a, .int (nI i)] [] σ K = K (some (.int (fold (fun a k => if a < vE (ks μ) t k then vE (ks μ) t k else a) d i a))) σ := by
  have q1 := fun K => e113 (K := K) h ht (show 1 < 160 by omega)
  rw [← L1] at q1
  intro d
  induction d with
  | zero =>
    intro i a hd hi
    have h1 : ¬ nI i < nI n := nI_nlt (by omega) (by omega)
    rw [x145_4]
    simp only [x145_5, x145_6, x145_7, x145_8, x145_11, x145_14, x145_15, x145_16, x145_17, x145_20, x145_21, x145_24, x145_25, x145_26, x145_27, x145_30, x145_33, x145_34, x145_35, x145_38, x145_41, x145_42, pushO, List.length_cons, List.length_nil, Nat.reduceAdd, Nat.reduceLeDiff, Nat.le_refl, Nat.zero_le, isD_i, isD_r, isD_l, isD_n, if_true, if_false, ite_true, ite_false, reduceIte, mdF h, q1, hn, h1, fold]
  | succ d ih =>
    intro i a hd hi
    have h1 : nI i < nI n := nI_lt (by omega) (by omega)
    rw [x145_4]
    unfold fold
    by_cases h2 : a < vE (ks μ) t i
    · have h3 : a < gt (ks μ) t (5 + 3 * i) := h2
      rw [if_pos h2]
      simp only [x145_5, x145_6, x145_7, x145_8, x145_11, x145_14, x145_15, x145_16, x145_17, x145_20, x145_21, x145_24, x145_25, x145_26, x145_27, x145_30, x145_33, x145_34, x145_35, x145_38, pushO, List.length_cons, List.length_nil, Nat.reduceAdd, Nat.reduceLeDiff, Nat.le_refl, Nat.zero_le, isD_i, isD_r, isD_l, isD_n, if_true, if_false, ite_true, ite_false, reduceIte, mdF h, q1, hn, h1, e117 h ht (show i < 51 by omega), h3, ← nI_succ]
      exact ih (i + 1) _ (by omega) (by omega)
    · have h3 : ¬ a < gt (ks μ) t (5 + 3 * i) := h2
      rw [if_neg h2]
      simp only [x145_5, x145_6, x145_7, x145_8, x145_11, x145_14, x145_15, x145_16, x145_17, x145_20, x145_21, x145_24, x145_25, x145_26, x145_27, x145_30, x145_33, x145_34, x145_35, x145_38, pushO, List.length_cons, List.length_nil, Nat.reduceAdd, Nat.reduceLeDiff, Nat.le_refl, Nat.zero_le, isD_i, isD_r, isD_l, isD_n, if_true, if_false, ite_true, ite_false, reduceIte, mdF h, q1, hn, h1, e117 h ht (show i < 51 by omega), h3, ← nI_succ]
      exact ih (i + 1) _ (by omega) (by omega)
theorem e145 {t n : Nat} {K : Option Value → Hp → Prop} {m : Nat} {μ : ModM} {σ : Hp} (h : modAt m μ σ) (ht : t < 2) (hn : gt (ks μ) t 1 = nI n) (hb : n ≤ 12) : X 145 0 [.ref m, .int (nI t), .null, .null] [] σ K = K (some (.int (fold (fun a k => if a < vE (ks μ) t k then vE (ks μ) t k else a) n 0 0))) σ := by
  have q := l145 (K := K) h ht hn hb n 0 0 (by omega) (by omega)
  rw [nI_0] at q
  simp only [x145_0, x145_1, x145_2, x145_3, pushO, List.length_cons, List.length_nil, Nat.reduceAdd, Nat.reduceLeDiff, Nat.le_refl, Nat.zero_le, isD_i, isD_r, isD_l, isD_n, if_true, if_false, ite_true, ite_false, reduceIte, q]
theorem e146 {s w : Int32} {K : Option Value → Hp → Prop} {m : Nat} {μ : ModM} {σ : Hp} (h : modAt m μ σ) {n N : Nat → Nat} {S : Nat} (hv : ∀ t, t < 2 → rvOK (ks μ) t (n t) (N t) S) : X 146 0 [.ref m, .int s, .int w] [] σ K = K (some (.int (f87 (vB (ks μ) n N S) s w))) σ := by
  unfold f87
  cases hs : isSt s
  · rw [if_neg Bool.false_ne_true]
    simp only [x146_0, x146_1, x146_2, x146_5, x146_6, x146_9, x146_12, x146_13, x146_14, x146_15, x146_56, x146_57, x146_58, x146_59, x146_62, x146_63, x146_64, x146_65, x146_66, x146_69, x146_70, x146_71, x146_72, x146_74, x146_77, x146_78, x146_79, x146_80, x146_83, x146_84, x146_85, x146_86, x146_89, x146_90, x146_91, x146_92, x146_95, x146_96, x146_97, x146_98, x146_99, x146_102, x146_103, x146_105, pushO, List.length_cons, List.length_nil, Nat.reduceAdd, Nat.reduceLeDiff, Nat.le_refl, Nat.zero_le, isD_i, isD_r, isD_l, isD_n, if_true, if_false, ite_true, ite_false, reduceIte, mdF h, mdP0s h, e111, hs, bI_f]
  · rw [if_pos rfl]
    obtain ⟨t, ht, rfl⟩ := st_cases hs
    have o := hv t ht
    obtain ⟨o1, o2, o3, o4, o5, o6, o7, o8⟩ := hv t ht
    have q0 := fun K => e113 (K := K) h ht (show 0 < 160 by omega)
    have q1 := fun K => e113 (K := K) h ht (show 1 < 160 by omega)
    have q2 := fun K => e113 (K := K) h ht (show 2 < 160 by omega)
    have q3 := fun K => e113 (K := K) h ht (show 39 < 160 by omega)
    rw [nI_0] at q0
    rw [← L1] at q1
    rw [← L2] at q2
    rw [← L39] at q3
    rw [stOf_vB ht]
    show _ = K (some (.int (if w = 0 then gt (ks μ) t 0 else if w = 1 then nI (n t) else if w = 2 then nI (N t) else if w = 3 then mwsR (vC (ks μ) t) S (n t) else if w = 4 then fold (fun a k => a + vC (ks μ) t k) (n t) 0 0 else if w = 5 then fold (fun a k => if a < vE (ks μ) t k then vE (ks μ) t k else a) (n t) 0 0 else if w = 6 then gt (ks μ) t 2 else -2))) σ
    simp only [x146_0, x146_1, x146_2, x146_5, x146_6, x146_9, x146_12, x146_13, x146_14, x146_15, pushO, List.length_cons, List.length_nil, Nat.reduceAdd, Nat.reduceLeDiff, Nat.le_refl, Nat.zero_le, isD_i, isD_r, isD_l, isD_n, if_true, if_false, ite_true, ite_false, reduceIte, mdF h, mdP0s h, e111, hs, bI_t, i1_ne]
    simp only [x146_56, x146_57, x146_58, x146_59, x146_62, x146_63, x146_64, x146_65, x146_66, x146_69, x146_70, x146_71, x146_72, x146_74, x146_77, x146_78, x146_79, x146_80, x146_83, x146_84, x146_85, x146_86, x146_89, x146_90, x146_91, x146_92, x146_95, x146_96, x146_97, x146_98, x146_99, x146_102, x146_103, x146_105, pushO, List.length_cons, List.length_nil, Nat.reduceAdd, Nat.reduceLeDiff, Nat.le_refl, Nat.zero_le, isD_i, isD_r, isD_l, isD_n, if_true, if_false, ite_true, ite_false, reduceIte, mdF h, q0, q1, q2, q3, o1, o6, e123 h ht o, e144 h ht o1 (by omega), e145 h ht o1 (by omega)]
    split
    · rfl
    split
    · rfl
    split
    · rfl
    split
    · rfl
    split
    · rfl
    split
    · rfl
    split
    · rfl
    rfl
theorem e143 {s y w : Int32} {K : Option Value → Hp → Prop} {m : Nat} {μ : ModM} {σ : Hp} (h : modAt m μ σ) {n N : Nat → Nat} {S : Nat} (hv : ∀ t, t < 2 → rvOK (ks μ) t (n t) (N t) S) : X 143 0 [.ref m, .int s, .int y, .int w] [] σ K = K (some (.int (f86 (vB (ks μ) n N S) s y w))) σ := by
  unfold f86 errA
  have z1 : ¬ (-1 : Int32) = 0 := by decide +kernel
  have z2 : ¬ (-2 : Int32) = 0 := by decide +kernel
  cases hs : isSt s
  · rw [if_neg Bool.false_ne_true, if_neg z1]
    simp only [x143_0, x143_1, x143_2, x143_5, x143_6, x143_9, x143_12, x143_13, x143_14, x143_15, x143_18, x143_21, x143_23, x143_24, x143_25, x143_60, x143_61, x143_62, x143_63, x143_66, x143_67, x143_68, x143_69, x143_70, x143_73, x143_74, x143_75, x143_76, x143_77, x143_80, x143_81, x143_82, x143_83, x143_84, x143_87, x143_88, x143_89, x143_92, x143_93, x143_95, pushO, List.length_cons, List.length_nil, Nat.reduceAdd, Nat.reduceLeDiff, Nat.le_refl, Nat.zero_le, isD_i, isD_r, isD_l, isD_n, if_true, if_false, ite_true, ite_false, reduceIte, mdF h, mdP0s h, e111, hs, bI_f]
  · rw [if_pos rfl]
    cases hc : isCd y
    · rw [if_neg Bool.false_ne_true, if_neg z2]
      simp only [x143_0, x143_1, x143_2, x143_5, x143_6, x143_9, x143_12, x143_13, x143_14, x143_15, x143_18, x143_21, x143_23, x143_24, x143_25, x143_60, x143_61, x143_62, x143_63, x143_66, x143_67, x143_68, x143_69, x143_70, x143_73, x143_74, x143_75, x143_76, x143_77, x143_80, x143_81, x143_82, x143_83, x143_84, x143_87, x143_88, x143_89, x143_92, x143_93, x143_95, pushO, List.length_cons, List.length_nil, Nat.reduceAdd, Nat.reduceLeDiff, Nat.le_refl, Nat.zero_le, isD_i, isD_r, isD_l, isD_n, if_true, if_false, ite_true, ite_false, reduceIte, mdF h, mdP0s h, e111, hs, bI_t, i1_ne, e112, hc, bI_f]
    · rw [if_pos rfl, if_pos rfl]
      obtain ⟨t, ht, rfl⟩ := st_cases hs
      have o := hv t ht
      obtain ⟨o1, o2, o3, o4, o5, o6, o7, o8⟩ := hv t ht
      rw [stOf_vB ht]
      show _ = K (some (.int (if w = 0 then seatOfR (vG (ks μ) t) (n t) y else if w = 1 then mostR (vG (ks μ) t) (vC (ks μ) t) S (n t) y else if w = 2 then leastAtR (vC (ks μ) t) (vE (ks μ) t) (n t) (seatOfR (vG (ks μ) t) (n t) y) else if w = 3 then at_ (vD (ks μ) t) (N t) (seatOfR (vH (ks μ) t) (N t) y) else if w = 4 then nI (letS y) else -2))) σ
      simp only [x143_0, x143_1, x143_2, x143_5, x143_6, x143_9, x143_12, x143_13, x143_14, x143_15, x143_18, x143_21, x143_23, x143_24, x143_25, pushO, List.length_cons, List.length_nil, Nat.reduceAdd, Nat.reduceLeDiff, Nat.le_refl, Nat.zero_le, isD_i, isD_r, isD_l, isD_n, if_true, if_false, ite_true, ite_false, reduceIte, mdF h, mdP0s h, e111, hs, bI_t, i1_ne, e112, hc]
      simp only [x143_60, x143_61, x143_62, x143_63, x143_66, x143_67, x143_68, x143_69, x143_70, x143_73, x143_74, x143_75, x143_76, x143_77, x143_80, x143_81, x143_82, x143_83, x143_84, x143_87, x143_88, x143_89, x143_92, x143_93, x143_95, pushO, List.length_cons, List.length_nil, Nat.reduceAdd, Nat.reduceLeDiff, Nat.le_refl, Nat.zero_le, isD_i, isD_r, isD_l, isD_n, if_true, if_false, ite_true, ite_false, reduceIte, mdF h, e119 h ht o1 (show n t ≤ 12 by omega), e124 h ht o, e125 h ht o, e127 h ht o6 o7, e142 hc]
      split
      · rfl
      split
      · rfl
      split
      · rfl
      split
      · rfl
      split
      · rfl
      rfl
theorem e147 {w : Int32} {K : Option Value → Hp → Prop} {m : Nat} {μ : ModM} {σ : Hp} (h : modAt m μ σ) {n N : Nat → Nat} {S : Nat} (hv : ∀ t, t < 2 → rvOK (ks μ) t (n t) (N t) S) : X 147 0 [.ref m, .int w] [] σ K = K (some (.int (f88 (vB (ks μ) n N S) (kum μ) (kp μ, kpn μ) w))) σ := by
  unfold f88
  obtain ⟨o1, o2, o3, o4, o5, o6, o7, o8⟩ := hv 0 (by omega)
  have i0 : inB 0 321 = true := by decide +kernel
  have z0 : (0 : Int32).toNatClampNeg = 0 := by decide +kernel
  show _ = K (some (.int (if w = 0 then nI S else if w = 1 then nI (kpn μ) else if w = 2 then nI (kum μ) else -2))) σ
  simp only [x147_0, x147_1, x147_2, x147_5, x147_6, x147_32, x147_33, x147_36, x147_37, x147_38, x147_39, x147_40, x147_43, x147_44, x147_45, x147_48, x147_49, x147_51, pushO, List.length_cons, List.length_nil, Nat.reduceAdd, Nat.reduceLeDiff, Nat.le_refl, Nat.zero_le, isD_i, isD_r, isD_l, isD_n, if_true, if_false, ite_true, ite_false, reduceIte, mdF h, mdP0s h, i0, z0, o5]
  split
  · rfl
  split
  · rfl
  split
  · rfl
  rfl
