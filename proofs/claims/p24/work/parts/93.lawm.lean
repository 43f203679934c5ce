/-! the law's own methods: numbers, the digest -/
theorem ks_F {b L : Nat} {xs : Nat → Int32} {σ : Hp} (h : KS b L xs σ) : okL σ b = true ∧ gL σ b = nI L ∧ (∀ i, okA σ 0 b i = inB i L) ∧ (∀ i, gA σ b i = xs i.toNatClampNeg) := by
  refine ⟨?_, ?_, fun i => ?_, fun i => ?_⟩
  · unfold okL
    rw [h.2]
  · unfold gL
    rw [h.2]
  · unfold okA
    rw [h.2]
    rfl
  · unfold gA
    rw [h.2]
def celV (L : Nat) (xs : Nat → Int32) (k : Nat) : Int32 := if k < L then xs k else 7919 * (nI k + 3) * (nI k + 11)
theorem e109 {b L k : Nat} {xs : Nat → Int32} {σ : Hp} {K : Option Value → Hp → Prop} (h : KS b L xs σ) (hL : L < 2 ^ 31) (hk : k < 2 ^ 31) : X 109 0 [.ref b, .int (nI k)] [] σ K = K (some (.int (celV L xs k))) σ := by
  unfold celV
  have f0 := ks_F h
  by_cases h1 : k < L
  · have h2 : inB (nI k) L = true := inB_nI h1 hL
    simp only [x109_0, x109_1, x109_2, x109_3, x109_6, x109_7, x109_8, x109_9, x109_12, x109_15, x109_16, x109_17, x109_18, x109_19, x109_20, x109_22, x109_23, x109_24, pushO, List.length_cons, List.length_nil, Nat.reduceAdd, Nat.reduceLeDiff, Nat.le_refl, Nat.zero_le, isD_i, isD_r, isD_l, isD_n, if_true, if_false, ite_true, ite_false, reduceIte, f0, nI_lt_iff hk hL, h1, h2, nI_clamp hk]
  · simp only [x109_0, x109_1, x109_2, x109_3, x109_6, x109_7, x109_8, x109_9, x109_12, x109_15, x109_16, x109_17, x109_18, x109_19, x109_20, x109_22, x109_23, x109_24, pushO, List.length_cons, List.length_nil, Nat.reduceAdd, Nat.reduceLeDiff, Nat.le_refl, Nat.zero_le, isD_i, isD_r, isD_l, isD_n, if_true, if_false, ite_true, ite_false, reduceIte, f0, nI_lt_iff hk hL, h1]
theorem e110 {v n : Int32} {σ : Hp} {K : Option Value → Hp → Prop} (hn : ¬ n = 0) : X 110 0 [.int v, .int n] [] σ K = K (some (.int (lowV v n))) σ := by
  simp only [x110_0, x110_1, x110_3, x110_4, x110_5, x110_6, pushO, List.length_cons, List.length_nil, Nat.reduceAdd, Nat.reduceLeDiff, Nat.le_refl, Nat.zero_le, isD_i, isD_r, isD_l, isD_n, if_true, if_false, ite_true, ite_false, reduceIte, hn, not_false_eq_true, lowV]
theorem n40 : ¬ (40 : Int32) = 0 := by decide
theorem n14 : ¬ (14 : Int32) = 0 := by decide
theorem n3 : ¬ (3 : Int32) = 0 := by decide
theorem n1001 : ¬ (1001 : Int32) = 0 := by decide
theorem n9 : ¬ (9 : Int32) = 0 := by decide
theorem e111 {v : Int32} {σ : Hp} {K : Option Value → Hp → Prop} : X 111 0 [.int v] [] σ K = K (some (.int (gstV v))) σ := by
  unfold gstV
  by_cases h1 : (v >>> ((20 : Int32) &&& 31)) &&& 7 = 0
  · simp only [x111_0, x111_1, x111_3, x111_4, x111_6, x111_7, x111_10, x111_12, x111_13, x111_15, x111_18, x111_19, x111_22, x111_23, x111_24, x111_26, x111_29, x111_30, pushO, List.length_cons, List.length_nil, Nat.reduceAdd, Nat.reduceLeDiff, Nat.le_refl, Nat.zero_le, isD_i, isD_r, isD_l, isD_n, if_true, if_false, ite_true, ite_false, reduceIte, e110 n40, h1]
  · simp only [x111_0, x111_1, x111_3, x111_4, x111_6, x111_7, x111_10, x111_12, x111_13, x111_15, x111_18, x111_19, x111_22, x111_23, x111_24, x111_26, x111_29, x111_30, pushO, List.length_cons, List.length_nil, Nat.reduceAdd, Nat.reduceLeDiff, Nat.le_refl, Nat.zero_le, isD_i, isD_r, isD_l, isD_n, if_true, if_false, ite_true, ite_false, reduceIte, e110 n14, h1]
/-- the digest -/
def dgA (A : StaM) (s : Int32) (h : Int64) : Int64 := fold (fun h k => 31 * h + (f87 A s (nI k)).toInt64) 7 0 h
def dgR (A : StaM) (s i : Int32) (h : Int64) : Int64 := fold (fun h k => 31 * h + (f85 A s i (nI k)).toInt64) 4 0 h
def dgB (A : StaM) (s : Int32) (h : Int64) : Int64 := fold (fun h k => dgR A s (nI k) h) 12 0 h
def dgC (A : StaM) (s : Int32) (n : Nat) (h : Int64) : Int64 := fold (fun h k => 31 * (31 * h + (f91 A s (nI k)).toInt64) + (f86 A s (f91 A s (nI k)) 3).toInt64) n 0 h
def dgS (A : StaM) (h : Int64) (t : Nat) : Int64 := dgC A (nI t) (tN (sT (stOf A (nI t)))) (dgB A (nI t) (dgA A (nI t) h))
def dig (A : StaM) : Int64 := fold (dgS A) 2 0 (nI (rS (sR (aZ A)))).toInt64
theorem l112a {s : Int32} {l5 : Value} {K : Option Value → Hp → Prop} {x : Nat} {A : StaM} {pm : Nat → Nat} {sz : Nat} {S L : Nat → StaM} {u : Nat → Bool} {P : PadM} {O : OrdM} {J : RowM} {nn : Nat × Nat} {σ : Hp} (h : Sys x A pm sz S L u P O J nn σ) (ho : okSa A) : ∀ (n k : Nat) (g : Int64), k + n = 7 → X 112 17 [.ref x, .long g, .double 0, .int s, .int (nI k), l5] [] σ K = X 112 45 [.ref x, .long (fold (fun h k => 31 * h + (f87 A s (nI k)).toInt64) n k g), .double 0, .int s, .int (nI 7), l5] [] σ K := by
  have f0 := sysF h
  intro n
  induction n with
  | zero =>
    intro k g hk
    have hk' : k = 7 := by omega
    subst hk'
    have h1 : ¬ nI 7 < 7 := by decide
    rw [x112_17]
    simp only [x112_19, x112_21, x112_24, x112_27, x112_28, x112_29, x112_30, x112_31, x112_33, x112_36, x112_37, x112_38, x112_39, x112_42, pushO, List.length_cons, List.length_nil, Nat.reduceAdd, Nat.reduceLeDiff, Nat.le_refl, Nat.zero_le, isD_i, isD_r, isD_l, isD_n, if_true, if_false, ite_true, ite_false, reduceIte, h1, fold]
  | succ n ih =>
    intro k g hk
    have h1 : nI k < 7 := by rw [show (7 : Int32) = nI 7 by decide +kernel]; exact nI_lt (by omega) (by omega)
    rw [x112_17]
    simp only [x112_19, x112_21, x112_24, x112_27, x112_28, x112_29, x112_30, x112_31, x112_33, x112_36, x112_37, x112_38, x112_39, x112_42, pushO, List.length_cons, List.length_nil, Nat.reduceAdd, Nat.reduceLeDiff, Nat.le_refl, Nat.zero_le, isD_i, isD_r, isD_l, isD_n, if_true, if_false, ite_true, ite_false, reduceIte, h1, f0, e87 h ho, fold, ← nI_succ]
    exact ih (k + 1) _ (by omega)
theorem l112r {s i : Int32} {K : Option Value → Hp → Prop} {x : Nat} {A : StaM} {pm : Nat → Nat} {sz : Nat} {S L : Nat → StaM} {u : Nat → Bool} {P : PadM} {O : OrdM} {J : RowM} {nn : Nat × Nat} {σ : Hp} (h : Sys x A pm sz S L u P O J nn σ) (ho : okSa A) : ∀ (n k : Nat) (g : Int64), k + n = 4 → X 112 58 [.ref x, .long g, .double 0, .int s, .int i, .int (nI k)] [] σ K = X 112 87 [.ref x, .long (fold (fun h k => 31 * h + (f85 A s i (nI k)).toInt64) n k g), .double 0, .int s, .int i, .int (nI 4)] [] σ K := by
  have f0 := sysF h
  intro n
  induction n with
  | zero =>
    intro k g hk
    have hk' : k = 4 := by omega
    subst hk'
    have h1 : ¬ nI 4 < 4 := by decide
    rw [x112_58]
    simp only [x112_60, x112_61, x112_64, x112_67, x112_68, x112_69, x112_70, x112_71, x112_73, x112_75, x112_78, x112_79, x112_80, x112_81, x112_84, pushO, List.length_cons, List.length_nil, Nat.reduceAdd, Nat.reduceLeDiff, Nat.le_refl, Nat.zero_le, isD_i, isD_r, isD_l, isD_n, if_true, if_false, ite_true, ite_false, reduceIte, h1, fold]
  | succ n ih =>
    intro k g hk
    have h1 : nI k < 4 := by rw [show (4 : Int32) = nI 4 by decide +kernel]; exact nI_lt (by omega) (by omega)
    rw [x112_58]
    simp only [x112_60, x112_61, x112_64, x112_67, x112_68, x112_69, x112_70, x112_71, x112_73, x112_75, x112_78, x112_79, x112_80, x112_81, x112_84, pushO, List.length_cons, List.length_nil, Nat.reduceAdd, Nat.reduceLeDiff, Nat.le_refl, Nat.zero_le, isD_i, isD_r, isD_l, isD_n, if_true, if_false, ite_true, ite_false, reduceIte, h1, f0, e85 h ho, fold, ← nI_succ]
    exact ih (k + 1) _ (by omega)
theorem l112b {s : Int32} {K : Option Value → Hp → Prop} {R : Int64 → Prop} {x : Nat} {A : StaM} {pm : Nat → Nat} {sz : Nat} {S L : Nat → StaM} {u : Nat → Bool} {P : PadM} {O : OrdM} {J : RowM} {nn : Nat × Nat} {σ : Hp} (h : Sys x A pm sz S L u P O J nn σ) (ho : okSa A) (hR : ∀ (g : Int64) (l5 : Value), isD l5 = false → X 112 93 [.ref x, .long g, .double 0, .int s, .int (nI 12), l5] [] σ K = R g) : ∀ (n k : Nat) (g : Int64) (l5 : Value), isD l5 = false → k + n = 12 → X 112 48 [.ref x, .long g, .double 0, .int s, .int (nI k), l5] [] σ K = R (fold (fun h k => dgR A s (nI k) h) n k g) := by
  have f0 := sysF h
  intro n
  induction n with
  | zero =>
    intro k g l5 hl hk
    have hk' : k = 12 := by omega
    subst hk'
    have h1 : ¬ nI 12 < 12 := by decide
    rw [x112_48]
    simp only [x112_50, x112_52, pushO, List.length_cons, List.length_nil, Nat.reduceAdd, Nat.reduceLeDiff, Nat.le_refl, Nat.zero_le, isD_i, isD_r, isD_l, isD_n, if_true, if_false, ite_true, ite_false, reduceIte, h1, fold]
    exact hR _ _ hl
  | succ n ih =>
    intro k g l5 hl hk
    have h1 : nI k < 12 := by rw [show (12 : Int32) = nI 12 by decide +kernel]; exact nI_lt (by omega) (by omega)
    have q := l112r (s := s) (i := nI k) (K := K) h ho 4 0 g rfl
    rw [nI_0] at q
    rw [x112_48]
    simp only [x112_50, x112_52, x112_55, x112_56, pushO, List.length_cons, List.length_nil, Nat.reduceAdd, Nat.reduceLeDiff, Nat.le_refl, Nat.zero_le, isD_i, isD_r, isD_l, isD_n, if_true, if_false, ite_true, ite_false, reduceIte, h1, hl, q]
    simp only [x112_87, x112_90, pushO, List.length_cons, List.length_nil, Nat.reduceAdd, Nat.reduceLeDiff, Nat.le_refl, Nat.zero_le, isD_i, isD_r, isD_l, isD_n, if_true, if_false, ite_true, ite_false, reduceIte, fold, ← nI_succ]
    exact ih (k + 1) _ _ (isD_i _) (by omega)
theorem l112c {s : Int32} {l5 : Value} {K : Option Value → Hp → Prop} {x : Nat} {A : StaM} {pm : Nat → Nat} {sz : Nat} {S L : Nat → StaM} {u : Nat → Bool} {P : PadM} {O : OrdM} {J : RowM} {nn : Nat × Nat} {σ : Hp} (h : Sys x A pm sz S L u P O J nn σ) (ho : okSa A) (hs : isSt s = true) (hn : tN (sT (stOf A s)) < 2 ^ 31) : ∀ (n k : Nat) (g : Int64), k + n = tN (sT (stOf A s)) → X 112 96 [.ref x, .long g, .double 0, .int s, .int (nI k), l5] [] σ K = X 112 147 [.ref x, .long (fold (fun h k => 31 * (31 * h + (f91 A s (nI k)).toInt64) + (f86 A s (f91 A s (nI k)) 3).toInt64) n k g), .double 0, .int s, .int (nI (tN (sT (stOf A s)))), l5] [] σ K := by
  have f0 := sysF h
  intro n
  induction n with
  | zero =>
    intro k g hk
    have h1 : ¬ nI k < nI (tN (sT (stOf A s))) := nI_nlt (by omega) (by omega)
    have hk' : k = tN (sT (stOf A s)) := by omega
    rw [x112_96]
    simp only [x112_98, x112_99, x112_100, x112_101, x112_104, pushO, List.length_cons, List.length_nil, Nat.reduceAdd, Nat.reduceLeDiff, Nat.le_refl, Nat.zero_le, isD_i, isD_r, isD_l, isD_n, if_true, if_false, ite_true, ite_false, reduceIte, f0, e87 h ho, v872 hs, h1, fold, hk', Int32.lt_irrefl]
  | succ n ih =>
    intro k g hk
    have h1 : nI k < nI (tN (sT (stOf A s))) := nI_lt (by omega) (by omega)
    rw [x112_96]
    simp only [x112_98, x112_99, x112_100, x112_101, x112_104, x112_107, x112_110, x112_113, x112_114, x112_115, x112_116, x112_117, x112_119, x112_122, x112_123, x112_124, x112_125, x112_126, x112_127, x112_128, x112_129, x112_131, x112_134, x112_135, x112_138, x112_139, x112_140, x112_141, x112_144, pushO, List.length_cons, List.length_nil, Nat.reduceAdd, Nat.reduceLeDiff, Nat.le_refl, Nat.zero_le, isD_i, isD_r, isD_l, isD_n, if_true, if_false, ite_true, ite_false, reduceIte, f0, e87 h ho, v872 hs, h1, e91 h ho, e86 h ho, fold, ← nI_succ]
    exact ih (k + 1) _ (by omega)
theorem st_nI {t : Nat} (h : t < 2) : isSt (nI t) = true := by
  have : t = 0 ∨ t = 1 := by omega
  rcases this with rfl | rfl <;> decide +kernel
theorem l112 {K : Option Value → Hp → Prop} {x : Nat} {A : StaM} {pm : Nat → Nat} {sz : Nat} {S L : Nat → StaM} {u : Nat → Bool} {P : PadM} {O : OrdM} {J : RowM} {nn : Nat × Nat} {σ : Hp} (h : Sys x A pm sz S L u P O J nn σ) (ho : okSa A) : ∀ (n t : Nat) (g : Int64) (l4 l5 : Value), isD l4 = false → isD l5 = false → t + n = 2 → X 112 9 [.ref x, .long g, .double 0, .int (nI t), l4, l5] [] σ K = K (some (.long (fold (dgS A) n t g))) σ := by
  have f0 := sysF h
  intro n
  induction n with
  | zero =>
    intro t g l4 l5 h4 h5 ht
    have ht' : t = 2 := by omega
    subst ht'
    have h1 : ¬ nI 2 < 2 := by decide
    rw [x112_9]
    simp only [x112_10, x112_11, x112_153, x112_154, pushO, List.length_cons, List.length_nil, Nat.reduceAdd, Nat.reduceLeDiff, Nat.le_refl, Nat.zero_le, isD_i, isD_r, isD_l, isD_n, if_true, if_false, ite_true, ite_false, reduceIte, h1, fold]
  | succ n ih =>
    intro t g l4 l5 h4 h5 ht
    have h1 : nI t < 2 := by rw [L2]; exact nI_lt (by omega) (by omega)
    have hs := st_nI (t := t) (by omega)
    have hN := (okSt_of ho (nI t)).2.2.2
    have qa := l112a (s := nI t) (l5 := l5) (K := K) h ho 7 0 g rfl
    have qc := fun (g : Int64) (l5 : Value) => l112c (s := nI t) (l5 := l5) (K := K) h ho hs (by omega) (tN (sT (stOf A (nI t)))) 0 g (by omega)
    have qb := l112b (s := nI t) (K := K) (R := fun g => K (some (.long (fold (dgS A) n (t + 1) (dgC A (nI t) (tN (sT (stOf A (nI t)))) g)))) σ) h ho (fun g l5 hl => by
      have q := qc g l5
      rw [nI_0] at q
      simp only [x112_93, x112_94, pushO, List.length_cons, List.length_nil, Nat.reduceAdd, Nat.reduceLeDiff, Nat.le_refl, Nat.zero_le, isD_i, isD_r, isD_l, isD_n, if_true, if_false, ite_true, ite_false, reduceIte, q]
      simp only [x112_147, x112_150, pushO, List.length_cons, List.length_nil, Nat.reduceAdd, Nat.reduceLeDiff, Nat.le_refl, Nat.zero_le, isD_i, isD_r, isD_l, isD_n, if_true, if_false, ite_true, ite_false, reduceIte, ← nI_succ]
      exact ih (t + 1) _ _ _ (isD_i _) hl (by omega)) 12 0
    rw [nI_0] at qa qb
    rw [x112_9]
    simp only [x112_10, x112_11, x112_14, x112_15, pushO, List.length_cons, List.length_nil, Nat.reduceAdd, Nat.reduceLeDiff, Nat.le_refl, Nat.zero_le, isD_i, isD_r, isD_l, isD_n, if_true, if_false, ite_true, ite_false, reduceIte, h1, h4, qa]
    simp only [x112_45, x112_46, pushO, List.length_cons, List.length_nil, Nat.reduceAdd, Nat.reduceLeDiff, Nat.le_refl, Nat.zero_le, isD_i, isD_r, isD_l, isD_n, if_true, if_false, ite_true, ite_false, reduceIte]
    exact qb _ _ h5 rfl
theorem e112 {K : Option Value → Hp → Prop} {x : Nat} {A : StaM} {pm : Nat → Nat} {sz : Nat} {S L : Nat → StaM} {u : Nat → Bool} {P : PadM} {O : OrdM} {J : RowM} {nn : Nat × Nat} {σ : Hp} (h : Sys x A pm sz S L u P O J nn σ) (ho : okSa A) : X 112 0 [.ref x, .null, .null, .null, .null, .null] [] σ K = K (some (.long (dig A))) σ := by
  have f0 := sysF h
  have q := l112 (K := K) h ho 2 0 (nI (rS (sR (aZ A)))).toInt64 .null .null isD_n isD_n rfl
  rw [nI_0] at q
  simp only [x112_0, x112_1, x112_2, x112_5, x112_6, x112_7, x112_8, pushO, List.length_cons, List.length_nil, Nat.reduceAdd, Nat.reduceLeDiff, Nat.le_refl, Nat.zero_le, isD_i, isD_r, isD_l, isD_n, if_true, if_false, ite_true, ite_false, reduceIte, f0, e88 h ho, v880, q]
  rfl
