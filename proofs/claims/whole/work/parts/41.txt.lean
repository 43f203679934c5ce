/-! texts: put, fault, carryOut -/
def sgF (z : Int64) : Int32 := (z &&& 255).toInt32
def shF8 (z : Int64) (b : Int32) : Int64 := (z.toUInt64 >>> (b.toInt64.toUInt64 &&& Int64.toUInt64 63)).toInt64
def numS : Nat → Int64 → Nat → Nat
  | 0, _, a => a
  | n + 1, z, a => if lg_cmp z 0 = 0 then a else if sgF z < 33 then 0 else if 126 < sgF z then 0 else numS n (shF8 z 8) (a + 1)
theorem nI_8 : (8 : Int32) = nI 8 := by decide +kernel
theorem l107 {z0 : Int64} {σ : Hp} {K : Option Value → Hp → Prop} : ∀ (n i : Nat) (z : Int64) (a : Nat) (w : Value), isD w = false → 8 - i = n → i ≤ 8 → X 107 7 [.long z0, .double 0, .int (nI a), .long z, .double 0, .int (nI i), w] [] σ K = K (some (.int (nI (numS n z a)))) σ := by
  intro n
  induction n with
  | zero =>
    intro i z a w hw hn hi
    have h1 : ¬ nI i < nI 8 := nI_nlt (by omega) (by omega)
    rw [x107_7]
    simp only [x107_9, x107_11, x107_14, x107_15, x107_16, x107_17, x107_20, x107_21, x107_24, x107_25, x107_26, x107_28, x107_30, x107_32, x107_35, x107_37, x107_39, x107_42, x107_43, x107_44, x107_45, x107_47, x107_48, x107_49, x107_52, x107_55, x107_58, x107_59, pushO, List.length_cons, List.length_nil, Nat.reduceAdd, Nat.reduceLeDiff, Nat.le_refl, Nat.zero_le, isD_i, isD_r, isD_l, isD_n, if_true, if_false, ite_true, ite_false, reduceIte, nI_8, h1, numS]
  | succ n ih =>
    intro i z a w hw hn hi
    have h1 : nI i < 8 := by rw [nI_8]; exact nI_lt (by omega) (by omega)
    rw [x107_7]
    by_cases h2 : lg_cmp z 0 = 0
    · simp only [x107_9, x107_11, x107_14, x107_15, x107_16, x107_17, x107_20, x107_21, x107_24, x107_25, x107_26, x107_28, x107_30, x107_32, x107_35, x107_37, x107_39, x107_42, x107_43, x107_44, x107_45, x107_47, x107_48, x107_49, x107_52, x107_55, x107_58, x107_59, pushO, List.length_cons, List.length_nil, Nat.reduceAdd, Nat.reduceLeDiff, Nat.le_refl, Nat.zero_le, isD_i, isD_r, isD_l, isD_n, if_true, if_false, ite_true, ite_false, reduceIte, h1, h2, numS]
    · by_cases h3 : (z &&& 255).toInt32 < 33
      · simp only [x107_9, x107_11, x107_14, x107_15, x107_16, x107_17, x107_20, x107_21, x107_24, x107_25, x107_26, x107_28, x107_30, x107_32, x107_35, x107_37, x107_39, x107_42, x107_43, x107_44, x107_45, x107_47, x107_48, x107_49, x107_52, x107_55, x107_58, x107_59, pushO, List.length_cons, List.length_nil, Nat.reduceAdd, Nat.reduceLeDiff, Nat.le_refl, Nat.zero_le, isD_i, isD_r, isD_l, isD_n, if_true, if_false, ite_true, ite_false, reduceIte, hw, h1, h2, h3, numS, sgF, nI_0]
      · by_cases h4 : 126 < (z &&& 255).toInt32
        · simp only [x107_9, x107_11, x107_14, x107_15, x107_16, x107_17, x107_20, x107_21, x107_24, x107_25, x107_26, x107_28, x107_30, x107_32, x107_35, x107_37, x107_39, x107_42, x107_43, x107_44, x107_45, x107_47, x107_48, x107_49, x107_52, x107_55, x107_58, x107_59, pushO, List.length_cons, List.length_nil, Nat.reduceAdd, Nat.reduceLeDiff, Nat.le_refl, Nat.zero_le, isD_i, isD_r, isD_l, isD_n, if_true, if_false, ite_true, ite_false, reduceIte, hw, h1, h2, h3, h4, numS, sgF, nI_0]
        · simp only [x107_9, x107_11, x107_14, x107_15, x107_16, x107_17, x107_20, x107_21, x107_24, x107_25, x107_26, x107_28, x107_30, x107_32, x107_35, x107_37, x107_39, x107_42, x107_43, x107_44, x107_45, x107_47, x107_48, x107_49, x107_52, x107_55, x107_58, x107_59, pushO, List.length_cons, List.length_nil, Nat.reduceAdd, Nat.reduceLeDiff, Nat.le_refl, Nat.zero_le, isD_i, isD_r, isD_l, isD_n, if_true, if_false, ite_true, ite_false, reduceIte, hw, h1, h2, h3, h4, numS, sgF, ← nI_succ]
          exact ih (i + 1) _ _ _ (isD_i _) (by omega) (by omega)
theorem e107 {z : Int64} {σ : Hp} {K : Option Value → Hp → Prop} : X 107 0 [.long z, .double 0, .null, .null, .null, .null, .null] [] σ K = K (some (.int (nI (numS 8 z 0)))) σ := by
  simp only [x107_0, x107_1, x107_2, x107_3, x107_4, x107_5, pushO, List.length_cons, List.length_nil, Nat.reduceAdd, Nat.reduceLeDiff, Nat.le_refl, Nat.zero_le, isD_i, isD_r, isD_l, isD_n, if_true, if_false, ite_true, ite_false, reduceIte]
  exact l107 8 0 z 0 .null isD_n rfl (by omega)
theorem numS_le : ∀ (n : Nat) (z : Int64) (a : Nat), numS n z a ≤ a + n
  | 0, _, _ => Nat.le_refl _
  | n + 1, z, a => by
    unfold numS
    by_cases h2 : lg_cmp z 0 = 0
    · rw [if_pos h2]; omega
    · rw [if_neg h2]
      by_cases h3 : sgF z < 33
      · rw [if_pos h3]; omega
      · rw [if_neg h3]
        by_cases h4 : 126 < sgF z
        · rw [if_pos h4]; omega
        · rw [if_neg h4]
          have := numS_le n (shF8 z 8) (a + 1)
          omega
/-- the character that lies b bytes up -/
def chF (z : Int64) (b : Nat) : Int32 := (shF8 z (8 * nI b)).toInt32 &&& 255
def putF (z : Int64) : Nat → PadM → PadM
  | 0, P => P
  | b + 1, P => putF z b (upd P.1 P.2 (chF z b), P.2 + 1)
theorem putF_2 {z : Int64} : ∀ (b : Nat) (P : PadM), (putF z b P).2 = P.2 + b
  | 0, _ => rfl
  | b + 1, P => by
    unfold putF
    rw [putF_2 b]
    show P.2 + 1 + b = _
    omega
theorem l95 {z : Int64} {x : Nat} {A : StaM} {pm : Nat → Nat} {sz : Nat} {S L : Nat → StaM} {u : Nat → Bool} {O : OrdM} {J : RowM} {μ : ModM} {nn : Nat × Nat} {w3 : Int32} : ∀ (b : Nat) (P : PadM) (σ : Hp), Sys x A pm sz S L u P O J μ nn σ → P.2 + b ≤ 80 → ∃ σ', Sys x A pm sz S L u (putF z b P) O J μ nn σ' ∧ ∀ K, X 95 34 [.ref x, .long z, .double 0, .int w3, .int (nI b - 1)] [] σ K = X 95 64 [.ref x, .long z, .double 0, .int w3, .int (-1)] [] σ' K := by
  intro b
  induction b with
  | zero =>
    intro P σ h hb
    refine ⟨σ, h, fun K => ?_⟩
    have e1 : nI 0 - 1 = -1 := by decide +kernel
    have n1 : (-1 : Int32) < 0 := by decide +kernel
    rw [x95_34, e1]
    simp only [x95_36, x95_39, x95_40, x95_43, x95_44, x95_46, x95_48, x95_49, x95_50, x95_51, x95_54, x95_55, x95_58, x95_61, pushO, List.length_cons, List.length_nil, Nat.reduceAdd, Nat.reduceLeDiff, Nat.le_refl, Nat.zero_le, isD_i, isD_r, isD_l, isD_n, if_true, if_false, ite_true, ite_false, reduceIte, n1]
  | succ b ih =>
    intro P σ h hb
    obtain ⟨p, n⟩ := P
    have hb' : n + (b + 1) ≤ 80 := hb
    have h1 := sysP h (P2 := (upd p n (chF z b), n + 1)) (by show n + 1 ≤ 80; omega)
    obtain ⟨σ', h2, p2⟩ := ih (upd p n (chF z b), n + 1) _ h1 (by show n + 1 + b ≤ 80; omega)
    refine ⟨σ', h2, fun K => ?_⟩
    have n1 : ¬ nI b < 0 := nI_pos (by omega)
    have q := fun K => q18 (r := x + 159) (p := p) (n := n) (σ := σ) (K := K) (x := chF z b) (by omega)
    rw [padPS (ysP h)] at q
    rw [← p2 K, x95_34]
    simp only [x95_36, x95_39, x95_40, x95_43, x95_44, x95_46, x95_48, x95_49, x95_50, pushO, List.length_cons, List.length_nil, Nat.reduceAdd, Nat.reduceLeDiff, Nat.le_refl, Nat.zero_le, isD_i, isD_r, isD_l, isD_n, if_true, if_false, ite_true, ite_false, reduceIte, nI_pred, n1, sysF h, padF (ysP h)]
    simp only [chF, shF8] at q
    simp only [x95_51, x95_54, x95_55, x95_58, x95_61, pushO, List.length_cons, List.length_nil, Nat.reduceAdd, Nat.reduceLeDiff, Nat.le_refl, Nat.zero_le, isD_i, isD_r, isD_l, isD_n, if_true, if_false, ite_true, ite_false, reduceIte, padF (ysP h), q]
    rw [← Int32.sub_eq_add_neg]
    rfl
theorem d95a {z : Int64} {K : Option Value → Hp → Prop} {x : Nat} {A : StaM} {pm : Nat → Nat} {sz : Nat} {S L : Nat → StaM} {u : Nat → Bool} {P : PadM} {O : OrdM} {J : RowM} {μ : ModM} {nn : Nat × Nat} {σ : Hp} (h : Sys x A pm sz S L u P O J μ nn σ) (hz : numS 8 z 0 = 0) : X 95 0 [.ref x, .long z, .double 0, .null, .null] [] σ K = K (some (.int (-2))) σ := by
  simp only [x95_0, x95_1, x95_4, x95_5, x95_6, x95_9, x95_11, x95_12, x95_13, x95_16, x95_19, x95_20, x95_21, x95_23, x95_26, x95_28, pushO, List.length_cons, List.length_nil, Nat.reduceAdd, Nat.reduceLeDiff, Nat.le_refl, Nat.zero_le, isD_i, isD_r, isD_l, isD_n, if_true, if_false, ite_true, ite_false, reduceIte, e107, hz, nI_0]
theorem d95c {z : Int64} {K : Option Value → Hp → Prop} {x : Nat} {A : StaM} {pm : Nat → Nat} {sz : Nat} {S L : Nat → StaM} {u : Nat → Bool} {P : PadM} {O : OrdM} {J : RowM} {μ : ModM} {nn : Nat × Nat} {σ : Hp} (h : Sys x A pm sz S L u P O J μ nn σ) (hz : ¬ numS 8 z 0 = 0) (hl : 80 < P.2 + numS 8 z 0) : X 95 0 [.ref x, .long z, .double 0, .null, .null] [] σ K = K (some (.int (-4))) σ := by
  have b := ysB h
  have hn := numS_le 8 z 0
  have n1 : ¬ nI (numS 8 z 0) = 0 := by rw [nI_eq0 (by omega)]; exact hz
  have n2 : 80 < nI P.2 + nI (numS 8 z 0) := by
    have : nI P.2 + nI (numS 8 z 0) = nI (P.2 + numS 8 z 0) := by unfold nI; exact (Int32.ofNat_add _ _).symm
    rw [this, nI_80]
    exact nI_lt hl (by omega)
  simp only [x95_0, x95_1, x95_4, x95_5, x95_6, x95_9, x95_11, x95_12, x95_13, x95_16, x95_19, x95_20, x95_21, x95_23, x95_26, x95_28, pushO, List.length_cons, List.length_nil, Nat.reduceAdd, Nat.reduceLeDiff, Nat.le_refl, Nat.zero_le, isD_i, isD_r, isD_l, isD_n, if_true, if_false, ite_true, ite_false, reduceIte, e107, n1, sysF h, padF (ysP h), n2]
theorem d95b {z : Int64} {x : Nat} {A : StaM} {pm : Nat → Nat} {sz : Nat} {S L : Nat → StaM} {u : Nat → Bool} {P : PadM} {O : OrdM} {J : RowM} {μ : ModM} {nn : Nat × Nat} {σ : Hp} (h : Sys x A pm sz S L u P O J μ nn σ) (hz : ¬ numS 8 z 0 = 0) (hl : P.2 + numS 8 z 0 ≤ 80) : ∃ σ', Sys x A pm sz S L u (putF z (numS 8 z 0) P) O J μ nn σ' ∧ ∀ K, X 95 0 [.ref x, .long z, .double 0, .null, .null] [] σ K = K (some (.int (nI (P.2 + numS 8 z 0)))) σ' := by
  obtain ⟨σ', h2, p2⟩ := l95 (z := z) (w3 := nI (numS 8 z 0)) (numS 8 z 0) P σ h hl
  refine ⟨σ', h2, fun K => ?_⟩
  have b := ysB h
  have hn := numS_le 8 z 0
  have n1 : ¬ nI (numS 8 z 0) = 0 := by rw [nI_eq0 (by omega)]; exact hz
  have n2 : ¬ 80 < nI P.2 + nI (numS 8 z 0) := by
    have : nI P.2 + nI (numS 8 z 0) = nI (P.2 + numS 8 z 0) := by unfold nI; exact (Int32.ofNat_add _ _).symm
    rw [this, nI_80]
    exact nI_nlt hl (by omega)
  simp only [x95_0, x95_1, x95_4, x95_5, x95_6, x95_9, x95_11, x95_12, x95_13, x95_16, x95_19, x95_20, x95_21, x95_23, x95_26, x95_28, x95_29, x95_30, x95_31, x95_32, pushO, List.length_cons, List.length_nil, Nat.reduceAdd, Nat.reduceLeDiff, Nat.le_refl, Nat.zero_le, isD_i, isD_r, isD_l, isD_n, if_true, if_false, ite_true, ite_false, reduceIte, e107, n1, sysF h, padF (ysP h), n2, p2, x95_64, x95_65, x95_68, x95_71, sysF h2, padF (ysP h2), putF_2]
/-- the reading of the pad from its place k on: the fault -/
def fltF (p : Nat → Int32) : Nat → Nat → OrdM → Int32 × OrdM
  | 0, k, O => (if ordE O.1 = true then -6 else nI k, O)
  | n + 1, k, O => if (rdF O (p k)).1 = true then fltF p n (k + 1) (rdF O (p k)).2 else (nI k, (rdF O (p k)).2)
theorem ordF {r : Nat} {O : OrdM} {σ : Hp} (h : ordAt r O σ) : okO σ r 1 = true ∧ okF σ r 1 1 = true ∧ okF σ r 1 2 = true ∧ okF σ r 1 3 = true ∧ okF σ r 1 5 = true ∧ gF σ r 1 = .int O.2.1 ∧ gF σ r 2 = .int O.2.2.1 ∧ gF σ r 3 = .int O.2.2.2.1 ∧ gF σ r 5 = .int O.2.2.2.2.2 := by
  obtain ⟨a, b, c, d, e, f⟩ := O
  have q := ordS h
  exact ⟨q.1, q.2.2.2.1, q.2.2.2.2.2.1, q.2.2.2.2.2.2.2.1, q.2.2.2.2.2.2.2.2.2.2.2.1, q.2.2.2.2.1, q.2.2.2.2.2.2.1, q.2.2.2.2.2.2.2.2.1, q.2.2.2.2.2.2.2.2.2.2.2.2⟩
theorem aq7 {c : Int32} {r : Nat} {O : OrdM} {σ : Hp} (h : ordAt r O σ) (K : Option Value → Hp → Prop) : X 7 0 [.ref r, .int c] [] σ K = K (some (.int (bI (rdF O c).1))) (ordPut r (rdF O c).2 σ) := by
  obtain ⟨pl, kd, sm, gu, le, ti⟩ := O
  have := q7 (r := r) (pl := pl) (kd := kd) (sm := sm) (gu := gu) (le := le) (ti := ti) (σ := σ) (K := K) (x := c)
  rwa [ordPS h] at this
theorem aq5 {r : Nat} {O : OrdM} {σ : Hp} (h : ordAt r O σ) (K : Option Value → Hp → Prop) : X 5 0 [.ref r] [] σ K = K none (ordPut r ordB σ) := by
  obtain ⟨pl, kd, sm, gu, le, ti⟩ := O
  have := q5 (r := r) (pl := pl) (kd := kd) (sm := sm) (gu := gu) (le := le) (ti := ti) (σ := σ) (K := K)
  rwa [ordPS h] at this
theorem be6 {r : Nat} {O : OrdM} {σ : Hp} (h : ordAt r O σ) (K : Option Value → Hp → Prop) : X 6 0 [.ref r] [] σ K = K (some (.int (bI (ordE O.1)))) σ := by
  obtain ⟨pl, kd, sm, gu, le, ti⟩ := O
  have := q6 (r := r) (pl := pl) (kd := kd) (sm := sm) (gu := gu) (le := le) (ti := ti) (σ := σ) (K := K)
  rwa [ordPS h] at this
theorem be17 {i : Int32} {r : Nat} {P : PadM} {σ : Hp} (h : padAt r P σ) (hn : P.2 ≤ 80) (K : Option Value → Hp → Prop) : X 17 0 [.ref r, .int i] [] σ K = K (some (.int (at_ P.1 P.2 i))) σ := by
  obtain ⟨p, n⟩ := P
  exact e17 h hn
theorem l97 {x : Nat} {A : StaM} {pm : Nat → Nat} {sz : Nat} {S L : Nat → StaM} {u : Nat → Bool} {P : PadM} {J : RowM} {μ : ModM} {nn : Nat × Nat} : ∀ (n k : Nat) (O : OrdM) (σ : Hp), Sys x A pm sz S L u P O J μ nn σ → P.2 - k = n → k ≤ P.2 → ∃ σ', Sys x A pm sz S L u P (fltF P.1 n k O).2 J μ nn σ' ∧ ∀ K, X 97 9 [.ref x, .int (nI k)] [] σ K = K (some (.int (fltF P.1 n k O).1)) σ' := by
  intro n
  induction n with
  | zero =>
    intro k O σ h hn hk
    refine ⟨σ, h, fun K => ?_⟩
    have b := ysB h
    have ek : k = P.2 := by omega
    have h1 : ¬ nI k < nI P.2 := nI_nlt (by omega) (by omega)
    rw [x97_9]
    unfold fltF
    cases h2 : ordE O.1
    · simp only [x97_10, x97_11, x97_14, x97_17, x97_20, x97_21, x97_24, x97_25, x97_28, x97_29, x97_32, x97_35, x97_38, x97_39, x97_40, x97_43, x97_46, x97_47, x97_50, x97_53, x97_56, x97_58, x97_61, x97_62, x97_65, x97_68, pushO, List.length_cons, List.length_nil, Nat.reduceAdd, Nat.reduceLeDiff, Nat.le_refl, Nat.zero_le, isD_i, isD_r, isD_l, isD_n, if_true, if_false, ite_true, ite_false, reduceIte, sysF h, padF (ysP h), h1, be6 (ysO h), h2, bI_f, ordF (ysO h), ek, Bool.false_eq_true]
      simp only [Int32.lt_irrefl, if_false]
    · simp only [x97_10, x97_11, x97_14, x97_17, x97_20, x97_21, x97_24, x97_25, x97_28, x97_29, x97_32, x97_35, x97_38, x97_39, x97_40, x97_43, x97_46, x97_47, x97_50, x97_53, x97_56, x97_58, x97_61, x97_62, x97_65, x97_68, pushO, List.length_cons, List.length_nil, Nat.reduceAdd, Nat.reduceLeDiff, Nat.le_refl, Nat.zero_le, isD_i, isD_r, isD_l, isD_n, if_true, if_false, ite_true, ite_false, reduceIte, sysF h, padF (ysP h), h1, be6 (ysO h), h2, bI_t, i1_ne, ordF (ysO h)]
  | succ n ih =>
    intro k O σ h hn hk
    have b := ysB h
    have h1 : nI k < nI P.2 := nI_lt (by omega) (by omega)
    have hs := sysO h (O2 := (rdF O (P.1 k)).2)
    unfold fltF
    cases h2 : (rdF O (P.1 k)).1
    · refine ⟨_, hs, fun K => ?_⟩
      rw [x97_9]
      simp only [x97_10, x97_11, x97_14, x97_17, x97_20, x97_21, x97_24, x97_25, x97_28, x97_29, x97_32, x97_35, x97_38, x97_39, pushO, List.length_cons, List.length_nil, Nat.reduceAdd, Nat.reduceLeDiff, Nat.le_refl, Nat.zero_le, isD_i, isD_r, isD_l, isD_n, if_true, if_false, ite_true, ite_false, reduceIte, sysF h, padF (ysP h), h1, be17 (ysP h) b.2.2.1, at_nI (f := P.1) (show k < P.2 by omega) (by omega), ordF (ysO h), aq7 (ysO h), h2, bI_f, Bool.false_eq_true]
    · obtain ⟨σ', h3, p3⟩ := ih (k + 1) _ _ hs (by omega) (by omega)
      refine ⟨σ', h3, fun K => ?_⟩
      rw [x97_9]
      simp only [x97_10, x97_11, x97_14, x97_17, x97_20, x97_21, x97_24, x97_25, x97_28, x97_29, x97_32, x97_35, x97_38, x97_39, x97_40, x97_43, pushO, List.length_cons, List.length_nil, Nat.reduceAdd, Nat.reduceLeDiff, Nat.le_refl, Nat.zero_le, isD_i, isD_r, isD_l, isD_n, if_true, if_false, ite_true, ite_false, reduceIte, sysF h, padF (ysP h), h1, be17 (ysP h) b.2.2.1, at_nI (f := P.1) (show k < P.2 by omega) (by omega), ordF (ysO h), aq7 (ysO h), h2, bI_t, i1_ne, ← nI_succ]
      exact p3 K
def flt (P : PadM) : Int32 × OrdM := fltF P.1 P.2 0 ordB
theorem d97 {x : Nat} {A : StaM} {pm : Nat → Nat} {sz : Nat} {S L : Nat → StaM} {u : Nat → Bool} {P : PadM} {O : OrdM} {J : RowM} {μ : ModM} {nn : Nat × Nat} {σ : Hp} (h : Sys x A pm sz S L u P O J μ nn σ) : ∃ σ', Sys x A pm sz S L u P (flt P).2 J μ nn σ' ∧ ∀ K, X 97 0 [.ref x, .null] [] σ K = K (some (.int (flt P).1)) σ' := by
  have h1 := sysO h (O2 := ordB)
  obtain ⟨σ', h2, p2⟩ := l97 P.2 0 ordB _ h1 (by omega) (by omega)
  refine ⟨σ', h2, fun K => ?_⟩
  rw [nI_0] at p2
  simp only [x97_0, x97_1, x97_4, x97_7, x97_8, pushO, List.length_cons, List.length_nil, Nat.reduceAdd, Nat.reduceLeDiff, Nat.le_refl, Nat.zero_le, isD_i, isD_r, isD_l, isD_n, if_true, if_false, ite_true, ite_false, reduceIte, sysF h, ordF (ysO h), aq5 (ysO h), p2, flt]
/-- an order of the text, carried out: its error, the streams, the joined row -/
def cooF (A : StaM) (J : RowM) (O : OrdM) : Int32 × StaM × RowM :=
  if O.2.1 = 1 then (0, stSet A O.2.2.1 (halS (stOf A O.2.2.1)), J)
  else if O.2.1 = 2 then (if errJ A = 0 then (0, jnS A J, jnJ A J) else (errJ A, A, J))
  else if errC (stOf A O.2.2.1) O.2.2.2.1 O.2.2.2.2.2 = 0 then (0, stSet A O.2.2.1 (comS (stOf A O.2.2.1) O.2.2.2.1 O.2.2.2.2.2), J) else (errC (stOf A O.2.2.1) O.2.2.2.1 O.2.2.2.2.2, A, J)
theorem d108 {x : Nat} {A : StaM} {pm : Nat → Nat} {sz : Nat} {S L : Nat → StaM} {u : Nat → Bool} {P : PadM} {O : OrdM} {J : RowM} {μ : ModM} {nn : Nat × Nat} {σ : Hp} (h : Sys x A pm sz S L u P O J μ nn σ) (ho : okSa A) (ha : errJ A = 0 → aaS A) : ∃ σ', Sys x (cooF A J O).2.1 pm sz S L u P O (cooF A J O).2.2 μ nn σ' ∧ ∀ K, X 108 0 [.ref x, .null, .null] [] σ K = K (some (.int (cooF A J O).1)) σ' := by
  have hst := staSt (ysA h) O.2.2.1
  have oo := okSt_of ho O.2.2.1
  unfold cooF
  by_cases k1 : O.2.1 = 1
  · rw [if_pos k1]
    have h1 := sysA h (B := stSet A O.2.2.1 (halS (stOf A O.2.2.1)))
    refine ⟨_, h1, fun K => ?_⟩
    have p1 := fun K => a63 (K := K) hst oo
    simp only [staStP (ysA h)] at p1
    simp only [x108_0, x108_1, x108_4, x108_5, x108_8, x108_11, x108_14, x108_15, x108_16, x108_17, x108_18, x108_21, x108_24, x108_25, x108_28, x108_29, x108_32, x108_35, x108_36, x108_39, x108_42, x108_43, x108_46, x108_47, x108_50, x108_53, x108_54, x108_55, x108_58, x108_59, x108_62, x108_63, x108_66, x108_69, x108_72, x108_73, x108_74, x108_77, x108_80, x108_81, x108_84, x108_87, x108_90, x108_91, x108_92, x108_95, x108_96, x108_97, x108_100, x108_103, x108_104, x108_107, x108_110, x108_113, x108_114, x108_115, pushO, List.length_cons, List.length_nil, Nat.reduceAdd, Nat.reduceLeDiff, Nat.le_refl, Nat.zero_le, isD_i, isD_r, isD_l, isD_n, if_true, if_false, ite_true, ite_false, reduceIte, sysF h, ordF (ysO h), staS (ysA h), e53 (ysA h), strS hst, k1, p1]
  · rw [if_neg k1]
    by_cases k2 : O.2.1 = 2
    · rw [if_pos k2]
      by_cases he : errJ A = 0
      · rw [if_pos he]
        have h1 := sysJn h
        refine ⟨_, h1, fun K => ?_⟩
        have p1 := fun K => a57 (K := K) (ysA h) ho (by omega) (ysJ h) (ysB h).2.2.2 (ha he)
        have n1 : ¬ (2 : Int32) = 1 := by decide +kernel
        simp only [x108_0, x108_1, x108_4, x108_5, x108_8, x108_11, x108_14, x108_15, x108_16, x108_17, x108_18, x108_21, x108_24, x108_25, x108_28, x108_29, x108_32, x108_35, x108_36, x108_39, x108_42, x108_43, x108_46, x108_47, x108_50, x108_53, x108_54, x108_55, x108_58, x108_59, x108_62, x108_63, x108_66, x108_69, x108_72, x108_73, x108_74, x108_77, x108_80, x108_81, x108_84, x108_87, x108_90, x108_91, x108_92, x108_95, x108_96, x108_97, x108_100, x108_103, x108_104, x108_107, x108_110, x108_113, x108_114, x108_115, pushO, List.length_cons, List.length_nil, Nat.reduceAdd, Nat.reduceLeDiff, Nat.le_refl, Nat.zero_le, isD_i, isD_r, isD_l, isD_n, if_true, if_false, ite_true, ite_false, reduceIte, sysF h, ordF (ysO h), staS (ysA h), e53 (ysA h), k2, n1, a56 (ysA h) ho, he, p1]
      · rw [if_neg he]
        refine ⟨σ, h, fun K => ?_⟩
        have n1 : ¬ (2 : Int32) = 1 := by decide +kernel
        simp only [x108_0, x108_1, x108_4, x108_5, x108_8, x108_11, x108_14, x108_15, x108_16, x108_17, x108_18, x108_21, x108_24, x108_25, x108_28, x108_29, x108_32, x108_35, x108_36, x108_39, x108_42, x108_43, x108_46, x108_47, x108_50, x108_53, x108_54, x108_55, x108_58, x108_59, x108_62, x108_63, x108_66, x108_69, x108_72, x108_73, x108_74, x108_77, x108_80, x108_81, x108_84, x108_87, x108_90, x108_91, x108_92, x108_95, x108_96, x108_97, x108_100, x108_103, x108_104, x108_107, x108_110, x108_113, x108_114, x108_115, pushO, List.length_cons, List.length_nil, Nat.reduceAdd, Nat.reduceLeDiff, Nat.le_refl, Nat.zero_le, isD_i, isD_r, isD_l, isD_n, if_true, if_false, ite_true, ite_false, reduceIte, sysF h, ordF (ysO h), staS (ysA h), e53 (ysA h), k2, n1, a56 (ysA h) ho, he]
    · rw [if_neg k2]
      by_cases he : errC (stOf A O.2.2.1) O.2.2.2.1 O.2.2.2.2.2 = 0
      · rw [if_pos he]
        have h1 := sysA h (B := stSet A O.2.2.1 (comS (stOf A O.2.2.1) O.2.2.2.1 O.2.2.2.2.2))
        refine ⟨_, h1, fun K => ?_⟩
        have p1 := fun K => a62 (K := K) (x := O.2.2.2.1) (y := O.2.2.2.2.2) hst oo (errC_0 he oo.2.2.2).2
        simp only [staStP (ysA h)] at p1
        simp only [x108_0, x108_1, x108_4, x108_5, x108_8, x108_11, x108_14, x108_15, x108_16, x108_17, x108_18, x108_21, x108_24, x108_25, x108_28, x108_29, x108_32, x108_35, x108_36, x108_39, x108_42, x108_43, x108_46, x108_47, x108_50, x108_53, x108_54, x108_55, x108_58, x108_59, x108_62, x108_63, x108_66, x108_69, x108_72, x108_73, x108_74, x108_77, x108_80, x108_81, x108_84, x108_87, x108_90, x108_91, x108_92, x108_95, x108_96, x108_97, x108_100, x108_103, x108_104, x108_107, x108_110, x108_113, x108_114, x108_115, pushO, List.length_cons, List.length_nil, Nat.reduceAdd, Nat.reduceLeDiff, Nat.le_refl, Nat.zero_le, isD_i, isD_r, isD_l, isD_n, if_true, if_false, ite_true, ite_false, reduceIte, sysF h, ordF (ysO h), staS (ysA h), e53 (ysA h), strS hst, k1, k2, a61 hst oo, he, p1]
      · rw [if_neg he]
        refine ⟨σ, h, fun K => ?_⟩
        simp only [x108_0, x108_1, x108_4, x108_5, x108_8, x108_11, x108_14, x108_15, x108_16, x108_17, x108_18, x108_21, x108_24, x108_25, x108_28, x108_29, x108_32, x108_35, x108_36, x108_39, x108_42, x108_43, x108_46, x108_47, x108_50, x108_53, x108_54, x108_55, x108_58, x108_59, x108_62, x108_63, x108_66, x108_69, x108_72, x108_73, x108_74, x108_77, x108_80, x108_81, x108_84, x108_87, x108_90, x108_91, x108_92, x108_95, x108_96, x108_97, x108_100, x108_103, x108_104, x108_107, x108_110, x108_113, x108_114, x108_115, pushO, List.length_cons, List.length_nil, Nat.reduceAdd, Nat.reduceLeDiff, Nat.le_refl, Nat.zero_le, isD_i, isD_r, isD_l, isD_n, if_true, if_false, ite_true, ite_false, reduceIte, sysF h, ordF (ysO h), staS (ysA h), e53 (ysA h), strS hst, k1, k2, a61 hst oo, he]
def coF (p : Nat → Int32) (n : Nat) : Nat → Nat → Nat → StaM → RowM → OrdM → Nat × StaM × RowM × OrdM
  | 0, _, c, A, J, O => (c, A, J, O)
  | m + 1, k, c, A, J, O =>
    if (if k < n then p k else 59) = 59 then
      (if (cooF A J O).1 = 0 then coF p n m (k + 1) (c + 1) (cooF A J O).2.1 (cooF A J O).2.2 (rdF O 59).2 else (c, (cooF A J O).2.1, (cooF A J O).2.2, O))
    else coF p n m (k + 1) c A J (rdF O (if k < n then p k else 59)).2
theorem l98 {I : StaM → Prop} (hI : ∀ A, I A → okSa A ∧ (errJ A = 0 → aaS A)) (hC : ∀ A J O, I A → rS J = 24 → I (cooF A J O).2.1) {x : Nat} {pm : Nat → Nat} {sz : Nat} {S L : Nat → StaM} {u : Nat → Bool} {P : PadM} {μ : ModM} {nn : Nat × Nat} : ∀ (m k c : Nat) (A : StaM) (J : RowM) (O : OrdM) (σ : Hp) (w : Value), isD w = false → Sys x A pm sz S L u P O J μ nn σ → I A → P.2 + 1 - k = m → k ≤ P.2 + 1 → c ≤ k → ∃ σ', Sys x (coF P.1 P.2 m k c A J O).2.1 pm sz S L u (P.1, 0) (coF P.1 P.2 m k c A J O).2.2.2 (coF P.1 P.2 m k c A J O).2.2.1 μ nn σ' ∧ ∀ K, X 98 34 [.ref x, .int (nI c), .int (nI k), w] [] σ K = K (some (.int (nI (coF P.1 P.2 m k c A J O).1))) σ' := by
  intro m
  have fin : ∀ (k c : Nat) (A : StaM) (J : RowM) (O : OrdM) (σ : Hp) (w : Value), Sys x A pm sz S L u P O J μ nn σ → ∃ σ', Sys x A pm sz S L u (P.1, 0) O J μ nn σ' ∧ ∀ K, X 98 104 [.ref x, .int (nI c), .int (nI k), w] [] σ K = K (some (.int (nI c))) σ' := by
    intro k c A J O σ w h
    have h2 := sysP h (P2 := (P.1, 0)) (by show 0 ≤ 80; omega)
    refine ⟨_, h2, fun K => ?_⟩
    obtain ⟨p, n⟩ := P
    have p1 := padP1z (ysP h)
    simp only [x98_104, x98_105, x98_108, x98_109, x98_112, x98_113, pushO, List.length_cons, List.length_nil, Nat.reduceAdd, Nat.reduceLeDiff, Nat.le_refl, Nat.zero_le, isD_i, isD_r, isD_l, isD_n, if_true, if_false, ite_true, ite_false, reduceIte, sysF h, padF (ysP h), p1]
  induction m with
  | zero =>
    intro k c A J O σ w hw h hi hm hk hc
    have b := ysB h
    obtain ⟨σ', h1, p1⟩ := fin k c A J O σ w h
    refine ⟨σ', h1, fun K => ?_⟩
    have n1 : nI P.2 < nI k := nI_lt (by omega) (by omega)
    rw [x98_34]
    simp only [x98_35, x98_36, x98_39, x98_42, pushO, List.length_cons, List.length_nil, Nat.reduceAdd, Nat.reduceLeDiff, Nat.le_refl, Nat.zero_le, isD_i, isD_r, isD_l, isD_n, if_true, if_false, ite_true, ite_false, reduceIte, sysF h, padF (ysP h), n1, p1, coF]
  | succ m ih =>
    intro k c A J O σ w hw h hi hm hk hc
    have b := ysB h
    have n1 : ¬ nI P.2 < nI k := nI_nlt (by omega) (by omega)
    have hsg : ∀ K, X 98 34 [.ref x, .int (nI c), .int (nI k), w] [] σ K = X 98 70 [.ref x, .int (nI c), .int (nI k), .int (if k < P.2 then P.1 k else 59)] [] σ K := by
      intro K
      rw [x98_34]
      by_cases hkn : k < P.2
      · have n2 : nI k < nI P.2 := nI_lt hkn (by omega)
        simp only [x98_35, x98_36, x98_39, x98_42, x98_45, x98_46, x98_47, x98_50, x98_53, x98_56, x98_57, x98_60, x98_61, x98_64, x98_67, x98_69, pushO, List.length_cons, List.length_nil, Nat.reduceAdd, Nat.reduceLeDiff, Nat.le_refl, Nat.zero_le, isD_i, isD_r, isD_l, isD_n, if_true, if_false, ite_true, ite_false, reduceIte, hw, sysF h, padF (ysP h), n1, n2, hkn, be17 (ysP h) b.2.2.1, at_nI (f := P.1) hkn (by omega)]
      · have n2 : ¬ nI k < nI P.2 := nI_nlt (by omega) (by omega)
        simp only [x98_35, x98_36, x98_39, x98_42, x98_45, x98_46, x98_47, x98_50, x98_53, x98_56, x98_57, x98_60, x98_61, x98_64, x98_67, x98_69, pushO, List.length_cons, List.length_nil, Nat.reduceAdd, Nat.reduceLeDiff, Nat.le_refl, Nat.zero_le, isD_i, isD_r, isD_l, isD_n, if_true, if_false, ite_true, ite_false, reduceIte, hw, sysF h, padF (ysP h), n1, n2, hkn]
    unfold coF
    by_cases h59 : (if k < P.2 then P.1 k else 59) = 59
    · rw [if_pos h59]
      obtain ⟨i1, i2⟩ := hI A hi
      obtain ⟨τ, t1, t2⟩ := d108 h i1 i2
      by_cases he : (cooF A J O).1 = 0
      · rw [if_pos he]
        have t3 := sysO t1 (O2 := (rdF O 59).2)
        obtain ⟨σ', h3, p3⟩ := ih (k + 1) (c + 1) _ _ _ _ (.int 59) (isD_i _) t3 (hC A J O hi b.2.2.2) (by omega) (by omega) (by omega)
        refine ⟨σ', h3, fun K => ?_⟩
        rw [hsg K, h59]
        simp only [x98_70, x98_71, x98_73, x98_76, x98_77, x98_80, x98_83, x98_86, x98_89, x98_90, x98_93, x98_94, x98_97, x98_98, x98_101, pushO, List.length_cons, List.length_nil, Nat.reduceAdd, Nat.reduceLeDiff, Nat.le_refl, Nat.zero_le, isD_i, isD_r, isD_l, isD_n, if_true, if_false, ite_true, ite_false, reduceIte, sysF h, t2, he, ← nI_succ, sysF t1, ordF (ysO t1), aq7 (ysO t1), p3]
      · rw [if_neg he]
        obtain ⟨σ', h3, p3⟩ := fin k c _ _ _ τ (.int 59) t1
        refine ⟨σ', h3, fun K => ?_⟩
        rw [hsg K, h59]
        simp only [x98_70, x98_71, x98_73, x98_76, x98_77, x98_80, x98_83, pushO, List.length_cons, List.length_nil, Nat.reduceAdd, Nat.reduceLeDiff, Nat.le_refl, Nat.zero_le, isD_i, isD_r, isD_l, isD_n, if_true, if_false, ite_true, ite_false, reduceIte, sysF h, t2, he, p3]
    · rw [if_neg h59]
      have t3 := sysO h (O2 := (rdF O (if k < P.2 then P.1 k else 59)).2)
      obtain ⟨σ', h3, p3⟩ := ih (k + 1) c A J _ _ (.int (if k < P.2 then P.1 k else 59)) (isD_i _) t3 hi (by omega) (by omega) (by omega)
      refine ⟨σ', h3, fun K => ?_⟩
      rw [hsg K]
      simp only [x98_70, x98_71, x98_73, pushO, List.length_cons, List.length_nil, Nat.reduceAdd, Nat.reduceLeDiff, Nat.le_refl, Nat.zero_le, isD_i, isD_r, isD_l, isD_n, if_true, if_false, ite_true, ite_false, reduceIte, h59]
      simp only [x98_89, x98_90, x98_93, x98_94, x98_97, x98_98, x98_101, pushO, List.length_cons, List.length_nil, Nat.reduceAdd, Nat.reduceLeDiff, Nat.le_refl, Nat.zero_le, isD_i, isD_r, isD_l, isD_n, if_true, if_false, ite_true, ite_false, reduceIte, sysF h, ordF (ysO h), aq7 (ysO h), ← nI_succ, p3]
theorem d98a {x : Nat} {A : StaM} {pm : Nat → Nat} {sz : Nat} {S L : Nat → StaM} {u : Nat → Bool} {P : PadM} {O : OrdM} {J : RowM} {μ : ModM} {nn : Nat × Nat} {σ : Hp} (h : Sys x A pm sz S L u P O J μ nn σ) (hf : ¬ (flt P).1 = -6) : ∃ σ', Sys x A pm sz S L u P (flt P).2 J μ nn σ' ∧ ∀ K, X 98 0 [.ref x, .null, .null, .null] [] σ K = K (some (.int (-3))) σ' := by
  obtain ⟨τ, t1, t2⟩ := d97 h
  refine ⟨τ, t1, fun K => ?_⟩
  simp only [x98_0, x98_1, x98_4, x98_6, x98_9, x98_11, pushO, List.length_cons, List.length_nil, Nat.reduceAdd, Nat.reduceLeDiff, Nat.le_refl, Nat.zero_le, isD_i, isD_r, isD_l, isD_n, if_true, if_false, ite_true, ite_false, reduceIte, sysF h, t2, hf]
def co (A : StaM) (P : PadM) (J : RowM) : Nat × StaM × RowM × OrdM := coF P.1 P.2 (P.2 + 1) 0 0 A J ordB
theorem d98b {I : StaM → Prop} (hI : ∀ A, I A → okSa A ∧ (errJ A = 0 → aaS A)) (hC : ∀ A J O, I A → rS J = 24 → I (cooF A J O).2.1) {x : Nat} {A : StaM} {pm : Nat → Nat} {sz : Nat} {S L : Nat → StaM} {u : Nat → Bool} {P : PadM} {O : OrdM} {J : RowM} {μ : ModM} {nn : Nat × Nat} {σ : Hp} (h : Sys x A pm sz S L u P O J μ nn σ) (hi : I A) (hf : (flt P).1 = -6) : ∃ σ', Sys x (co A P J).2.1 (remP pm sz) (remZ sz + 1) (updN S (remP pm sz (remZ sz)) A) L u (P.1, 0) (co A P J).2.2.2 (co A P J).2.2.1 μ nn σ' ∧ ∀ K, X 98 0 [.ref x, .null, .null, .null] [] σ K = K (some (.int (nI (co A P J).1))) σ' := by
  obtain ⟨τ, t1, t2⟩ := d97 h
  obtain ⟨τ2, t3, t4⟩ := remS t1
  have t5 := sysO t3 (O2 := ordB)
  obtain ⟨σ', h3, p3⟩ := l98 hI hC (P.2 + 1) 0 0 A J ordB _ .null isD_n t5 hi (by omega) (by omega) (by omega)
  refine ⟨σ', h3, fun K => ?_⟩
  rw [nI_0] at p3
  simp only [x98_0, x98_1, x98_4, x98_6, x98_9, x98_11, x98_12, x98_13, x98_16, x98_17, x98_20, x98_23, x98_24, x98_25, x98_26, x98_29, x98_32, x98_33, pushO, List.length_cons, List.length_nil, Nat.reduceAdd, Nat.reduceLeDiff, Nat.le_refl, Nat.zero_le, isD_i, isD_r, isD_l, isD_n, if_true, if_false, ite_true, ite_false, reduceIte, sysF h, t2, hf, sysF t1, hisS (ysH t1), t4, sysF t3, ordF (ysO t3), aq5 (ysO t3), p3, co]
