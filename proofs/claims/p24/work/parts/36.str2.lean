/-! codes; streams -/
theorem nI_27 : (27 : Int32) = nI 27 := by decide +kernel
theorem rem27 {r : Nat} (h : r < 2 ^ 31) : nI r - nI r / 27 * 27 = nI (r % 27) := by rw [nI_27]; exact pk_rem h (by omega) (by omega)
theorem div27 {r : Nat} (h : r < 2 ^ 31) : nI r / 27 = nI (r / 27) := by rw [nI_27]; exact pk_div h (by omega) (by omega)
theorem rem27b {r : Nat} (h : r < 2 ^ 31) : nI r - nI (r / 27) * 27 = nI (r % 27) := by rw [← div27 h]; exact rem27 h
theorem nI_eq0 {r : Nat} (h : r < 2 ^ 31) : (nI r = 0) = (r = 0) := by rw [← nI_0]; exact nI_eq_iff h (by omega)
theorem i27_ne : ¬ (27 : Int32) = 0 := by decide +kernel
def codeN : Nat → Nat → Bool
  | 0, _ => true
  | n + 1, r => if r = 0 then true else if r % 27 = 0 then false else codeN n (r / 27)
theorem l105 {x : Int32} {σ : Hp} {K : Option Value → Hp → Prop} : ∀ n r, r < 27 ^ n → r < 2 ^ 31 → X 105 15 [.int x, .int (nI r)] [] σ K = K (some (.int (bI (codeN n r)))) σ := by
  intro n
  induction n with
  | zero =>
    intro r hr hr2
    have h0 : r = 0 := by simpa using hr
    subst h0
    rw [x105_15]
    simp only [x105_0, x105_1, x105_2, x105_5, x105_6, x105_8, x105_11, x105_12, x105_13, x105_14, x105_16, x105_19, x105_20, x105_22, x105_23, x105_26, x105_27, x105_28, x105_29, x105_31, x105_32, x105_33, x105_36, x105_37, pushO, List.length_cons, List.length_nil, Nat.reduceAdd, Nat.reduceLeDiff, Nat.le_refl, Nat.zero_le, isD_i, isD_r, isD_l, isD_n, if_true, if_false, ite_true, ite_false, reduceIte, nI_0lt (show 0 < 2 ^ 31 by omega), Nat.lt_irrefl, ok_1, codeN, bI_t]
  | succ n ih =>
    intro r hr hr2
    rw [x105_15]
    by_cases h0 : r = 0
    · subst h0
      simp only [x105_0, x105_1, x105_2, x105_5, x105_6, x105_8, x105_11, x105_12, x105_13, x105_14, x105_16, x105_19, x105_20, x105_22, x105_23, x105_26, x105_27, x105_28, x105_29, x105_31, x105_32, x105_33, x105_36, x105_37, pushO, List.length_cons, List.length_nil, Nat.reduceAdd, Nat.reduceLeDiff, Nat.le_refl, Nat.zero_le, isD_i, isD_r, isD_l, isD_n, if_true, if_false, ite_true, ite_false, reduceIte, nI_0lt (show 0 < 2 ^ 31 by omega), Nat.lt_irrefl, ok_1, codeN, bI_t]
    · have h1 : 0 < r := by omega
      have h3 : r / 27 < 27 ^ n := by rw [Nat.pow_succ] at hr; omega
      have h4 : r / 27 < 2 ^ 31 := by omega
      simp only [x105_0, x105_1, x105_2, x105_5, x105_6, x105_8, x105_11, x105_12, x105_13, x105_14, x105_16, x105_19, x105_20, x105_22, x105_23, x105_26, x105_27, x105_28, x105_29, x105_31, x105_32, x105_33, x105_36, x105_37, pushO, List.length_cons, List.length_nil, Nat.reduceAdd, Nat.reduceLeDiff, Nat.le_refl, Nat.zero_le, isD_i, isD_r, isD_l, isD_n, if_true, if_false, ite_true, ite_false, reduceIte, nI_0lt hr2, h1, i27_ne, not_false_eq_true, rem27b hr2, div27 hr2, nI_eq0 (show r % 27 < 2 ^ 31 by omega), ok_0, codeN, h0]
      by_cases h2 : r % 27 = 0
      · simp only [h2, if_true, bI_f]
      · simp only [h2, if_false]
        exact ih _ h3 h4
def isCd (x : Int32) : Bool := if x < 1 then false else if 531440 < x then false else codeN 5 x.toNatClampNeg
theorem cd_nn {x : Int32} (h1 : ¬ x < 1) (h2 : ¬ 531440 < x) : x = nI x.toNatClampNeg ∧ 0 < x.toNatClampNeg ∧ x.toNatClampNeg ≤ 531440 := by
  have a1 : (1 : Int) ≤ x.toInt := by
    have := Int32.le_iff_toInt_le.mp (Int32.not_lt.mp h1)
    have e : Int32.toInt 1 = 1 := by decide +kernel
    omega
  have a2 : x.toInt ≤ 531440 := by
    have := Int32.le_iff_toInt_le.mp (Int32.not_lt.mp h2)
    have e : Int32.toInt 531440 = 531440 := by decide +kernel
    omega
  have hz : ((x.toNatClampNeg : Nat) : Int) = x.toInt := by show ((x.toInt.toNat : Nat) : Int) = _; omega
  have h0 : ¬ x < 0 := by
    intro q
    have := Int32.lt_iff_toInt_lt.mp q
    have e : Int32.toInt 0 = 0 := by decide +kernel
    omega
  exact ⟨(nn_clamp h0).1.symm, by omega, by omega⟩
theorem e105 {x : Int32} {σ : Hp} {K : Option Value → Hp → Prop} : X 105 0 [.int x, .null] [] σ K = K (some (.int (bI (isCd x)))) σ := by
  unfold isCd
  by_cases h1 : x < 1
  · simp only [x105_0, x105_1, x105_2, x105_5, x105_6, x105_8, x105_11, x105_12, x105_13, x105_14, pushO, List.length_cons, List.length_nil, Nat.reduceAdd, Nat.reduceLeDiff, Nat.le_refl, Nat.zero_le, isD_i, isD_r, isD_l, isD_n, if_true, if_false, ite_true, ite_false, reduceIte, h1, ok_0, bI_f]
  · by_cases h2 : 531440 < x
    · simp only [x105_0, x105_1, x105_2, x105_5, x105_6, x105_8, x105_11, x105_12, x105_13, x105_14, pushO, List.length_cons, List.length_nil, Nat.reduceAdd, Nat.reduceLeDiff, Nat.le_refl, Nat.zero_le, isD_i, isD_r, isD_l, isD_n, if_true, if_false, ite_true, ite_false, reduceIte, h1, h2, ok_0, bI_f]
    · obtain ⟨e1, e2, e3⟩ := cd_nn h1 h2
      have := l105 (x := x) (σ := σ) (K := K) 5 x.toNatClampNeg (by omega) (by omega)
      rw [← e1] at this
      simp only [x105_0, x105_1, x105_2, x105_5, x105_6, x105_8, x105_11, x105_12, x105_13, x105_14, pushO, List.length_cons, List.length_nil, Nat.reduceAdd, Nat.reduceLeDiff, Nat.le_refl, Nat.zero_le, isD_i, isD_r, isD_l, isD_n, if_true, if_false, ite_true, ite_false, reduceIte, h1, h2, this]
def isSt (x : Int32) : Bool := if x = 0 then true else decide (x = 1)
theorem e102 {x : Int32} {σ : Hp} {K : Option Value → Hp → Prop} : X 102 0 [.int x] [] σ K = K (some (.int (bI (isSt x)))) σ := by
  unfold isSt
  by_cases h1 : x = 0
  · simp only [x102_0, x102_1, x102_4, x102_5, x102_6, x102_9, x102_10, x102_13, x102_14, pushO, List.length_cons, List.length_nil, Nat.reduceAdd, Nat.reduceLeDiff, Nat.le_refl, Nat.zero_le, isD_i, isD_r, isD_l, isD_n, if_true, if_false, ite_true, ite_false, reduceIte, h1, ok_1, bI_t]
  · by_cases h2 : x = 1
    · subst h2
      simp only [x102_0, x102_1, x102_4, x102_5, x102_6, x102_9, x102_10, x102_13, x102_14, pushO, List.length_cons, List.length_nil, Nat.reduceAdd, Nat.reduceLeDiff, Nat.le_refl, Nat.zero_le, isD_i, isD_r, isD_l, isD_n, if_true, if_false, ite_true, ite_false, reduceIte, h1, ok_1, bI_t, decide_true]
    · simp only [x102_0, x102_1, x102_4, x102_5, x102_6, x102_9, x102_10, x102_13, x102_14, pushO, List.length_cons, List.length_nil, Nat.reduceAdd, Nat.reduceLeDiff, Nat.le_refl, Nat.zero_le, isD_i, isD_r, isD_l, isD_n, if_true, if_false, ite_true, ite_false, reduceIte, h1, h2, ok_0, bI_f, decide_false]
def errA (s x : Int32) : Int32 := if isSt s = true then (if isCd x = true then 0 else -2) else -1
theorem e104 {s x : Int32} {σ : Hp} {K : Option Value → Hp → Prop} : X 104 0 [.int s, .int x] [] σ K = K (some (.int (errA s x))) σ := by
  unfold errA
  cases h1 : isSt s
  · simp only [x104_0, x104_1, x104_4, x104_7, x104_8, x104_9, x104_10, x104_13, x104_16, x104_17, x104_20, x104_22, pushO, List.length_cons, List.length_nil, Nat.reduceAdd, Nat.reduceLeDiff, Nat.le_refl, Nat.zero_le, isD_i, isD_r, isD_l, isD_n, if_true, if_false, ite_true, ite_false, reduceIte, e102, h1, bI_f, Bool.false_eq_true]
  · cases h2 : isCd x
    · simp only [x104_0, x104_1, x104_4, x104_7, x104_8, x104_9, x104_10, x104_13, x104_16, x104_17, x104_20, x104_22, pushO, List.length_cons, List.length_nil, Nat.reduceAdd, Nat.reduceLeDiff, Nat.le_refl, Nat.zero_le, isD_i, isD_r, isD_l, isD_n, if_true, if_false, ite_true, ite_false, reduceIte, e102, e105, h1, h2, bI_t, bI_f, i1_ne, Bool.false_eq_true]
    · simp only [x104_0, x104_1, x104_4, x104_7, x104_8, x104_9, x104_10, x104_13, x104_16, x104_17, x104_20, x104_22, pushO, List.length_cons, List.length_nil, Nat.reduceAdd, Nat.reduceLeDiff, Nat.le_refl, Nat.zero_le, isD_i, isD_r, isD_l, isD_n, if_true, if_false, ite_true, ite_false, reduceIte, e102, e105, h1, h2, bI_t, i1_ne]
def letN : Nat → Nat → Nat → Nat
  | 0, _, a => a
  | n + 1, r, a => if r = 0 then a else letN n (r / 27) (a + 1)
theorem l106 {x : Int32} {σ : Hp} {K : Option Value → Hp → Prop} : ∀ n r a, r < 27 ^ n → r < 2 ^ 31 → X 106 4 [.int x, .int (nI a), .int (nI r)] [] σ K = K (some (.int (nI (letN n r a)))) σ := by
  intro n
  induction n with
  | zero =>
    intro r a hr hr2
    have h0 : r = 0 := by simpa using hr
    subst h0
    rw [x106_4]
    simp only [x106_0, x106_1, x106_2, x106_3, x106_5, x106_8, x106_11, x106_12, x106_14, x106_15, x106_16, x106_19, x106_20, pushO, List.length_cons, List.length_nil, Nat.reduceAdd, Nat.reduceLeDiff, Nat.le_refl, Nat.zero_le, isD_i, isD_r, isD_l, isD_n, if_true, if_false, ite_true, ite_false, reduceIte, nI_0lt (show 0 < 2 ^ 31 by omega), Nat.lt_irrefl, letN]
  | succ n ih =>
    intro r a hr hr2
    rw [x106_4]
    by_cases h0 : r = 0
    · subst h0
      simp only [x106_0, x106_1, x106_2, x106_3, x106_5, x106_8, x106_11, x106_12, x106_14, x106_15, x106_16, x106_19, x106_20, pushO, List.length_cons, List.length_nil, Nat.reduceAdd, Nat.reduceLeDiff, Nat.le_refl, Nat.zero_le, isD_i, isD_r, isD_l, isD_n, if_true, if_false, ite_true, ite_false, reduceIte, nI_0lt (show 0 < 2 ^ 31 by omega), Nat.lt_irrefl, letN]
    · have h1 : 0 < r := by omega
      have h3 : r / 27 < 27 ^ n := by rw [Nat.pow_succ] at hr; omega
      simp only [x106_0, x106_1, x106_2, x106_3, x106_5, x106_8, x106_11, x106_12, x106_14, x106_15, x106_16, x106_19, x106_20, pushO, List.length_cons, List.length_nil, Nat.reduceAdd, Nat.reduceLeDiff, Nat.le_refl, Nat.zero_le, isD_i, isD_r, isD_l, isD_n, if_true, if_false, ite_true, ite_false, reduceIte, nI_0lt hr2, h1, i27_ne, not_false_eq_true, div27 hr2, ← nI_succ, letN, h0]
      exact ih _ _ h3 (by omega)
def letS (x : Int32) : Nat := letN 5 x.toNatClampNeg 0
theorem e106 {x : Int32} {σ : Hp} {K : Option Value → Hp → Prop} (hx : isCd x = true) : X 106 0 [.int x, .null, .null] [] σ K = K (some (.int (nI (letS x)))) σ := by
  unfold isCd at hx
  by_cases h1 : x < 1
  · rw [if_pos h1] at hx; cases hx
  · by_cases h2 : 531440 < x
    · rw [if_neg h1, if_pos h2] at hx; cases hx
    · obtain ⟨e1, e2, e3⟩ := cd_nn h1 h2
      have := l106 (x := x) (σ := σ) (K := K) 5 x.toNatClampNeg 0 (by omega) (by omega)
      rw [← e1, nI_0] at this
      simp only [x106_0, x106_1, x106_2, x106_3, pushO, List.length_cons, List.length_nil, Nat.reduceAdd, Nat.reduceLeDiff, Nat.le_refl, Nat.zero_le, isD_i, isD_r, isD_l, isD_n, if_true, if_false, ite_true, ite_false, reduceIte, this, letS]
abbrev StrM : Type := RowM × TalM × Int32 × Int32
abbrev sR (S : StrM) : RowM := S.1
abbrev sT (S : StrM) : TalM := S.2.1
abbrev sN (S : StrM) : Int32 := S.2.2.1
abbrev sV (S : StrM) : Int32 := S.2.2.2
def strC (t : Nat) (S : StrM) (j : Nat) : Option AC := match j with
  | 0 => some (.inl (6, [.ref (t + 1), .ref (t + 5), .int (sN S), .int (sV S)]))
  | 1 => rowC (t + 1) (sR S) 0
  | 2 => rowC (t + 1) (sR S) 1
  | 3 => rowC (t + 1) (sR S) 2
  | 4 => rowC (t + 1) (sR S) 3
  | 5 => talC (t + 5) (sT S) 0
  | 6 => talC (t + 5) (sT S) 1
  | 7 => talC (t + 5) (sT S) 2
  | _ => none
def strAt (t : Nat) (S : StrM) (σ : Hp) : Prop := atC σ t 8 (strC t S)
def strPut (t : Nat) (S : StrM) (σ : Hp) : Hp := ov σ t 8 (strC t S)
theorem str_0 {t : Nat} {S : StrM} {σ : Hp} (h : strAt t S σ) : σ.1 t = some (.inl (6, [.ref (t + 1), .ref (t + 5), .int (sN S), .int (sV S)])) := h 0 (by omega)
theorem j3 {P : Nat → Prop} (h0 : P 0) (h1 : P 1) (h2 : P 2) : ∀ j, j < 3 → P j := fun j hj => match j, hj with
  | 0, _ => h0
  | 1, _ => h1
  | 2, _ => h2
theorem j4 {P : Nat → Prop} (h0 : P 0) (h1 : P 1) (h2 : P 2) (h3 : P 3) : ∀ j, j < 4 → P j := fun j hj => match j, hj with
  | 0, _ => h0
  | 1, _ => h1
  | 2, _ => h2
  | 3, _ => h3
theorem j8 {P : Nat → Prop} (h0 : P 0) (h1 : P 1) (h2 : P 2) (h3 : P 3) (h4 : P 4) (h5 : P 5) (h6 : P 6) (h7 : P 7) : ∀ j, j < 8 → P j := fun j hj => match j, hj with
  | 0, _ => h0
  | 1, _ => h1
  | 2, _ => h2
  | 3, _ => h3
  | 4, _ => h4
  | 5, _ => h5
  | 6, _ => h6
  | 7, _ => h7
theorem strRow {t : Nat} {S : StrM} {σ : Hp} (h : strAt t S σ) : rowAt (t + 1) (sR S) σ := atC_sub h (by omega) (j4 rfl rfl rfl rfl)
theorem strTal {t : Nat} {S : StrM} {σ : Hp} (h : strAt t S σ) : talAt (t + 5) (sT S) σ := atC_sub h (by omega) (j3 rfl rfl rfl)
theorem strRowP {t : Nat} {S : StrM} {σ : Hp} (h : strAt t S σ) {ρ : RowM} : rowPut (t + 1) ρ σ = strPut t (ρ, sT S, sN S, sV S) σ := ov_sub h (by omega) (j4 rfl rfl rfl rfl) (j8 (fun _ => rfl) (fun q => absurd q (by omega)) (fun q => absurd q (by omega)) (fun q => absurd q (by omega)) (fun q => absurd q (by omega)) (fun _ => rfl) (fun _ => rfl) (fun _ => rfl))
theorem strTalP {t : Nat} {S : StrM} {σ : Hp} (h : strAt t S σ) {τ : TalM} : talPut (t + 5) τ σ = strPut t (sR S, τ, sN S, sV S) σ := ov_sub h (by omega) (j3 rfl rfl rfl) (j8 (fun _ => rfl) (fun _ => rfl) (fun _ => rfl) (fun _ => rfl) (fun _ => rfl) (fun q => absurd q (by omega)) (fun q => absurd q (by omega)) (fun q => absurd q (by omega)))
theorem strS {t : Nat} {S : StrM} {σ : Hp} (h : strAt t S σ) : okO σ t 6 = true ∧ okF σ t 6 0 = true ∧ okF σ t 6 1 = true ∧ okF σ t 6 2 = true ∧ okF σ t 6 3 = true ∧ gF σ t 0 = .ref (t + 1) ∧ gF σ t 1 = .ref (t + 5) ∧ gF σ t 2 = .int (sN S) ∧ gF σ t 3 = .int (sV S) :=
  ⟨(okO_ob (str_0 h)).trans rfl, (okF_ob (str_0 h)).trans rfl, (okF_ob (str_0 h)).trans rfl, (okF_ob (str_0 h)).trans rfl, (okF_ob (str_0 h)).trans rfl, (gF_ob (str_0 h)).trans rfl, (gF_ob (str_0 h)).trans rfl, (gF_ob (str_0 h)).trans rfl, (gF_ob (str_0 h)).trans rfl⟩
theorem strP2 {t : Nat} {S : StrM} {σ : Hp} (h : strAt t S σ) {x : Int32} : pF σ t 2 (.int x) = strPut t (sR S, sT S, x, sV S) σ := by
  rw [pF_ob (str_0 h)]
  exact (ov_set h (k := 0) (by omega)).trans (ov_congr (j8 rfl rfl rfl rfl rfl rfl rfl rfl))
theorem strP3 {t : Nat} {S : StrM} {σ : Hp} (h : strAt t S σ) {x : Int32} : pF σ t 3 (.int x) = strPut t (sR S, sT S, sN S, x) σ := by
  rw [pF_ob (str_0 h)]
  exact (ov_set h (k := 0) (by omega)).trans (ov_congr (j8 rfl rfl rfl rfl rfl rfl rfl rfl))
theorem strAP {t : Nat} {S : StrM} {σ : Hp} : strAt t S (strPut t S σ) := ov_at
theorem strPP {t : Nat} {S S2 : StrM} {σ : Hp} : strPut t S2 (strPut t S σ) = strPut t S2 σ := ov_ov
theorem strPS {t : Nat} {S : StrM} {σ : Hp} (h : strAt t S σ) : strPut t S σ = σ := ov_self h
theorem strOff {t : Nat} {S : StrM} {σ : Hp} (h : strAt t S σ) {b m : Nat} {g : Nat → Option AC} (hd : t + 8 ≤ b ∨ b + m ≤ t) : strAt t S (ov σ b m g) := atC_off h hd
/-- a row's own reads, at a stream -/
theorem rowF {r : Nat} {ρ : RowM} {σ : Hp} (h : rowAt r ρ σ) : okO σ r 3 = true ∧ okF σ r 3 3 = true ∧ okF σ r 3 4 = true ∧ gF σ r 3 = .int (nI (rS ρ)) ∧ gF σ r 4 = .int (nI (rT ρ)) := by
  obtain ⟨g, c, e, s, t⟩ := ρ
  have q := rowS h
  exact ⟨q.1, q.2.2.2.2.2.2.2.1, q.2.2.2.2.2.2.2.2.2.1, q.2.2.2.2.2.2.2.2.1, q.2.2.2.2.2.2.2.2.2.2.1⟩
theorem talF {r : Nat} {τ : TalM} {σ : Hp} (h : talAt r τ σ) : okO σ r 7 = true ∧ okF σ r 7 2 = true ∧ gF σ r 2 = .int (nI (tN τ)) := by
  obtain ⟨g, c, n⟩ := τ
  have q := talS h
  exact ⟨q.1, q.2.2.2.2.2.1, q.2.2.2.2.2.2.1⟩
/-- the bounds that keep a stream's arrays from being left -/
def okSt (S : StrM) : Prop := rS (sR S) ≤ 12 ∧ 1 ≤ rS (sR S) ∧ rT (sR S) ≤ rS (sR S) ∧ tN (sT S) ≤ 60
def errC (S : StrM) (x y : Int32) : Int32 := if isCd x = true then (if y < 1 then -2 else if 999 < y then -2 else if 99999 < sN S + y then -4 else if seatOfR (tG (sT S)) (tN (sT S)) x = -6 then (if nI (tN (sT S)) < 60 then 0 else -4) else 0) else -2
theorem a61 {x y : Int32} {K : Option Value → Hp → Prop} {t : Nat} {S : StrM} {σ : Hp} (h : strAt t S σ) (ho : okSt S) : X 61 0 [.ref t, .int x, .int y, .null] [] σ K = K (some (.int (errC S x y))) σ := by
  unfold errC
  obtain ⟨o1, o2, o3, o4⟩ := ho
  have hT := strTal h
  cases h1 : isCd x
  · simp only [x61_0, x61_1, x61_4, x61_7, x61_8, x61_9, x61_12, x61_13, x61_16, x61_19, x61_21, x61_22, x61_23, x61_26, x61_27, x61_28, x61_30, x61_33, x61_35, x61_36, x61_37, x61_40, x61_41, x61_44, x61_46, x61_49, x61_50, x61_53, x61_54, x61_55, x61_56, x61_59, x61_60, x61_63, x61_66, x61_68, x61_71, x61_73, x61_76, x61_77, pushO, List.length_cons, List.length_nil, Nat.reduceAdd, Nat.reduceLeDiff, Nat.le_refl, Nat.zero_le, isD_i, isD_r, isD_l, isD_n, if_true, if_false, ite_true, ite_false, reduceIte, e105, h1, bI_f, Bool.false_eq_true]
  · by_cases h2 : y < 1
    · simp only [x61_0, x61_1, x61_4, x61_7, x61_8, x61_9, x61_12, x61_13, x61_16, x61_19, x61_21, x61_22, x61_23, x61_26, x61_27, x61_28, x61_30, x61_33, x61_35, x61_36, x61_37, x61_40, x61_41, x61_44, x61_46, x61_49, x61_50, x61_53, x61_54, x61_55, x61_56, x61_59, x61_60, x61_63, x61_66, x61_68, x61_71, x61_73, x61_76, x61_77, pushO, List.length_cons, List.length_nil, Nat.reduceAdd, Nat.reduceLeDiff, Nat.le_refl, Nat.zero_le, isD_i, isD_r, isD_l, isD_n, if_true, if_false, ite_true, ite_false, reduceIte, e105, h1, h2, bI_t, i1_ne]
    · by_cases h3 : 999 < y
      · simp only [x61_0, x61_1, x61_4, x61_7, x61_8, x61_9, x61_12, x61_13, x61_16, x61_19, x61_21, x61_22, x61_23, x61_26, x61_27, x61_28, x61_30, x61_33, x61_35, x61_36, x61_37, x61_40, x61_41, x61_44, x61_46, x61_49, x61_50, x61_53, x61_54, x61_55, x61_56, x61_59, x61_60, x61_63, x61_66, x61_68, x61_71, x61_73, x61_76, x61_77, pushO, List.length_cons, List.length_nil, Nat.reduceAdd, Nat.reduceLeDiff, Nat.le_refl, Nat.zero_le, isD_i, isD_r, isD_l, isD_n, if_true, if_false, ite_true, ite_false, reduceIte, e105, h1, h2, h3, bI_t, i1_ne]
      · by_cases h4 : 99999 < sN S + y
        · simp only [x61_0, x61_1, x61_4, x61_7, x61_8, x61_9, x61_12, x61_13, x61_16, x61_19, x61_21, x61_22, x61_23, x61_26, x61_27, x61_28, x61_30, x61_33, x61_35, x61_36, x61_37, x61_40, x61_41, x61_44, x61_46, x61_49, x61_50, x61_53, x61_54, x61_55, x61_56, x61_59, x61_60, x61_63, x61_66, x61_68, x61_71, x61_73, x61_76, x61_77, pushO, List.length_cons, List.length_nil, Nat.reduceAdd, Nat.reduceLeDiff, Nat.le_refl, Nat.zero_le, isD_i, isD_r, isD_l, isD_n, if_true, if_false, ite_true, ite_false, reduceIte, e105, h1, h2, h3, h4, bI_t, i1_ne, strS h]
        · by_cases h5 : seatOfR (tG (sT S)) (tN (sT S)) x = -6
          · by_cases h6 : nI (tN (sT S)) < 60
            · simp only [x61_0, x61_1, x61_4, x61_7, x61_8, x61_9, x61_12, x61_13, x61_16, x61_19, x61_21, x61_22, x61_23, x61_26, x61_27, x61_28, x61_30, x61_33, x61_35, x61_36, x61_37, x61_40, x61_41, x61_44, x61_46, x61_49, x61_50, x61_53, x61_54, x61_55, x61_56, x61_59, x61_60, x61_63, x61_66, x61_68, x61_71, x61_73, x61_76, x61_77, pushO, List.length_cons, List.length_nil, Nat.reduceAdd, Nat.reduceLeDiff, Nat.le_refl, Nat.zero_le, isD_i, isD_r, isD_l, isD_n, if_true, if_false, ite_true, ite_false, reduceIte, e105, h1, h2, h3, h4, h5, h6, bI_t, i1_ne, strS h, talF hT, b70 hT o4]
            · simp only [x61_0, x61_1, x61_4, x61_7, x61_8, x61_9, x61_12, x61_13, x61_16, x61_19, x61_21, x61_22, x61_23, x61_26, x61_27, x61_28, x61_30, x61_33, x61_35, x61_36, x61_37, x61_40, x61_41, x61_44, x61_46, x61_49, x61_50, x61_53, x61_54, x61_55, x61_56, x61_59, x61_60, x61_63, x61_66, x61_68, x61_71, x61_73, x61_76, x61_77, pushO, List.length_cons, List.length_nil, Nat.reduceAdd, Nat.reduceLeDiff, Nat.le_refl, Nat.zero_le, isD_i, isD_r, isD_l, isD_n, if_true, if_false, ite_true, ite_false, reduceIte, e105, h1, h2, h3, h4, h5, h6, bI_t, i1_ne, strS h, talF hT, b70 hT o4]
          · simp only [x61_0, x61_1, x61_4, x61_7, x61_8, x61_9, x61_12, x61_13, x61_16, x61_19, x61_21, x61_22, x61_23, x61_26, x61_27, x61_28, x61_30, x61_33, x61_35, x61_36, x61_37, x61_40, x61_41, x61_44, x61_46, x61_49, x61_50, x61_53, x61_54, x61_55, x61_56, x61_59, x61_60, x61_63, x61_66, x61_68, x61_71, x61_73, x61_76, x61_77, pushO, List.length_cons, List.length_nil, Nat.reduceAdd, Nat.reduceLeDiff, Nat.le_refl, Nat.zero_le, isD_i, isD_r, isD_l, isD_n, if_true, if_false, ite_true, ite_false, reduceIte, e105, h1, h2, h3, h4, h5, bI_t, i1_ne, strS h, talF hT, b70 hT o4]
def sefN (ρ : RowM) (x : Int32) : Nat := match seatO (rG ρ) (rT ρ) x with
  | some k => k
  | none => if rT ρ < rS ρ then rT ρ else ftgN (rC ρ) (rE ρ) (rT ρ)
theorem sef_N {ρ : RowM} {x : Int32} (h : 1 ≤ rS ρ) (ht : rT ρ ≤ 24) : sefR ρ x = nI (sefN ρ x) ∧ sefN ρ x ≤ rT ρ := by
  unfold sefR seatForR sefN
  rw [seatOf_O]
  cases hs : seatO (rG ρ) (rT ρ) x with
  | some k =>
    have h1 := (seatO_lt hs).1
    rw [oI, if_neg (m6_ne (by omega))]
    dsimp only
    exact ⟨rfl, by omega⟩
  | none =>
    rw [oI, if_pos rfl]
    dsimp only
    by_cases h1 : rT ρ < rS ρ
    · rw [if_pos h1]
      exact ⟨by rw [if_pos h1], by rw [if_pos h1]; omega⟩
    · rw [if_neg h1]
      have := ftgN_lt (c := rC ρ) (e := rE ρ) (show 0 < rT ρ by omega)
      exact ⟨by rw [if_neg h1], by rw [if_neg h1]; omega⟩
def comS (S : StrM) (x y : Int32) : StrM := ((srvR (sR S) (sefN (sR S) x) x y).2, adT (sT S) x y, sN S + y, if (srvR (sR S) (sefN (sR S) x) x y).1 = true then sV S + 1 else sV S)
theorem a62 {x y : Int32} {K : Option Value → Hp → Prop} {t : Nat} {S : StrM} {σ : Hp} (h : strAt t S σ) (ho : okSt S) (hc : seatO (tG (sT S)) (tN (sT S)) x = none → tN (sT S) < 60) : X 62 0 [.ref t, .int x, .int y, .null] [] σ K = K (some (.int (nI (sefN (sR S) x)))) (strPut t (comS S x y) σ) := by
  obtain ⟨o1, o2, o3, o4⟩ := ho
  obtain ⟨f1, f2⟩ := sef_N (ρ := sR S) (x := x) o2 (by omega)
  have hR := strRow h
  have p1 := fun K => a41 (K := K) (x := x) (y := y) hR (by omega) (by omega) f2
  simp only [strRowP h] at p1
  have h1 := strAP (t := t) (S := ((srvR (sR S) (sefN (sR S) x) x y).2, sT S, sN S, sV S)) (σ := σ)
  unfold comS
  cases hb : (srvR (sR S) (sefN (sR S) x) x y).1
  · have h2 := strTal h1
    have p2 := fun K => a74 (K := K) (x := x) (y := y) h2 o4 hc
    simp only [strTalP h1, strPP] at p2
    have h3 := strAP (t := t) (S := ((srvR (sR S) (sefN (sR S) x) x y).2, adT (sT S) x y, sN S, sV S)) (σ := σ)
    have p3 := strP2 h3 (x := sN S + y)
    rw [strPP] at p3
    simp only [x62_0, x62_1, x62_4, x62_5, x62_8, x62_9, x62_10, x62_13, x62_14, x62_15, x62_16, x62_19, x62_22, x62_23, x62_23i, x62_24, x62_27, x62_28, x62_29, x62_32, x62_33, x62_36, x62_37, x62_38, x62_41, x62_42, x62_42i, x62_43, x62_46, x62_47, x62_48, x62_51, x62_52, pushO, List.length_cons, List.length_nil, Nat.reduceAdd, Nat.reduceLeDiff, Nat.le_refl, Nat.zero_le, isD_i, isD_r, isD_l, isD_n, if_true, if_false, ite_true, ite_false, reduceIte, strS h, rowF hR, b34 hR (show rT (sR S) ≤ 24 by omega) (show rS (sR S) ≤ 24 by omega), f1, p1, hb, bI_f, strS h1, talF h2, p2, strS h3, p3, Bool.false_eq_true]
  · have q0 := strP3 h1 (x := sV S + 1)
    rw [strPP] at q0
    have h1' := strAP (t := t) (S := ((srvR (sR S) (sefN (sR S) x) x y).2, sT S, sN S, sV S + 1)) (σ := σ)
    have h2 := strTal h1'
    have p2 := fun K => a74 (K := K) (x := x) (y := y) h2 o4 hc
    simp only [strTalP h1', strPP] at p2
    have h3 := strAP (t := t) (S := ((srvR (sR S) (sefN (sR S) x) x y).2, adT (sT S) x y, sN S, sV S + 1)) (σ := σ)
    have p3 := strP2 h3 (x := sN S + y)
    rw [strPP] at p3
    simp only [x62_0, x62_1, x62_4, x62_5, x62_8, x62_9, x62_10, x62_13, x62_14, x62_15, x62_16, x62_19, x62_22, x62_23, x62_23i, x62_24, x62_27, x62_28, x62_29, x62_32, x62_33, x62_36, x62_37, x62_38, x62_41, x62_42, x62_42i, x62_43, x62_46, x62_47, x62_48, x62_51, x62_52, pushO, List.length_cons, List.length_nil, Nat.reduceAdd, Nat.reduceLeDiff, Nat.le_refl, Nat.zero_le, isD_i, isD_r, isD_l, isD_n, if_true, if_false, ite_true, ite_false, reduceIte, strS h, rowF hR, b34 hR (show rT (sR S) ≤ 24 by omega) (show rS (sR S) ≤ 24 by omega), f1, p1, hb, bI_t, i1_ne, strS h1, q0, strS h1', talF h2, p2, strS h3, p3]
def halS (S : StrM) : StrM := (halR (sR S), halT (sT S), sN S / 2, sV S)
theorem a63 {K : Option Value → Hp → Prop} {t : Nat} {S : StrM} {σ : Hp} (h : strAt t S σ) (ho : okSt S) : X 63 0 [.ref t] [] σ K = K none (strPut t (halS S) σ) := by
  obtain ⟨o1, o2, o3, o4⟩ := ho
  have hR := strRow h
  have p1 := fun K => a49 (K := K) hR (by omega) o3
  simp only [strRowP h] at p1
  have h1 := strAP (t := t) (S := (halR (sR S), sT S, sN S, sV S)) (σ := σ)
  have h2 := strTal h1
  have p2 := fun K => a79 (K := K) h2 o4
  simp only [strTalP h1, strPP] at p2
  have h3 := strAP (t := t) (S := (halR (sR S), halT (sT S), sN S, sV S)) (σ := σ)
  have p3 := strP2 h3 (x := sN S / 2)
  rw [strPP] at p3
  simp only [x63_0, x63_1, x63_4, x63_7, x63_8, x63_11, x63_14, x63_15, x63_15i, x63_16, x63_19, x63_20, x63_21, x63_24, pushO, List.length_cons, List.length_nil, Nat.reduceAdd, Nat.reduceLeDiff, Nat.le_refl, Nat.zero_le, isD_i, isD_r, isD_l, isD_n, if_true, if_false, ite_true, ite_false, reduceIte, strS h, rowF hR, p1, strS h1, talF h2, p2, strS h3, two_ne, not_false_eq_true, p3, halS]
def newS (S : StrM) : StrM := (clrR (sR S), clrT (sT S), 0, 0)
theorem a64 {K : Option Value → Hp → Prop} {t : Nat} {S : StrM} {σ : Hp} (h : strAt t S σ) : X 64 0 [.ref t] [] σ K = K none (strPut t (newS S) σ) := by
  have hR := strRow h
  have p1 := fun K => a45 (K := K) hR
  simp only [strRowP h] at p1
  have h1 := strAP (t := t) (S := (clrR (sR S), sT S, sN S, sV S)) (σ := σ)
  have h2 := strTal h1
  have p2 := fun K => a78 (K := K) h2
  simp only [strTalP h1, strPP] at p2
  have h3 := strAP (t := t) (S := (clrR (sR S), clrT (sT S), sN S, sV S)) (σ := σ)
  have p3 := strP2 h3 (x := 0)
  rw [strPP] at p3
  have h4 := strAP (t := t) (S := (clrR (sR S), clrT (sT S), 0, sV S)) (σ := σ)
  have p4 := strP3 h4 (x := 0)
  rw [strPP] at p4
  simp only [x64_0, x64_1, x64_4, x64_7, x64_8, x64_11, x64_14, x64_15, x64_16, x64_19, x64_20, x64_21, x64_24, pushO, List.length_cons, List.length_nil, Nat.reduceAdd, Nat.reduceLeDiff, Nat.le_refl, Nat.zero_le, isD_i, isD_r, isD_l, isD_n, if_true, if_false, ite_true, ite_false, reduceIte, strS h, rowF hR, p1, strS h1, talF h2, p2, strS h3, p3, strS h4, p4, newS]
theorem a60 {q : Nat} {S2 : StrM} {K : Option Value → Hp → Prop} {t : Nat} {S : StrM} {σ : Hp} (h : strAt t S σ) (hq : strAt q S2 σ) (hd : q + 8 ≤ t ∨ t + 8 ≤ q) : X 60 0 [.ref t, .ref q] [] σ K = K none (strPut t S2 σ) := by
  have hR := strRow h
  have p1 := fun K => a20 (K := K) hR (strRow hq) (by omega)
  simp only [strRowP h] at p1
  have h1 := strAP (t := t) (S := (sR S2, sT S, sN S, sV S)) (σ := σ)
  have q1 : strAt q S2 (strPut t (sR S2, sT S, sN S, sV S) σ) := strOff hq (by omega)
  have h2 := strTal h1
  have p2 := fun K => a66 (K := K) h2 (strTal q1) (by omega)
  simp only [strTalP h1, strPP] at p2
  have h3 := strAP (t := t) (S := (sR S2, sT S2, sN S, sV S)) (σ := σ)
  have q3 : strAt q S2 (strPut t (sR S2, sT S2, sN S, sV S) σ) := strOff hq (by omega)
  have p3 := strP2 h3 (x := sN S2)
  rw [strPP] at p3
  have h4 := strAP (t := t) (S := (sR S2, sT S2, sN S2, sV S)) (σ := σ)
  have q4 : strAt q S2 (strPut t (sR S2, sT S2, sN S2, sV S) σ) := strOff hq (by omega)
  have p4 := strP3 h4 (x := sV S2)
  rw [strPP] at p4
  simp only [x60_0, x60_1, x60_4, x60_5, x60_8, x60_11, x60_12, x60_15, x60_16, x60_19, x60_22, x60_23, x60_24, x60_27, x60_30, x60_31, x60_32, x60_35, x60_38, pushO, List.length_cons, List.length_nil, Nat.reduceAdd, Nat.reduceLeDiff, Nat.le_refl, Nat.zero_le, isD_i, isD_r, isD_l, isD_n, if_true, if_false, ite_true, ite_false, reduceIte, strS h, strS hq, rowF hR, p1, strS h1, strS q1, talF h2, p2, strS h3, strS q3, p3, strS h4, strS q4, p4]
