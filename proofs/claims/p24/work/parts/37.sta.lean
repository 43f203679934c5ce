/-! the state of both streams -/
abbrev StaM : Type := StrM × StrM
abbrev aZ (A : StaM) : StrM := A.1
abbrev aO (A : StaM) : StrM := A.2
def staC (a : Nat) (A : StaM) (j : Nat) : Option AC := if j = 0 then some (.inl (5, [.ref (a + 1), .ref (a + 9)])) else if j < 9 then strC (a + 1) (aZ A) (j - 1) else strC (a + 9) (aO A) (j - 9)
def staAt (a : Nat) (A : StaM) (σ : Hp) : Prop := atC σ a 17 (staC a A)
def staPut (a : Nat) (A : StaM) (σ : Hp) : Hp := ov σ a 17 (staC a A)
theorem sta_z (a : Nat) (A : StaM) (j : Nat) (hj : j < 8) : staC a A (1 + j) = strC (a + 1) (aZ A) j := by
  unfold staC
  rw [if_neg (by omega), if_pos (by omega), Nat.add_sub_cancel_left]
theorem sta_o (a : Nat) (A : StaM) (j : Nat) (hj : j < 8) : staC a A (9 + j) = strC (a + 9) (aO A) j := by
  unfold staC
  rw [if_neg (by omega), if_neg (by omega), Nat.add_sub_cancel_left]
theorem sta_0 {a : Nat} {A : StaM} {σ : Hp} (h : staAt a A σ) : σ.1 a = some (.inl (5, [.ref (a + 1), .ref (a + 9)])) := h 0 (by omega)
theorem staZ {a : Nat} {A : StaM} {σ : Hp} (h : staAt a A σ) : strAt (a + 1) (aZ A) σ := atC_sub h (by omega) (fun j hj => sta_z a A j hj)
theorem staO {a : Nat} {A : StaM} {σ : Hp} (h : staAt a A σ) : strAt (a + 9) (aO A) σ := atC_sub h (by omega) (fun j hj => sta_o a A j hj)
theorem staZP {a : Nat} {A : StaM} {σ : Hp} (h : staAt a A σ) {S : StrM} : strPut (a + 1) S σ = staPut a (S, aO A) σ := ov_sub h (by omega) (fun j hj => sta_z a (S, aO A) j hj) (fun j hj hn => by
  unfold staC
  by_cases h0 : j = 0
  · rw [if_pos h0, if_pos h0]
  · rw [if_neg h0, if_neg h0, if_neg (by omega), if_neg (by omega)])
theorem staOP {a : Nat} {A : StaM} {σ : Hp} (h : staAt a A σ) {S : StrM} : strPut (a + 9) S σ = staPut a (aZ A, S) σ := ov_sub h (by omega) (fun j hj => sta_o a (aZ A, S) j hj) (fun j hj hn => by
  unfold staC
  by_cases h0 : j = 0
  · rw [if_pos h0, if_pos h0]
  · rw [if_neg h0, if_neg h0, if_pos (by omega), if_pos (by omega)])
theorem staS {a : Nat} {A : StaM} {σ : Hp} (h : staAt a A σ) : okO σ a 5 = true ∧ okF σ a 5 0 = true ∧ okF σ a 5 1 = true ∧ gF σ a 0 = .ref (a + 1) ∧ gF σ a 1 = .ref (a + 9) :=
  ⟨(okO_ob (sta_0 h)).trans rfl, (okF_ob (sta_0 h)).trans rfl, (okF_ob (sta_0 h)).trans rfl, (gF_ob (sta_0 h)).trans rfl, (gF_ob (sta_0 h)).trans rfl⟩
theorem staAP {a : Nat} {A : StaM} {σ : Hp} : staAt a A (staPut a A σ) := ov_at
theorem staPP {a : Nat} {A B : StaM} {σ : Hp} : staPut a B (staPut a A σ) = staPut a B σ := ov_ov
theorem staPS {a : Nat} {A : StaM} {σ : Hp} (h : staAt a A σ) : staPut a A σ = σ := ov_self h
theorem staOff {a : Nat} {A : StaM} {σ : Hp} (h : staAt a A σ) {b m : Nat} {g : Nat → Option AC} (hd : a + 17 ≤ b ∨ b + m ≤ a) : staAt a A (ov σ b m g) := atC_off h hd
theorem a52 {q : Nat} {B : StaM} {K : Option Value → Hp → Prop} {a : Nat} {A : StaM} {σ : Hp} (h : staAt a A σ) (hq : staAt q B σ) (hd : q + 17 ≤ a ∨ a + 17 ≤ q) : X 52 0 [.ref a, .ref q] [] σ K = K none (staPut a B σ) := by
  have p1 := fun K => a60 (K := K) (staZ h) (staZ hq) (by omega)
  simp only [staZP h] at p1
  have h1 := staAP (a := a) (A := (aZ B, aO A)) (σ := σ)
  have q1 : staAt q B (staPut a (aZ B, aO A) σ) := staOff hq (by omega)
  have p2 := fun K => a60 (K := K) (staO h1) (staO q1) (by omega)
  simp only [staOP h1, staPP] at p2
  simp only [x52_0, x52_1, x52_4, x52_5, x52_8, x52_11, x52_12, x52_15, x52_16, x52_19, x52_22, pushO, List.length_cons, List.length_nil, Nat.reduceAdd, Nat.reduceLeDiff, Nat.le_refl, Nat.zero_le, isD_i, isD_r, isD_l, isD_n, if_true, if_false, ite_true, ite_false, reduceIte, staS h, staS hq, strS (staZ h), p1, staS h1, staS q1, strS (staO h1), p2]
theorem e53 {i : Int32} {K : Option Value → Hp → Prop} {a : Nat} {A : StaM} {σ : Hp} (h : staAt a A σ) : X 53 0 [.ref a, .int i] [] σ K = K (some (.ref (if i = 0 then a + 1 else a + 9))) σ := by
  by_cases h0 : i = 0
  · simp only [x53_0, x53_1, x53_4, x53_5, x53_8, x53_11, x53_12, x53_15, pushO, List.length_cons, List.length_nil, Nat.reduceAdd, Nat.reduceLeDiff, Nat.le_refl, Nat.zero_le, isD_i, isD_r, isD_l, isD_n, if_true, if_false, ite_true, ite_false, reduceIte, staS h, h0]
  · simp only [x53_0, x53_1, x53_4, x53_5, x53_8, x53_11, x53_12, x53_15, pushO, List.length_cons, List.length_nil, Nat.reduceAdd, Nat.reduceLeDiff, Nat.le_refl, Nat.zero_le, isD_i, isD_r, isD_l, isD_n, if_true, if_false, ite_true, ite_false, reduceIte, staS h, h0]
theorem e54 {K : Option Value → Hp → Prop} {a : Nat} {A : StaM} {σ : Hp} (h : staAt a A σ) : X 54 0 [.ref a] [] σ K = K (some (.int (nI (rS (sR (aZ A)))))) σ := by
  simp only [x54_0, x54_1, x54_4, x54_7, x54_10, pushO, List.length_cons, List.length_nil, Nat.reduceAdd, Nat.reduceLeDiff, Nat.le_refl, Nat.zero_le, isD_i, isD_r, isD_l, isD_n, if_true, if_false, ite_true, ite_false, reduceIte, staS h, strS (staZ h), rowF (strRow (staZ h))]
/-- both streams, in bounds, with one number of seats -/
def okSa (A : StaM) : Prop := okSt (aZ A) ∧ okSt (aO A)
abbrev chgS (S : StrM) (m : Nat) : StrM := (chgR (sR S) m, sT S, sN S, sV S)
theorem a55 {m : Nat} {K : Option Value → Hp → Prop} {a : Nat} {A : StaM} {σ : Hp} (h : staAt a A σ) (ho : okSa A) (hm : m ≤ 24) : X 55 0 [.ref a, .int (nI m)] [] σ K = K none (staPut a (chgS (aZ A) m, chgS (aO A) m) σ) := by
  have o1 := ho.1.1
  have o2 := ho.1.2.2.1
  have o3 := ho.2.1
  have o4 := ho.2.2.2.1
  have p1 := fun K => a47 (K := K) (m := m) (strRow (staZ h)) hm (by omega)
  simp only [strRowP (staZ h), staZP h] at p1
  have h1 := staAP (a := a) (A := (chgS (aZ A) m, aO A)) (σ := σ)
  have p2 := fun K => a47 (K := K) (m := m) (strRow (staO h1)) hm (show rT (sR (aO A)) ≤ 24 by omega)
  simp only [strRowP (staO h1), staOP h1, staPP] at p2
  simp only [x55_0, x55_1, x55_4, x55_7, x55_8, x55_11, x55_12, x55_15, x55_18, x55_19, x55_22, pushO, List.length_cons, List.length_nil, Nat.reduceAdd, Nat.reduceLeDiff, Nat.le_refl, Nat.zero_le, isD_i, isD_r, isD_l, isD_n, if_true, if_false, ite_true, ite_false, reduceIte, staS h, strS (staZ h), rowF (strRow (staZ h)), p1, staS h1, strS (staO h1), rowF (strRow (staO h1)), p2]
def errJ (A : StaM) : Int32 := if 99999 < sN (aZ A) + sN (aO A) then -4 else if 60 < nI (unlT (sT (aZ A)) (sT (aO A))) then -4 else 0
theorem a56 {K : Option Value → Hp → Prop} {a : Nat} {A : StaM} {σ : Hp} (h : staAt a A σ) (ho : okSa A) : X 56 0 [.ref a] [] σ K = K (some (.int (errJ A))) σ := by
  unfold errJ
  have hz := staZ h
  have hon := staO h
  have tz := strTal hz
  have t1 := strTal hon
  by_cases h1 : 99999 < sN (aZ A) + sN (aO A)
  · simp only [x56_0, x56_1, x56_4, x56_7, x56_8, x56_11, x56_14, x56_15, x56_17, x56_20, x56_22, x56_23, x56_24, x56_27, x56_30, x56_31, x56_34, x56_37, x56_40, x56_42, x56_45, x56_47, x56_50, x56_51, pushO, List.length_cons, List.length_nil, Nat.reduceAdd, Nat.reduceLeDiff, Nat.le_refl, Nat.zero_le, isD_i, isD_r, isD_l, isD_n, if_true, if_false, ite_true, ite_false, reduceIte, staS h, strS hz, strS hon, h1]
  · by_cases h2 : 60 < nI (unlT (sT (aZ A)) (sT (aO A)))
    · simp only [x56_0, x56_1, x56_4, x56_7, x56_8, x56_11, x56_14, x56_15, x56_17, x56_20, x56_22, x56_23, x56_24, x56_27, x56_30, x56_31, x56_34, x56_37, x56_40, x56_42, x56_45, x56_47, x56_50, x56_51, pushO, List.length_cons, List.length_nil, Nat.reduceAdd, Nat.reduceLeDiff, Nat.le_refl, Nat.zero_le, isD_i, isD_r, isD_l, isD_n, if_true, if_false, ite_true, ite_false, reduceIte, staS h, strS hz, strS hon, h1, h2, talF tz, b73 tz ho.1.2.2.2 t1 ho.2.2.2.2]
    · simp only [x56_0, x56_1, x56_4, x56_7, x56_8, x56_11, x56_14, x56_15, x56_17, x56_20, x56_22, x56_23, x56_24, x56_27, x56_30, x56_31, x56_34, x56_37, x56_40, x56_42, x56_45, x56_47, x56_50, x56_51, pushO, List.length_cons, List.length_nil, Nat.reduceAdd, Nat.reduceLeDiff, Nat.le_refl, Nat.zero_le, isD_i, isD_r, isD_l, isD_n, if_true, if_false, ite_true, ite_false, reduceIte, staS h, strS hz, strS hon, h1, h2, talF tz, b73 tz ho.1.2.2.2 t1 ho.2.2.2.2]
/-- a guest is joined into the row J -/
def ijR (A : StaM) (J : RowM) (x : Int32) : RowM := ibwR J x (mosR (sR (aZ A)) x + mosR (sR (aO A)) x) (mosR (sR (aZ A)) x + mosR (sR (aO A)) x - (lesR (sR (aZ A)) x + lesR (sR (aO A)) x))
theorem a58 {q : Nat} {J : RowM} {x : Int32} {K : Option Value → Hp → Prop} {a : Nat} {A : StaM} {σ : Hp} (h : staAt a A σ) (ho : okSa A) (hq : rowAt q J σ) (hs : rS J ≤ 24) (ht : rT J < rS J) : X 58 0 [.ref a, .ref q, .int x, .null, .null] [] σ K = K none (rowPut q (ijR A J x) σ) := by
  have o1 := ho.1.1
  have o2 := ho.1.2.2.1
  have o3 := ho.2.1
  have o4 := ho.2.2.2.1
  have hz := staZ h
  have hon := staO h
  have rz := strRow hz
  have r1 := strRow hon
  have p1 := fun K => a43 (K := K) (x := x) (y := mosR (sR (aZ A)) x + mosR (sR (aO A)) x) (z := mosR (sR (aZ A)) x + mosR (sR (aO A)) x - (lesR (sR (aZ A)) x + lesR (sR (aO A)) x)) hq hs ht
  simp only [x58_0, x58_1, x58_4, x58_7, x58_8, x58_11, x58_12, x58_15, x58_18, x58_19, x58_22, x58_23, x58_24, x58_25, x58_28, x58_31, x58_32, x58_35, x58_36, x58_39, x58_42, x58_43, x58_46, x58_47, x58_49, x58_50, x58_51, x58_52, x58_53, x58_55, x58_56, x58_59, pushO, List.length_cons, List.length_nil, Nat.reduceAdd, Nat.reduceLeDiff, Nat.le_refl, Nat.zero_le, isD_i, isD_r, isD_l, isD_n, if_true, if_false, ite_true, ite_false, reduceIte, staS h, strS hz, strS hon, rowF rz, rowF r1, rowF hq, b26 rz (show rT (sR (aZ A)) ≤ 24 by omega) (show rS (sR (aZ A)) ≤ 24 by omega), b26 r1 (show rT (sR (aO A)) ≤ 24 by omega) (show rS (sR (aO A)) ≤ 24 by omega), b27 rz (show rT (sR (aZ A)) ≤ 24 by omega), b27 r1 (show rT (sR (aO A)) ≤ 24 by omega), p1, ijR]
def jnA (A : StaM) : Nat → Nat → RowM → RowM
  | 0, _, J => J
  | n + 1, k, J => jnA A n (k + 1) (ijR A J (rG (sR (aZ A)) k))
def jnB (A : StaM) : Nat → Nat → RowM → RowM
  | 0, _, J => J
  | n + 1, k, J => jnB A n (k + 1) (if seatOfR (rG (sR (aZ A))) (rT (sR (aZ A))) (rG (sR (aO A)) k) = -6 then ijR A J (rG (sR (aO A)) k) else J)
theorem ijR_st {A : StaM} {J : RowM} {x : Int32} : rS (ijR A J x) = rS J ∧ rT (ijR A J x) = rT J + 1 := ⟨rfl, rfl⟩
theorem jnA_st {A : StaM} : ∀ (n k : Nat) (J : RowM), rS (jnA A n k J) = rS J ∧ rT (jnA A n k J) = rT J + n
  | 0, _, _ => ⟨rfl, rfl⟩
  | n + 1, k, J => by
    obtain ⟨a1, a2⟩ := jnA_st (A := A) n (k + 1) (ijR A J (rG (sR (aZ A)) k))
    obtain ⟨b1, b2⟩ := ijR_st (A := A) (J := J) (x := rG (sR (aZ A)) k)
    unfold jnA
    exact ⟨a1.trans b1, by omega⟩
theorem jnB_st {A : StaM} : ∀ (n k : Nat) (J : RowM), rS (jnB A n k J) = rS J ∧ rT (jnB A n k J) ≤ rT J + n
  | 0, _, _ => ⟨rfl, Nat.le_refl _⟩
  | n + 1, k, J => by
    unfold jnB
    by_cases hc : seatOfR (rG (sR (aZ A))) (rT (sR (aZ A))) (rG (sR (aO A)) k) = -6
    · rw [if_pos hc]
      obtain ⟨a1, a2⟩ := jnB_st (A := A) n (k + 1) (ijR A J (rG (sR (aO A)) k))
      obtain ⟨b1, b2⟩ := ijR_st (A := A) (J := J) (x := rG (sR (aO A)) k)
      exact ⟨a1.trans b1, by omega⟩
    · rw [if_neg hc]
      obtain ⟨a1, a2⟩ := jnB_st (A := A) n (k + 1) J
      exact ⟨a1, by omega⟩
theorem rowOffS {r : Nat} {ρ : RowM} {σ : Hp} {a : Nat} {A : StaM} (h : staAt a A σ) (hd : a + 17 ≤ r ∨ r + 4 ≤ a) : staAt a A (rowPut r ρ σ) := staOff h hd
theorem l57a {a q : Nat} {A : StaM} {σ : Hp} {K : Option Value → Hp → Prop} (h : staAt a A σ) (ho : okSa A) (hd : a + 17 ≤ q ∨ q + 4 ≤ a) : ∀ (n k : Nat) (J : RowM), rT (sR (aZ A)) - k = n → k ≤ rT (sR (aZ A)) → rS J = 24 → rT J = k → X 57 6 [.ref a, .ref q, .int (nI k), .null] [] (rowPut q J σ) K = X 57 42 [.ref a, .ref q, .int (nI (rT (sR (aZ A)))), .null] [] (rowPut q (jnA A n k J) σ) K := by
  have o1 := ho.1.1
  have o2 := ho.1.2.2.1
  intro n
  induction n with
  | zero =>
    intro k J hn hk hs ht
    have h' := rowOffS (ρ := J) h hd
    have h1 : ¬ nI k < nI (rT (sR (aZ A))) := nI_nlt (by omega) (by omega)
    have ek : k = rT (sR (aZ A)) := by omega
    rw [x57_6]
    simp only [x57_7, x57_8, x57_11, x57_14, x57_17, x57_20, x57_21, x57_22, x57_23, x57_26, x57_29, x57_30, x57_33, x57_36, x57_39, pushO, List.length_cons, List.length_nil, Nat.reduceAdd, Nat.reduceLeDiff, Nat.le_refl, Nat.zero_le, isD_i, isD_r, isD_l, isD_n, if_true, if_false, ite_true, ite_false, reduceIte, staS h', strS (staZ h'), rowF (strRow (staZ h')), h1, jnA, ek]
    simp only [Int32.lt_irrefl, if_false]
  | succ n ih =>
    intro k J hn hk hs ht
    have h' := rowOffS (ρ := J) h hd
    have hz := staZ h'
    have rz := strRow hz
    have hq : rowAt q J (rowPut q J σ) := rowAP
    have h1 : nI k < nI (rT (sR (aZ A))) := nI_lt (by omega) (by omega)
    have p1 := fun K => a58 (K := K) (x := rG (sR (aZ A)) k) h' ho hq (by omega) (by omega)
    simp only [rowPP] at p1
    rw [x57_6]
    simp only [x57_7, x57_8, x57_11, x57_14, x57_17, x57_20, x57_21, x57_22, x57_23, x57_26, x57_29, x57_30, x57_33, x57_36, x57_39, pushO, List.length_cons, List.length_nil, Nat.reduceAdd, Nat.reduceLeDiff, Nat.le_refl, Nat.zero_le, isD_i, isD_r, isD_l, isD_n, if_true, if_false, ite_true, ite_false, reduceIte, staS h', strS hz, rowF rz, h1, b22 rz (show rT (sR (aZ A)) ≤ 24 by omega), at_nI (f := rG (sR (aZ A))) (show k < rT (sR (aZ A)) by omega) (by omega), p1, ← nI_succ, jnA]
    obtain ⟨b1, b2⟩ := ijR_st (A := A) (J := J) (x := rG (sR (aZ A)) k)
    exact ih (k + 1) _ (by omega) (by omega) (by omega) (by omega)
theorem l57b {a q : Nat} {A : StaM} {σ : Hp} {K : Option Value → Hp → Prop} (h : staAt a A σ) (ho : okSa A) (hd : a + 17 ≤ q ∨ q + 4 ≤ a) : ∀ (n k : Nat) (J : RowM) (w : Value), isD w = false → rT (sR (aO A)) - k = n → k ≤ rT (sR (aO A)) → rS J = 24 → rT J ≤ 12 + k → ∃ w' : Value, X 57 44 [.ref a, .ref q, .int (nI k), w] [] (rowPut q J σ) K = X 57 98 [.ref a, .ref q, .int (nI (rT (sR (aO A)))), w'] [] (rowPut q (jnB A n k J) σ) K := by
  have o1 := ho.1.1
  have o2 := ho.1.2.2.1
  have o3 := ho.2.1
  have o4 := ho.2.2.2.1
  intro n
  induction n with
  | zero =>
    intro k J w hw hn hk hs ht
    have h' := rowOffS (ρ := J) h hd
    have h1 : ¬ nI k < nI (rT (sR (aO A))) := nI_nlt (by omega) (by omega)
    have ek : k = rT (sR (aO A)) := by omega
    refine ⟨w, ?_⟩
    rw [x57_44]
    simp only [x57_45, x57_46, x57_49, x57_52, x57_55, x57_58, x57_59, x57_62, x57_65, x57_66, x57_69, x57_70, x57_71, x57_74, x57_77, x57_78, x57_81, x57_83, x57_86, x57_87, x57_88, x57_89, x57_92, x57_95, pushO, List.length_cons, List.length_nil, Nat.reduceAdd, Nat.reduceLeDiff, Nat.le_refl, Nat.zero_le, isD_i, isD_r, isD_l, isD_n, if_true, if_false, ite_true, ite_false, reduceIte, staS h', strS (staO h'), rowF (strRow (staO h')), h1, jnB, ek]
    simp only [Int32.lt_irrefl, if_false]
  | succ n ih =>
    intro k J w hw hn hk hs ht
    have h' := rowOffS (ρ := J) h hd
    have hz := staZ h'
    have rz := strRow hz
    have hon := staO h'
    have r1 := strRow hon
    have hq : rowAt q J (rowPut q J σ) := rowAP
    have h1 : nI k < nI (rT (sR (aO A))) := nI_lt (by omega) (by omega)
    have p1 := fun K => a58 (K := K) (x := rG (sR (aO A)) k) h' ho hq (by omega) (by omega)
    simp only [rowPP] at p1
    obtain ⟨b1, b2⟩ := ijR_st (A := A) (J := J) (x := rG (sR (aO A)) k)
    rw [x57_44]
    by_cases hc : seatOfR (rG (sR (aZ A))) (rT (sR (aZ A))) (rG (sR (aO A)) k) = -6
    · simp only [x57_45, x57_46, x57_49, x57_52, x57_55, x57_58, x57_59, x57_62, x57_65, x57_66, x57_69, x57_70, x57_71, x57_74, x57_77, x57_78, x57_81, x57_83, x57_86, x57_87, x57_88, x57_89, x57_92, x57_95, pushO, List.length_cons, List.length_nil, Nat.reduceAdd, Nat.reduceLeDiff, Nat.le_refl, Nat.zero_le, isD_i, isD_r, isD_l, isD_n, if_true, if_false, ite_true, ite_false, reduceIte, hw, staS h', strS hz, strS hon, rowF rz, rowF r1, h1, b22 r1 (show rT (sR (aO A)) ≤ 24 by omega), at_nI (f := rG (sR (aO A))) (show k < rT (sR (aO A)) by omega) (by omega), b25 rz (show rT (sR (aZ A)) ≤ 24 by omega), hc, p1, ← nI_succ, jnB]
      exact ih (k + 1) _ _ (isD_i _) (by omega) (by omega) (by omega) (by omega)
    · simp only [x57_45, x57_46, x57_49, x57_52, x57_55, x57_58, x57_59, x57_62, x57_65, x57_66, x57_69, x57_70, x57_71, x57_74, x57_77, x57_78, x57_81, x57_83, x57_86, x57_87, x57_88, x57_89, x57_92, x57_95, pushO, List.length_cons, List.length_nil, Nat.reduceAdd, Nat.reduceLeDiff, Nat.le_refl, Nat.zero_le, isD_i, isD_r, isD_l, isD_n, if_true, if_false, ite_true, ite_false, reduceIte, hw, staS h', strS hz, strS hon, rowF rz, rowF r1, h1, b22 r1 (show rT (sR (aO A)) ≤ 24 by omega), at_nI (f := rG (sR (aO A))) (show k < rT (sR (aO A)) by omega) (by omega), b25 rz (show rT (sR (aZ A)) ≤ 24 by omega), hc, ← nI_succ, jnB]
      exact ih (k + 1) _ _ (isD_i _) (by omega) (by omega) (by omega) (by omega)
/-- the joined row, the streams behind a joining -/
def jnJ (A : StaM) (J : RowM) : RowM := jnB A (rT (sR (aO A))) 0 (jnA A (rT (sR (aZ A))) 0 (clrR J))
def jnZ (A : StaM) (J : RowM) : StrM := (rplR (sR (aZ A)) (jnJ A J), aaF (tG (sT (aO A))) (tC (sT (aO A))) (tN (sT (aO A))) 0 (sT (aZ A)), sN (aZ A) + sN (aO A), sV (aZ A))
def jnS (A : StaM) (J : RowM) : StaM := (jnZ A J, newS (aO A))
theorem a57 {a q : Nat} {A : StaM} {J : RowM} {σ : Hp} {K : Option Value → Hp → Prop} (h : staAt a A σ) (ho : okSa A) (hd : a + 17 ≤ q ∨ q + 4 ≤ a) (hq : rowAt q J σ) (hs : rS J = 24) (haa : aaOK (tG (sT (aO A))) (tC (sT (aO A))) (tN (sT (aO A))) 0 (sT (aZ A))) : X 57 0 [.ref a, .ref q, .null, .null] [] σ K = K none (staPut a (jnS A J) (rowPut q (jnJ A J) σ)) := by
  have o1 := ho.1.1
  have o2 := ho.1.2.2.1
  have o3 := ho.2.1
  have o4 := ho.2.2.2.1
  have p0 := fun K => a45 (K := K) hq
  have hA := l57a (K := K) h ho hd (rT (sR (aZ A))) 0 (clrR J) (by omega) (by omega) hs rfl
  obtain ⟨a1, a2⟩ := jnA_st (A := A) (rT (sR (aZ A))) 0 (clrR J)
  have a2' : rT (clrR J) = 0 := rfl
  have a1' : rS (clrR J) = rS J := rfl
  obtain ⟨w, hB⟩ := l57b (K := K) h ho hd (rT (sR (aO A))) 0 (jnA A (rT (sR (aZ A))) 0 (clrR J)) .null isD_n (by omega) (by omega) (by omega) (by omega)
  obtain ⟨b1, b2⟩ := jnB_st (A := A) (rT (sR (aO A))) 0 (jnA A (rT (sR (aZ A))) 0 (clrR J))
  rw [nI_0] at hA hB
  simp only [x57_0, x57_1, x57_4, x57_5, pushO, List.length_cons, List.length_nil, Nat.reduceAdd, Nat.reduceLeDiff, Nat.le_refl, Nat.zero_le, isD_i, isD_r, isD_l, isD_n, if_true, if_false, ite_true, ite_false, reduceIte, rowF hq, p0]
  rw [hA]
  simp only [x57_42, x57_43, pushO, List.length_cons, List.length_nil, Nat.reduceAdd, Nat.reduceLeDiff, Nat.le_refl, Nat.zero_le, isD_i, isD_r, isD_l, isD_n, if_true, if_false, ite_true, ite_false, reduceIte]
  rw [hB]
  have hJ : rT (jnJ A J) ≤ 24 := by unfold jnJ; omega
  have h0 := rowOffS (ρ := jnJ A J) h hd
  have hz := staZ h0
  have hon := staO h0
  have q0 : rowAt q (jnJ A J) (rowPut q (jnJ A J) σ) := rowAP
  have p1 := fun K => a46 (K := K) (strRow hz) q0 (by omega) (by omega) hJ
  simp only [strRowP hz, staZP h0] at p1
  have h1 := staAP (a := a) (A := ((rplR (sR (aZ A)) (jnJ A J), sT (aZ A), sN (aZ A), sV (aZ A)), aO A)) (σ := rowPut q (jnJ A J) σ)
  have p2 := fun K => a75 (K := K) (strTal (staZ h1)) (strTal (staO h1)) (by omega) ho.2.2.2.2 haa
  simp only [strTalP (staZ h1), staZP h1, staPP] at p2
  have h2 := staAP (a := a) (A := ((rplR (sR (aZ A)) (jnJ A J), aaF (tG (sT (aO A))) (tC (sT (aO A))) (tN (sT (aO A))) 0 (sT (aZ A)), sN (aZ A), sV (aZ A)), aO A)) (σ := rowPut q (jnJ A J) σ)
  have p3 := strP2 (staZ h2) (x := sN (aZ A) + sN (aO A))
  simp only [staZP h2, staPP] at p3
  have h3 := staAP (a := a) (A := (jnZ A J, aO A)) (σ := rowPut q (jnJ A J) σ)
  have p4 := fun K => a64 (K := K) (staO h3)
  simp only [staOP h3, staPP] at p4
  change X 57 98 [.ref a, .ref q, .int (nI (rT (sR (aO A)))), w] [] (rowPut q (jnJ A J) σ) K = _
  simp only [x57_98, x57_99, x57_102, x57_105, x57_106, x57_109, x57_110, x57_113, x57_116, x57_117, x57_120, x57_123, x57_126, x57_127, x57_130, x57_130i, x57_131, x57_134, x57_135, x57_138, x57_141, x57_142, x57_145, x57_146, x57_149, x57_152, pushO, List.length_cons, List.length_nil, Nat.reduceAdd, Nat.reduceLeDiff, Nat.le_refl, Nat.zero_le, isD_i, isD_r, isD_l, isD_n, if_true, if_false, ite_true, ite_false, reduceIte, staS h0, strS hz, rowF (strRow hz), p1, staS h1, strS (staZ h1), strS (staO h1), talF (strTal (staZ h1)), p2, staS h2, strS (staZ h2), strS (staO h2), p3]
  simp only [jnZ, jnS] at p4 h3 ⊢
  simp only [x57_142, x57_145, x57_146, x57_149, x57_152, pushO, List.length_cons, List.length_nil, Nat.reduceAdd, Nat.reduceLeDiff, Nat.le_refl, Nat.zero_le, isD_i, isD_r, isD_l, isD_n, if_true, if_false, ite_true, ite_false, reduceIte, staS h3, strS (staO h3), p4]
