/-! new objects: the whole object, the reference, law's opening -/
theorem sl_r {σ : Hp} {ci n k t m : Nat} {fs : List Value} {g : Nat → Option AC} {f : Nat → Option Nat} {i : Int32} {v : Nat} (hg : g 121 = some (.inr (.inr (.inl (t, m, f))))) (hp : 121 < n) : pQ (obA σ ci fs n k g) (σ.2.1 + 122) i v = obA σ ci fs n k (updN g 121 (some (.inr (.inr (.inl (t, m, va_up f i.toNatClampNeg (some v))))))) := obA_r (p := 121) hp hg
theorem sl_w0 {σ : Hp} {ci n k : Nat} {fs vs : List Value} {g : Nat → Option AC} {f : Nat → Option Nat} {i : Int32} (hg : g 121 = some (.inr (.inr (.inl (3, 2, f))))) (hi : inB i 2 = true) (hv : 122 < n) (hgv : g 122 = some (.inl (4, vs))) : okQw (obA σ ci fs n k g) (σ.2.1 + 122) i (σ.2.1 + 123) = true := obA_w (p := 121) (v := 122) (by omega) hg rfl hi hv hgv rfl
theorem sl_w1 {σ : Hp} {ci n k : Nat} {fs vs : List Value} {g : Nat → Option AC} {f : Nat → Option Nat} {i : Int32} (hg : g 121 = some (.inr (.inr (.inl (3, 2, f))))) (hi : inB i 2 = true) (hv : 140 < n) (hgv : g 140 = some (.inl (4, vs))) : okQw (obA σ ci fs n k g) (σ.2.1 + 122) i (σ.2.1 + 141) = true := obA_w (p := 121) (v := 140) (by omega) hg rfl hi hv hgv rfl
def slG (x : Nat) : Nat → Option AC := cat (sg (.inl (4, [.ref (x + 1), .int 0]))) 1 (staC (x + 1) zA)
def xG0 (x : Nat) : Nat → Option AC := cat (cat (cat (cat nul 0 (staC (x + 1) zA)) 17 (hiG (x + 18))) 121 (sg (.inr (.inr (.inl (3, 2, fun _ => none)))))) 122 (slG (x + 123))
def xG1 (x : Nat) : Nat → Option AC := cat (updN (xG0 x) 121 (some (.inr (.inr (.inl (3, 2, va_up (fun _ => none) (0 : Int32).toNatClampNeg (some (x + 123)))))))) 140 (slG (x + 141))
def xG (x : Nat) : Nat → Option AC := cat (cat (cat (updN (xG1 x) 121 (some (.inr (.inr (.inl (3, 2, va_up (va_up (fun _ => none) (0 : Int32).toNatClampNeg (some (x + 123))) (1 : Int32).toNatClampNeg (some (x + 141)))))))) 158 (padC (x + 159) (zF, 0))) 160 (ordC (x + 161) (0, 0, 0, 0, 0, 0))) 161 (rowC (x + 162) (zR 24))
theorem n50' {σ : Hp} {a : Nat} {K : Option Value → Hp → Prop} (ha : a = σ.2.1) : X 50 0 [.ref a] [] (hnew σ (.inl (4, [.null, .int 0])) 2) K = K none (alo σ 18 412 (slG σ.2.1)) := n50 ha
theorem xG0_121 {x : Nat} : xG0 x 121 = some (.inr (.inr (.inl (3, 2, fun _ => none)))) := rfl
theorem xG0_122 {x : Nat} : xG0 x 122 = some (.inl (4, [.ref (x + 124), .int 0])) := rfl
theorem xG1_121 {x : Nat} : xG1 x 121 = some (.inr (.inr (.inl (3, 2, va_up (fun _ => none) (0 : Int32).toNatClampNeg (some (x + 123)))))) := rfl
theorem xG1_140 {x : Nat} : xG1 x 140 = some (.inl (4, [.ref (x + 142), .int 0])) := rfl
theorem x80_37s {b a1 a2 a3 a4 : Nat} {i : Int32} {ls : List Value} {σ : Hp} {K : Option Value → Hp → Prop} : X 80 37 ls [.ref b, .ref a1, .int i, .ref a2, .ref a3, .ref a4] σ K = X 50 0 [.ref b] [] σ (fun v σ' => X 80 40 ls (pushO v [.ref a1, .int i, .ref a2, .ref a3, .ref a4]) σ' K) := X_invI2 (as := []) (idx := 25) (k := 5) (z := 50) (w0 := 0) (w := 0) (n := 0) (q := 1) (by decide +kernel) (by decide +kernel) (by decide +kernel) (by decide +kernel) (by decide +kernel) (by decide +kernel) rfl rfl (by decide +kernel) (Nat.le_of_ble_eq_true rfl) (Nat.le_of_ble_eq_true rfl)
theorem x80_47s {b a1 a2 a3 a4 : Nat} {i : Int32} {ls : List Value} {σ : Hp} {K : Option Value → Hp → Prop} : X 80 47 ls [.ref b, .ref a1, .int i, .ref a2, .ref a3, .ref a4] σ K = X 50 0 [.ref b] [] σ (fun v σ' => X 80 50 ls (pushO v [.ref a1, .int i, .ref a2, .ref a3, .ref a4]) σ' K) := X_invI2 (as := []) (idx := 25) (k := 5) (z := 50) (w0 := 0) (w := 0) (n := 0) (q := 1) (by decide +kernel) (by decide +kernel) (by decide +kernel) (by decide +kernel) (by decide +kernel) (by decide +kernel) rfl rfl (by decide +kernel) (Nat.le_of_ble_eq_true rfl) (Nat.le_of_ble_eq_true rfl)
theorem n80 {σ : Hp} {a : Nat} {K : Option Value → Hp → Prop} (ha : a = σ.2.1) : X 80 0 [.ref a] [] (hnew σ (.inl (8, [.null, .null, .null, .null, .null, .null])) 6) K = K none (obA σ 8 [.ref (σ.2.1 + 1), .ref (σ.2.1 + 18), .ref (σ.2.1 + 122), .ref (σ.2.1 + 159), .ref (σ.2.1 + 161), .ref (σ.2.1 + 162)] 165 3875 (xG σ.2.1)) := by
  subst ha
  rw [hnew_o]
  have i0 : inB 0 2 = true := by decide +kernel
  have i1 : inB 1 2 = true := by decide +kernel
  simp only [x80_0, x80_1, x80_4, x80_5, x80_8, x80_8i, x80_9, x80_12, x80_15, x80_16, x80_19, x80_19i, x80_20, x80_23, x80_26, x80_27, x80_31, x80_31i, x80_32, x80_33, x80_36, x80_36i, x80_37s, x80_28 (n := 2) (N := 2) (by decide +kernel) (by decide +kernel) (by decide +kernel), pushO, List.length_cons, List.length_nil, Nat.reduceAdd, Nat.reduceLeDiff, Nat.le_refl, Nat.zero_le, isD_i, isD_r, isD_l, isD_n, if_true, if_false, ite_true, ite_false, reduceIte, okF_A0, okF_A1, okF_A2, okF_A3, okF_A4, okF_A5, okF_A6, okF_A7, okF_A8, okF_A9, okF_A10, okF_A11, okF_A12, okF_A13, gF_A0, gF_A1, gF_A2, gF_A3, gF_A4, gF_A5, gF_A6, gF_A7, gF_A8, gF_A9, gF_A10, gF_A11, gF_A12, gF_A13, pF_A0, pF_A1, pF_A2, pF_A3, pF_A4, pF_A5, pF_A6, pF_A7, pF_A8, pF_A9, pF_A10, pF_A11, pF_A12, pF_A13, hnew_obA, obA_1, alo_obA, n51, n0, n50']
  have e0 : cat (cat (cat (cat nul 0 (staC (σ.2.1 + 1) zA)) 17 (hiG (σ.2.1 + 18))) 121 (sg (.inr (.inr (.inl (3, 2, fun _ => none)))))) 122 (slG (σ.2.1 + 123)) = xG0 σ.2.1 := rfl
  rw [e0, x80_40 (sl_w0 xG0_121 i0 (by omega) xG0_122), sl_r xG0_121 (by omega)]
  simp only [x80_41, x80_41i, x80_42, x80_43, x80_46, x80_46i, x80_47s, pushO, List.length_cons, List.length_nil, Nat.reduceAdd, Nat.reduceLeDiff, Nat.le_refl, Nat.zero_le, isD_i, isD_r, isD_l, isD_n, if_true, if_false, ite_true, ite_false, reduceIte, okF_A0, okF_A1, okF_A2, okF_A3, okF_A4, okF_A5, okF_A6, okF_A7, okF_A8, okF_A9, okF_A10, okF_A11, okF_A12, okF_A13, gF_A0, gF_A1, gF_A2, gF_A3, gF_A4, gF_A5, gF_A6, gF_A7, gF_A8, gF_A9, gF_A10, gF_A11, gF_A12, gF_A13, pF_A0, pF_A1, pF_A2, pF_A3, pF_A4, pF_A5, pF_A6, pF_A7, pF_A8, pF_A9, pF_A10, pF_A11, pF_A12, pF_A13, hnew_obA, obA_1, alo_obA, n50']
  have e1 : cat (updN (xG0 σ.2.1) 121 (some (.inr (.inr (.inl (3, 2, va_up (fun _ => none) (0 : Int32).toNatClampNeg (some (σ.2.1 + 123)))))))) 140 (slG (σ.2.1 + 141)) = xG1 σ.2.1 := rfl
  rw [e1, x80_50 (sl_w1 xG1_121 i1 (by omega) xG1_140), sl_r xG1_121 (by omega)]
  simp only [x80_51, x80_54, x80_55, x80_58, x80_58i, x80_59, x80_62, x80_65, x80_66, x80_69, x80_69i, x80_70, x80_73, x80_76, x80_77, x80_80, x80_80i, x80_81, x80_83, x80_86, x80_89, pushO, List.length_cons, List.length_nil, Nat.reduceAdd, Nat.reduceLeDiff, Nat.le_refl, Nat.zero_le, isD_i, isD_r, isD_l, isD_n, if_true, if_false, ite_true, ite_false, reduceIte, okF_A0, okF_A1, okF_A2, okF_A3, okF_A4, okF_A5, okF_A6, okF_A7, okF_A8, okF_A9, okF_A10, okF_A11, okF_A12, okF_A13, gF_A0, gF_A1, gF_A2, gF_A3, gF_A4, gF_A5, gF_A6, gF_A7, gF_A8, gF_A9, gF_A10, gF_A11, gF_A12, gF_A13, pF_A0, pF_A1, pF_A2, pF_A3, pF_A4, pF_A5, pF_A6, pF_A7, pF_A8, pF_A9, pF_A10, pF_A11, pF_A12, pF_A13, hnew_obA, obA_1, alo_obA, n16, n4, n19_24]
  rfl
theorem alo_set {σ : Hp} {n k j : Nat} {f : Nat → Option AC} {c : AC} (hj : j < n) : hset (alo σ n k f) (σ.2.1 + j) c = alo σ n k (updN f j (some c)) := by
  refine Hp_ext (fun q => ?_) rfl
  by_cases h1 : q = σ.2.1 + j
  · subst h1
    rw [alo_in hj, updN_s]
    exact if_pos rfl
  · refine (if_neg h1).trans ?_
    by_cases h2 : q < σ.2.1 ∨ σ.2.1 + n ≤ q
    · rw [alo_off h2, alo_off h2]
    · obtain ⟨i, rfl⟩ : ∃ i, q = σ.2.1 + i := ⟨q - σ.2.1, by omega⟩
      rw [alo_in (by omega), alo_in (by omega), updN_n (by omega)]
def zO : OrdM := (0, 0, 0, 0, 0, 0)
def idN : Nat → Nat := fun i => i
theorem opn {σ σ1 : Hp} (h1 : σ1 = obA σ 8 [.ref (σ.2.1 + 1), .ref (σ.2.1 + 18), .ref (σ.2.1 + 122), .ref (σ.2.1 + 159), .ref (σ.2.1 + 161), .ref (σ.2.1 + 162)] 165 3875 (xG σ.2.1)) : Sys σ.2.1 zA idN 0 (fun _ => zA) (fun _ => zA) (fun _ => false) (zF, 0) zO (zR 24) (σ.2.1 + 166, σ.2.2 + 3875) σ1 := by
  have e1 : σ1.2.1 = σ.2.1 + 166 := by rw [h1, obA_1]
  have H : ∀ j, j < 165 → σ1.1 (σ.2.1 + (j + 1)) = xG σ.2.1 j := by
    intro j hj
    rw [h1, obA_j hj]
  generalize hx : σ.2.1 = x at H e1
  refine ⟨?_, ?_, ?_, ?_, ?_, ?_, ?_, ?_, ?_, ?_, ?_, ?_⟩
  · rw [h1, ← hx, obA_c]
    rfl
  · intro j hj
    rw [show x + 1 + j = x + (j + 1) by omega, H _ (by omega)]
    unfold xG xG1 xG0; simp (disch := omega) only [cat_lt, cat_ge, updN_n, updN_s]
    rfl
  · intro j hj
    rw [show x + 18 + j = x + (17 + j + 1) by omega, H _ (by omega)]
    revert j
    exact j2 rfl rfl
  · intro j hj i hi
    rw [show x + 18 + 2 + 17 * j + i = x + (19 + 17 * j + i + 1) by omega, H _ (by omega)]
    unfold xG xG1 xG0; simp (disch := omega) only [cat_lt, cat_ge, updN_n, updN_s]
    unfold hiG
    rw [cat_ge (by omega)]
    unfold hG
    rw [if_neg (by omega), show (19 + 17 * j + i - 17 - 1 - 1) / 17 = j by omega, show (19 + 17 * j + i - 17 - 1 - 1) % 17 = i by omega]
  · rw [show x + 122 = x + (121 + 1) by omega, H _ (by omega)]
    unfold xG xG1 xG0; simp (disch := omega) only [cat_lt, cat_ge, updN_n, updN_s]
    have e : va_up (va_up (fun _ => none) (0 : Int32).toNatClampNeg (some (x + 123))) (1 : Int32).toNatClampNeg (some (x + 141)) = sltF x := by
      have z0 : (0 : Int32).toNatClampNeg = 0 := by decide +kernel
      have z1 : (1 : Int32).toNatClampNeg = 1 := by decide +kernel
      rw [z0, z1]
      funext i
      unfold va_up sltF
      by_cases k1 : i = 1
      · subst k1
        rfl
      · rw [if_neg k1]
        by_cases k0 : i = 0
        · subst k0
          rfl
        · rw [if_neg k0, if_neg (by omega)]
    rw [e]
  · refine j2 ?_ ?_
    · rw [show x + 123 + 18 * 0 = x + (122 + 1) by omega, H _ (by omega)]
      rfl
    · rw [show x + 123 + 18 * 1 = x + (140 + 1) by omega, H _ (by omega)]
      rfl
  · refine j2 (fun i hi => ?_) (fun i hi => ?_)
    · rw [show x + 124 + 18 * 0 + i = x + (123 + i + 1) by omega, H _ (by omega)]
      unfold xG xG1 xG0; simp (disch := omega) only [cat_lt, cat_ge, updN_n, updN_s]
      unfold slG
      rw [cat_ge (by omega), show 123 + i - 122 - 1 = i by omega]
    · rw [show x + 124 + 18 * 1 + i = x + (141 + i + 1) by omega, H _ (by omega)]
      unfold xG xG1 xG0; simp (disch := omega) only [cat_lt, cat_ge, updN_n, updN_s]
      unfold slG
      rw [cat_ge (by omega), show 141 + i - 140 - 1 = i by omega]
  · refine j2 ?_ ?_
    · rw [show x + 159 + 0 = x + (158 + 1) by omega, H _ (by omega)]
      rfl
    · rw [show x + 159 + 1 = x + (159 + 1) by omega, H _ (by omega)]
      rfl
  · intro j hj
    have : j = 0 := by omega
    subst this
    rw [show x + 161 + 0 = x + (160 + 1) by omega, H _ (by omega)]
    rfl
  · intro j hj
    rw [show x + 162 + j = x + (161 + j + 1) by omega, H _ (by omega)]
    unfold xG xG1 xG0; simp (disch := omega) only [cat_lt, cat_ge, updN_n, updN_s]
    rw [show 161 + j - 161 = j by omega]
  · refine Prod.ext e1 ?_
    rw [h1]
    rfl
  · exact ⟨fun i hi => hi, by omega, by show 0 ≤ 80; omega, rfl⟩
theorem open115 {σ : Hp} {b : Nat} (hb : b < σ.2.1) : ∃ σ', Sys σ.2.1 zA idN 0 (fun _ => zA) (fun _ => zA) (fun _ => false) (zF, 0) zO (zR 24) (σ.2.1 + 166, σ.2.2 + 3875) σ' ∧ σ'.1 b = σ.1 b ∧ ∀ K, X 115 0 [.ref b, .null, .null, .null, .null, .null, .null, .null, .null, .null, .null, .null, .null, .null, .null, .null, .null, .null] [] σ K = X 115 8 [.ref b, .ref σ.2.1, .null, .null, .null, .null, .null, .null, .null, .null, .null, .null, .null, .null, .null, .null, .null, .null] [] σ' K := by
  have h := opn (σ := σ) rfl
  refine ⟨_, h, ?_, fun K => ?_⟩
  · rw [obA_off (by omega)]
  · simp only [x115_0, x115_3, x115_3i, x115_4, x115_7, pushO, List.length_cons, List.length_nil, Nat.reduceAdd, Nat.reduceLeDiff, Nat.le_refl, Nat.zero_le, isD_i, isD_r, isD_l, isD_n, if_true, if_false, ite_true, ite_false, reduceIte, n80]
