/-! new objects: the history, the whole -/
theorem hG_step {h i j : Nat} (hi : i < 6) (hj : j < 1 + 17 * i + 17) : updN (cat (hG h i) (1 + 17 * i) (staC (h + (1 + 17 * i + 1)) zA)) 0 (some (.inr (.inr (.inl (2, 6, va_up (hF h i) (nI i).toNatClampNeg (some (h + (1 + 17 * i + 1)))))))) j = hG h (i + 1) j := by
  by_cases h0 : j = 0
  · subst h0
    rw [updN_s]
    have e : va_up (hF h i) (nI i).toNatClampNeg (some (h + (1 + 17 * i + 1))) = hF h (i + 1) := by
      rw [nI_clamp (by omega)]
      funext k
      unfold va_up hF
      by_cases h1 : k = i
      · subst h1
        rw [if_pos rfl, if_pos (by omega)]
        congr 1
        omega
      · rw [if_neg h1]
        by_cases h2 : k < i
        · rw [if_pos h2, if_pos (by omega)]
        · rw [if_neg h2, if_neg (by omega)]
    rw [e]
    rfl
  · rw [updN_n h0]
    by_cases h1 : j < 1 + 17 * i
    · rw [cat_lt h1]
      unfold hG
      rw [if_neg h0, if_neg h0]
    · rw [cat_ge (by omega)]
      unfold hG
      rw [if_neg h0, show (j - 1) / 17 = i by omega, show (j - 1) % 17 = j - (1 + 17 * i) by omega, show h + (1 + 17 * i + 1) = h + 2 + 17 * i by omega]
theorem l0 {σ : Hp} {K : Option Value → Hp → Prop} : ∀ (n i : Nat), 6 - i = n → i ≤ 6 → X 0 15 [.ref σ.2.1, .int (nI i)] [] (obA σ 0 [.ref (σ.2.1 + 1), .int 0] (1 + 17 * i) (8 + 410 * i) (hG σ.2.1 i)) K = K none (obA σ 0 [.ref (σ.2.1 + 1), .int 0] 103 2468 (hG σ.2.1 6)) := by
  intro n
  induction n with
  | zero =>
    intro i hn hi
    have : i = 6 := by omega
    subst this
    have hl := obA_L (σ := σ) (ci := 0) (fs := [.ref (σ.2.1 + 1), .int 0]) (n := 1 + 17 * 6) (k := 8 + 410 * 6) (g := hG σ.2.1 6) (p := 0) (by omega) rfl rfl
    rw [Nat.zero_add] at hl
    have n1 : ¬ nI 6 < nI 6 := nI_nlt (by omega) (by omega)
    rw [x0_15]
    simp only [x0_16, x0_17, x0_20, x0_21, x0_24, x0_25, x0_28, x0_29, x0_32, x0_32i, x0_33, x0_36, x0_37, x0_40, x0_43, pushO, List.length_cons, List.length_nil, Nat.reduceAdd, Nat.reduceLeDiff, Nat.le_refl, Nat.zero_le, isD_i, isD_r, isD_l, isD_n, if_true, if_false, ite_true, ite_false, reduceIte, okF_A0, okF_A1, okF_A2, okF_A3, okF_A4, okF_A5, okF_A6, okF_A7, okF_A8, okF_A9, okF_A10, okF_A11, okF_A12, okF_A13, gF_A0, gF_A1, gF_A2, gF_A3, gF_A4, gF_A5, gF_A6, gF_A7, gF_A8, gF_A9, gF_A10, gF_A11, gF_A12, gF_A13, pF_A0, pF_A1, pF_A2, pF_A3, pF_A4, pF_A5, pF_A6, pF_A7, pF_A8, pF_A9, pF_A10, pF_A11, pF_A12, pF_A13, hnew_obA, obA_1, alo_obA, hl, n1]
  | succ n ih =>
    intro i hn hi
    have hl := obA_L (σ := σ) (ci := 0) (fs := [.ref (σ.2.1 + 1), .int 0]) (n := 1 + 17 * i) (k := 8 + 410 * i) (g := hG σ.2.1 i) (p := 0) (by omega) rfl rfl
    rw [Nat.zero_add] at hl
    have n1 : nI i < nI 6 := nI_lt (by omega) (by omega)
    rw [x0_15]
    simp only [x0_16, x0_17, x0_20, x0_21, x0_24, x0_25, x0_28, x0_29, x0_32, x0_32i, x0_33, pushO, List.length_cons, List.length_nil, Nat.reduceAdd, Nat.reduceLeDiff, Nat.le_refl, Nat.zero_le, isD_i, isD_r, isD_l, isD_n, if_true, if_false, ite_true, ite_false, reduceIte, okF_A0, okF_A1, okF_A2, okF_A3, okF_A4, okF_A5, okF_A6, okF_A7, okF_A8, okF_A9, okF_A10, okF_A11, okF_A12, okF_A13, gF_A0, gF_A1, gF_A2, gF_A3, gF_A4, gF_A5, gF_A6, gF_A7, gF_A8, gF_A9, gF_A10, gF_A11, gF_A12, gF_A13, pF_A0, pF_A1, pF_A2, pF_A3, pF_A4, pF_A5, pF_A6, pF_A7, pF_A8, pF_A9, pF_A10, pF_A11, pF_A12, pF_A13, hnew_obA, obA_1, alo_obA, hl, n1, n51]
    have hw := obA_w (σ := σ) (ci := 0) (fs := [.ref (σ.2.1 + 1), .int 0]) (n := 1 + 17 * i + 17) (k := 8 + 410 * i + 410) (g := cat (hG σ.2.1 i) (1 + 17 * i) (staC (σ.2.1 + (1 + 17 * i + 1)) zA)) (p := 0) (t := 2) (m := 6) (f := hF σ.2.1 i) (v := 1 + 17 * i) (cv := 5) (vs := [.ref (σ.2.1 + (1 + 17 * i + 1) + 1), .ref (σ.2.1 + (1 + 17 * i + 1) + 9)]) (i := nI i) (by omega) ((cat_lt (by omega)).trans rfl) rfl (inB_nI (by omega) (by omega)) (by omega) ((cat_ge (Nat.le_refl _)).trans (by rw [Nat.sub_self]; rfl)) rfl
    have hr := obA_r (σ := σ) (ci := 0) (fs := [.ref (σ.2.1 + 1), .int 0]) (n := 1 + 17 * i + 17) (k := 8 + 410 * i + 410) (g := cat (hG σ.2.1 i) (1 + 17 * i) (staC (σ.2.1 + (1 + 17 * i + 1)) zA)) (p := 0) (t := 2) (m := 6) (f := hF σ.2.1 i) (i := nI i) (v := σ.2.1 + (1 + 17 * i + 1)) (by omega) ((cat_lt (by omega)).trans rfl)
    rw [Nat.zero_add] at hw hr
    rw [x0_36 hw, hr, obA_g (fun j hj => hG_step (by omega) hj)]
    have q := ih (i + 1) (by omega) (by omega)
    rw [show 1 + 17 * (i + 1) = 1 + 17 * i + 17 by omega, show 8 + 410 * (i + 1) = 8 + 410 * i + 410 by omega] at q
    simp only [x0_37, x0_40, ← nI_succ, q]
def hiG (h : Nat) : Nat → Option AC := cat (sg (.inl (0, [.ref (h + 1), .int 0]))) 1 (hG h 6)
theorem n0 {σ : Hp} {a : Nat} {K : Option Value → Hp → Prop} (ha : a = σ.2.1) : X 0 0 [.ref a, .null] [] (hnew σ (.inl (0, [.null, .int 0])) 2) K = K none (alo σ 104 2468 (hiG σ.2.1)) := by
  subst ha
  rw [hnew_o]
  simp only [x0_0, x0_1, x0_4, x0_5, x0_10, x0_13, x0_14, x0_7 (n := 6) (N := 6) (by decide +kernel) (by decide +kernel) (by decide +kernel), pushO, List.length_cons, List.length_nil, Nat.reduceAdd, Nat.reduceLeDiff, Nat.le_refl, Nat.zero_le, isD_i, isD_r, isD_l, isD_n, if_true, if_false, ite_true, ite_false, reduceIte, okF_A0, okF_A1, okF_A2, okF_A3, okF_A4, okF_A5, okF_A6, okF_A7, okF_A8, okF_A9, okF_A10, okF_A11, okF_A12, okF_A13, gF_A0, gF_A1, gF_A2, gF_A3, gF_A4, gF_A5, gF_A6, gF_A7, gF_A8, gF_A9, gF_A10, gF_A11, gF_A12, gF_A13, pF_A0, pF_A1, pF_A2, pF_A3, pF_A4, pF_A5, pF_A6, pF_A7, pF_A8, pF_A9, pF_A10, pF_A11, pF_A12, pF_A13, hnew_obA, obA_1, alo_obA]
  have q := l0 (σ := σ) (K := K) 6 0 rfl (by omega)
  rw [nI_0] at q
  have e : ∀ j, j < 1 → cat nul 0 (sg (.inr (.inr (.inl (2, 6, fun _ => none))))) j = hG σ.2.1 0 j := by
    intro j hj
    have : j = 0 := by omega
    subst this
    rw [cat_ge (by omega)]
    show some _ = some _
    congr 4
  rw [obA_g e]
  exact q
