/-! the reference's coming, whole; its refusal -/
theorem gt_s {s : Nat → Int32} {t a : Nat} {v : Int32} : gt (lt_ s t a v) t a = v := if_pos rfl
theorem gt_n {s : Nat → Int32} {t a b : Nat} {v : Int32} (h : b ≠ a) : gt (lt_ s t a v) t b = gt s t b := if_neg (by omega)
theorem vH_n {s : Nat → Int32} {t a : Nat} {v : Int32} (h : a < 40) : vH (lt_ s t a v) t = vH s t := funext fun k => gt_n (by omega)
theorem vD_n {s : Nat → Int32} {t a : Nat} {v : Int32} (h : a < 40) : vD (lt_ s t a v) t = vD s t := funext fun k => gt_n (by omega)
theorem cmP_n {s : Nat → Int32} {t n k b : Nat} {y : Int32} (hb : 39 ≤ b) (hk : k < 12) : gt (cmP s t n k y) t b = gt s t b := by
  unfold cmP
  split
  · rw [gt_n (by omega), gt_n (by omega), gt_n (by omega), gt_n (by omega)]
  · split
    · rfl
    · rw [gt_n (by omega), gt_n (by omega), gt_n (by omega)]
theorem cmQ_n {s : Nat → Int32} {t k b : Nat} {z : Int32} (hb : 39 ≤ b) (hk : k < 12) : gt (cmQ s t k z) t b = gt s t b := by
  unfold cmQ
  rw [gt_n (by omega), gt_n (by omega)]
abbrev vR (s : Nat → Int32) (t n S : Nat) : RowM := (vG s t, vC s t, vE s t, S, n)
theorem sefN_lt {s : Nat → Int32} {t n N S : Nat} {y : Int32} (o : rvOK s t n N S) : sefN (vR s t n S) y < S := by
  obtain ⟨o1, o2, o3, o4, o5, o6, o7, o8⟩ := o
  unfold sefN
  show (match seatO (vG s t) n y with | some k => k | none => if n < S then n else ftgN (vC s t) (vE s t) n) < S
  cases hs : seatO (vG s t) n y with
  | some k =>
    have := (seatO_lt hs).1
    show k < S
    omega
  | none =>
    show (if n < S then n else ftgN (vC s t) (vE s t) n) < S
    by_cases h1 : n < S
    · rw [if_pos h1]
      exact h1
    · rw [if_neg h1, ← wk_ftg o8]
      have := wk_lt (c := vC s t) (e := vE s t) (n := n) (by omega)
      omega
def cmF (s : Nat → Int32) (t n N S : Nat) (y z : Int32) : Nat → Int32 := ctF (cmQ (cmP s t n (sefN (vR s t n S) y) y) t (sefN (vR s t n S) y) z) t N y z
theorem g130 {n N S : Nat} {y z : Int32} {t m : Nat} {μ : ModM} {σ : Hp} {s : Nat → Int32} {K : Option Value → Hp → Prop} (ht : t < 2) (o : rvOK s t n N S) (hf : seatO (vH s t) N y = none → N < 60) : X 130 0 [.ref m, .int (nI t), .int y, .int z, .null, .null] [] (modPut m (ws μ s) σ) K = K (some (.int (nI (sefN (vR s t n S) y)))) (modPut m (ws μ (cmF s t n N S y z)) σ) := by
  have hlt := sefN_lt (y := y) o
  obtain ⟨o1, o2, o3, o4, o5, o6, o7, o8⟩ := id o
  have q := fun K => e129 (y := y) (K := K) (modAP (r := m) (ρ := ws μ s) (σ := σ)) ht o
  have q2 := (sef_N (ρ := vR s t n S) (x := y) (show 1 ≤ S from o3) (show n ≤ 24 by omega)).1
  have q3 : ∀ K, X 129 0 [.ref m, .int (nI t), .int y, .null] [] (modPut m (ws μ s) σ) K = K (some (.int (nI (sefN (vR s t n S) y)))) (modPut m (ws μ s) σ) := fun K => (q K).trans (by rw [← q2]; rfl)
  unfold cmF
  generalize hk : sefN (vR s t n S) y = k at *
  have c1 := fun K => g130c (m := m) (μ := μ) (σ := σ) (K := K) (y := y) (z := z) ht o1 (show k < 12 by omega) (show n ≤ 12 by omega)
  have c2 := fun K => g130b (m := m) (μ := μ) (σ := σ) (K := K) (s := cmP s t n k y) (y := y) (z := z) ht (show k < 12 by omega)
  have e39 : gt (cmQ (cmP s t n k y) t k z) t 39 = nI N := by rw [cmQ_n (by omega) (by omega), cmP_n (by omega) (by omega), o6]
  have eH : vH (cmQ (cmP s t n k y) t k z) t = vH s t := funext fun j => by
    show gt _ t (40 + 2 * j) = _
    rw [cmQ_n (by omega) (by omega), cmP_n (by omega) (by omega)]
    rfl
  have c3 := fun K => g128 (m := m) (μ := μ) (σ := σ) (K := K) (s := cmQ (cmP s t n k y) t k z) (y := y) (z := z) ht e39 o7 (by rw [eH]; exact hf)
  simp only [x130_0, x130_1, x130_2, x130_3, x130_6, x130_8, x130_9, x130_10, x130_12, x130_13, x130_14, pushO, List.length_cons, List.length_nil, Nat.reduceAdd, Nat.reduceLeDiff, Nat.le_refl, Nat.zero_le, isD_i, isD_r, isD_l, isD_n, if_true, if_false, ite_true, ite_false, reduceIte, ctx, q3, ixg]
  rw [c1, c2]
  simp only [x130_153, x130_154, x130_155, x130_156, x130_157, x130_160, x130_162, pushO, List.length_cons, List.length_nil, Nat.reduceAdd, Nat.reduceLeDiff, Nat.le_refl, Nat.zero_le, isD_i, isD_r, isD_l, isD_n, if_true, if_false, ite_true, ite_false, reduceIte, ctx, c3]
theorem e132 {t n N S : Nat} {y z : Int32} {K : Option Value → Hp → Prop} {m : Nat} {μ : ModM} {σ : Hp} (h : modAt m μ σ) (ht : t < 2) (o : rvOK (ks μ) t n N S) : X 132 0 [.ref m, .int (nI t), .int y, .int z, .null] [] σ K = K (some (.int (errC (vS (ks μ) t n N S) y z))) σ := by
  obtain ⟨o1, o2, o3, o4, o5, o6, o7, o8⟩ := o
  have hs : isSt (nI t) = true := by
    have : t = 0 ∨ t = 1 := by omega
    rcases this with rfl | rfl <;> decide +kernel
  have q0 := fun K => e113 (K := K) h ht (show 0 < 160 by omega)
  have q3 := fun K => e113 (K := K) h ht (show 39 < 160 by omega)
  rw [nI_0] at q0
  rw [← L39] at q3
  unfold errC
  show _ = K (some (.int (if isCd y = true then (if z < 1 then -2 else if 999 < z then -2 else if 99999 < gt (ks μ) t 0 + z then -4 else if seatOfR (vH (ks μ) t) N y = -6 then (if nI N < 60 then 0 else -4) else 0) else -2))) σ
  cases hc : isCd y
  · rw [if_neg Bool.false_ne_true]
    simp only [x132_0, x132_1, x132_4, x132_7, x132_8, x132_9, x132_10, x132_13, x132_16, x132_17, x132_18, x132_21, x132_24, x132_27, x132_29, x132_30, x132_31, x132_32, x132_34, x132_37, x132_39, x132_42, x132_43, x132_44, x132_45, x132_48, x132_50, x132_53, x132_54, x132_57, x132_58, x132_60, x132_62, x132_65, x132_66, x132_67, x132_68, x132_71, x132_72, x132_73, x132_75, x132_78, x132_80, x132_83, x132_84, pushO, List.length_cons, List.length_nil, Nat.reduceAdd, Nat.reduceLeDiff, Nat.le_refl, Nat.zero_le, isD_i, isD_r, isD_l, isD_n, if_true, if_false, ite_true, ite_false, reduceIte, mdF h, e111, hs, bI_t, i1_ne, e112, hc, bI_f]
  · rw [if_pos rfl]
    by_cases z1 : z < 1
    · have r1 : inR z 1 999 = false := if_pos z1
      rw [if_pos z1]
      simp only [x132_0, x132_1, x132_4, x132_7, x132_8, x132_9, x132_10, x132_13, x132_16, x132_17, x132_18, x132_21, x132_24, x132_27, x132_29, x132_30, x132_31, x132_32, x132_34, x132_37, x132_39, x132_42, x132_43, x132_44, x132_45, x132_48, x132_50, x132_53, x132_54, x132_57, x132_58, x132_60, x132_62, x132_65, x132_66, x132_67, x132_68, x132_71, x132_72, x132_73, x132_75, x132_78, x132_80, x132_83, x132_84, pushO, List.length_cons, List.length_nil, Nat.reduceAdd, Nat.reduceLeDiff, Nat.le_refl, Nat.zero_le, isD_i, isD_r, isD_l, isD_n, if_true, if_false, ite_true, ite_false, reduceIte, mdF h, e111, hs, bI_t, i1_ne, e112, hc, e110, r1, bI_f]
    · rw [if_neg z1]
      by_cases z2 : 999 < z
      · have r1 : inR z 1 999 = false := (if_neg z1).trans (if_pos z2)
        rw [if_pos z2]
        simp only [x132_0, x132_1, x132_4, x132_7, x132_8, x132_9, x132_10, x132_13, x132_16, x132_17, x132_18, x132_21, x132_24, x132_27, x132_29, x132_30, x132_31, x132_32, x132_34, x132_37, x132_39, x132_42, x132_43, x132_44, x132_45, x132_48, x132_50, x132_53, x132_54, x132_57, x132_58, x132_60, x132_62, x132_65, x132_66, x132_67, x132_68, x132_71, x132_72, x132_73, x132_75, x132_78, x132_80, x132_83, x132_84, pushO, List.length_cons, List.length_nil, Nat.reduceAdd, Nat.reduceLeDiff, Nat.le_refl, Nat.zero_le, isD_i, isD_r, isD_l, isD_n, if_true, if_false, ite_true, ite_false, reduceIte, mdF h, e111, hs, bI_t, i1_ne, e112, hc, e110, r1, bI_f]
      · have r1 : inR z 1 999 = true := (if_neg z1).trans (if_neg z2)
        rw [if_neg z2]
        have n60 : (60 : Int32) = nI 60 := by decide +kernel
        have z0 : ¬ (0 : Int32) = 1 := by decide +kernel
        by_cases hN : N = 60
        · subst hN
          have k1 : nI 60 = (60 : Int32) := by decide +kernel
          have k2 : ¬ nI 60 < (60 : Int32) := by decide +kernel
          rcases seatR_cases (g := vH (ks μ) t) (t := 60) (x := y) with ⟨_, q⟩ | ⟨j, j1, _, _, q⟩
          · rw [if_pos q, if_neg k2]
            simp only [x132_0, x132_1, x132_4, x132_7, x132_8, x132_9, x132_10, x132_13, x132_16, x132_17, x132_18, x132_21, x132_24, x132_27, x132_29, x132_30, x132_31, x132_32, x132_34, x132_37, x132_39, x132_42, x132_43, x132_44, x132_45, x132_48, x132_50, x132_53, x132_54, x132_57, x132_58, x132_60, x132_62, x132_65, x132_66, x132_67, x132_68, x132_71, x132_72, x132_73, x132_75, x132_78, x132_80, x132_83, x132_84, pushO, List.length_cons, List.length_nil, Nat.reduceAdd, Nat.reduceLeDiff, Nat.le_refl, Nat.zero_le, isD_i, isD_r, isD_l, isD_n, if_true, if_false, ite_true, ite_false, reduceIte, mdF h, e111, hs, bI_t, i1_ne, e112, hc, e110, r1, q3, o6, k1, e126 h ht o6 o7, q]
            split <;> rfl
          · have n6 : ¬ nI j = -6 := nI_n6 (by omega)
            have n7 : ¬ seatOfR (vH (ks μ) t) 60 y = -6 := by rw [q]; exact n6
            rw [if_neg n7]
            simp only [x132_0, x132_1, x132_4, x132_7, x132_8, x132_9, x132_10, x132_13, x132_16, x132_17, x132_18, x132_21, x132_24, x132_27, x132_29, x132_30, x132_31, x132_32, x132_34, x132_37, x132_39, x132_42, x132_43, x132_44, x132_45, x132_48, x132_50, x132_53, x132_54, x132_57, x132_58, x132_60, x132_62, x132_65, x132_66, x132_67, x132_68, x132_71, x132_72, x132_73, x132_75, x132_78, x132_80, x132_83, x132_84, pushO, List.length_cons, List.length_nil, Nat.reduceAdd, Nat.reduceLeDiff, Nat.le_refl, Nat.zero_le, isD_i, isD_r, isD_l, isD_n, if_true, if_false, ite_true, ite_false, reduceIte, mdF h, e111, hs, bI_t, i1_ne, e112, hc, e110, r1, q3, o6, k1, e126 h ht o6 o7, q, n6, q0]
            split <;> rfl
        · have k1 : ¬ nI N = (60 : Int32) := by rw [n60, nI_eq_iff (by omega) (by omega)]; exact hN
          have k2 : nI N < (60 : Int32) := by rw [n60]; exact nI_lt (by omega) (by omega)
          rw [if_pos k2]
          simp only [x132_0, x132_1, x132_4, x132_7, x132_8, x132_9, x132_10, x132_13, x132_16, x132_17, x132_18, x132_21, x132_24, x132_27, x132_29, x132_30, x132_31, x132_32, x132_34, x132_37, x132_39, x132_42, x132_43, x132_44, x132_45, x132_48, x132_50, x132_53, x132_54, x132_57, x132_58, x132_60, x132_62, x132_65, x132_66, x132_67, x132_68, x132_71, x132_72, x132_73, x132_75, x132_78, x132_80, x132_83, x132_84, pushO, List.length_cons, List.length_nil, Nat.reduceAdd, Nat.reduceLeDiff, Nat.le_refl, Nat.zero_le, isD_i, isD_r, isD_l, isD_n, if_true, if_false, ite_true, ite_false, reduceIte, mdF h, e111, hs, bI_t, i1_ne, e112, hc, e110, r1, q3, o6, k1, q0]
          split
          · rfl
          · split <;> rfl
