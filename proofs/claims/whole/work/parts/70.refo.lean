/-! the reference's reading of texts: signs, takes, names, numbers, an order -/
def wP (μ : ModM) (a : Nat) (b : Bool) (o : Nat → Int32) (c : Nat) : ModM := (ks μ, ku μ, kum μ, ksl μ, khs μ, kp μ, kpn μ, kj μ, kjn μ, a, b, o, c)
theorem kp_wP {μ : ModM} {a : Nat} {b : Bool} {o : Nat → Int32} {c : Nat} : kp (wP μ a b o c) = kp μ := rfl
theorem kpn_wP {μ : ModM} {a : Nat} {b : Bool} {o : Nat → Int32} {c : Nat} : kpn (wP μ a b o c) = kpn μ := rfl
theorem kat_wP {μ : ModM} {a : Nat} {b : Bool} {o : Nat → Int32} {c : Nat} : kat (wP μ a b o c) = a := rfl
theorem kw_wP {μ : ModM} {a : Nat} {b : Bool} {o : Nat → Int32} {c : Nat} : kw (wP μ a b o c) = b := rfl
theorem ko_wP {μ : ModM} {a : Nat} {b : Bool} {o : Nat → Int32} {c : Nat} : ko (wP μ a b o c) = o := rfl
theorem kon_wP {μ : ModM} {a : Nat} {b : Bool} {o : Nat → Int32} {c : Nat} : kon (wP μ a b o c) = c := rfl
theorem atp_set {m a a2 c : Nat} {b : Bool} {o : Nat → Int32} {μ : ModM} {σ : Hp} : pF (modPut m (wP μ a b o c) σ) m 10 (.int (nI a2)) = modPut m (wP μ a2 b o c) σ := by
  rw [mdP10 modAP, modPP]
  rfl
theorem w_set1 {m a c : Nat} {b : Bool} {o : Nat → Int32} {μ : ModM} {σ : Hp} : pF (modPut m (wP μ a b o c) σ) m 11 (.int 1) = modPut m (wP μ a true o c) σ := by
  rw [mdP11t modAP, modPP]
  rfl
theorem w_set0 {m a c : Nat} {b : Bool} {o : Nat → Int32} {μ : ModM} {σ : Hp} : pF (modPut m (wP μ a b o c) σ) m 11 (.int 0) = modPut m (wP μ a false o c) σ := by
  rw [mdP11f modAP, modPP]
  rfl
theorem o_set {m a c i : Nat} {v : Int32} {b : Bool} {o : Nat → Int32} {μ : ModM} {σ : Hp} (hi : i < 2 ^ 31) : pA (modPut m (wP μ a b o c) σ) (m + 7) (nI i) v = modPut m (wP μ a b (upd o i v) c) σ := by
  rw [mdA7 modAP, modPP, nI_clamp hi]
  rfl
theorem on_set {m a c c2 : Nat} {b : Bool} {o : Nat → Int32} {μ : ModM} {σ : Hp} : pF (modPut m (wP μ a b o c) σ) m 13 (.int (nI c2)) = modPut m (wP μ a b o c2) σ := by
  rw [mdP13 modAP, modPP]
  rfl
def sgP (p : Nat → Int32) (n a : Nat) : Int32 := if a < n then p a else 0
theorem sg_lt {p : Nat → Int32} {n a : Nat} {lo hi : Int32} (h0 : 0 < lo) (h : inR (sgP p n a) lo hi = true) : a < n := by
  by_cases h1 : a < n
  · exact h1
  · unfold sgP at h
    rw [if_neg h1] at h
    unfold inR at h
    rw [if_pos h0] at h
    cases h
theorem g159 {a c : Nat} {b : Bool} {o : Nat → Int32} {m n : Nat} {μ : ModM} {σ : Hp} {K : Option Value → Hp → Prop} (hn : kpn μ = n) (hb : n ≤ 80) (ha : a ≤ n) : X 159 0 [.ref m] [] (modPut m (wP μ a b o c) σ) K = K (some (.int (sgP (kp μ) n a))) (modPut m (wP μ a b o c) σ) := by
  have f := fun a b o c => mdF (modAP (r := m) (ρ := wP μ a b o c) (σ := σ))
  simp only [kp_wP, kpn_wP, kat_wP, kw_wP, ko_wP, kon_wP, hn] at f
  unfold sgP
  by_cases h1 : a < n
  · have h2 : nI a < nI n := nI_lt h1 (by omega)
    have b1 : inB (nI a) 80 = true := inB_nI (by omega) (by omega)
    have c1 : (nI a).toNatClampNeg = a := nI_clamp (by omega)
    rw [if_pos h1]
    simp only [x159_0, x159_1, x159_4, x159_5, x159_8, x159_11, x159_12, x159_15, x159_16, x159_19, x159_20, x159_23, x159_24, pushO, List.length_cons, List.length_nil, Nat.reduceAdd, Nat.reduceLeDiff, Nat.le_refl, Nat.zero_le, isD_i, isD_r, isD_l, isD_n, if_true, if_false, ite_true, ite_false, reduceIte, f, h2, b1, c1]
  · have h2 : ¬ nI a < nI n := nI_nlt (by omega) (by omega)
    rw [if_neg h1]
    simp only [x159_0, x159_1, x159_4, x159_5, x159_8, x159_11, x159_12, x159_15, x159_16, x159_19, x159_20, x159_23, x159_24, pushO, List.length_cons, List.length_nil, Nat.reduceAdd, Nat.reduceLeDiff, Nat.le_refl, Nat.zero_le, isD_i, isD_r, isD_l, isD_n, if_true, if_false, ite_true, ite_false, reduceIte, f, h2]
def tkB (p : Nat → Int32) (n a : Nat) (lo hi : Int32) (b : Bool) : Bool := if b = true then inR (sgP p n a) lo hi else false
def tkA (p : Nat → Int32) (n a : Nat) (lo hi : Int32) (b : Bool) : Nat := if tkB p n a lo hi b = true then a + 1 else a
theorem nI_a0 (a : Nat) : nI a + 0 = nI a := by rw [← nI_0, nIa, Nat.add_zero]
theorem nI_a1 (a : Nat) : nI a + 1 = nI (a + 1) := by rw [L1, nIa]
theorem g160 {a c : Nat} {b : Bool} {o : Nat → Int32} {lo hi : Int32} {m n : Nat} {μ : ModM} {σ : Hp} {K : Option Value → Hp → Prop} (hn : kpn μ = n) (hb : n ≤ 80) (ha : a ≤ n) : X 160 0 [.ref m, .int lo, .int hi, .null] [] (modPut m (wP μ a b o c) σ) K = K (some (.int (sgP (kp μ) n a - lo))) (modPut m (wP μ (tkA (kp μ) n a lo hi b) (tkB (kp μ) n a lo hi b) o c) σ) := by
  have f := fun a b o c => mdF (modAP (r := m) (ρ := wP μ a b o c) (σ := σ))
  simp only [kp_wP, kpn_wP, kat_wP, kw_wP, ko_wP, kon_wP, hn] at f
  have s := fun b o c K => g159 (m := m) (n := n) (a := a) (μ := μ) (σ := σ) (b := b) (o := o) (c := c) (K := K) hn hb ha
  unfold tkA
  cases b
  · have e : tkB (kp μ) n a lo hi false = false := if_neg Bool.false_ne_true
    rw [e, if_neg Bool.false_ne_true]
    simp only [x160_0, x160_1, x160_2, x160_5, x160_8, x160_9, x160_12, x160_13, x160_14, x160_17, x160_20, x160_21, x160_24, x160_25, x160_28, x160_29, x160_32, x160_33, x160_34, x160_35, x160_36, x160_36i, x160_37, x160_40, x160_41, x160_44, x160_47, x160_48, x160_51, x160_52, x160_53, x160_56, x160_57, pushO, List.length_cons, List.length_nil, Nat.reduceAdd, Nat.reduceLeDiff, Nat.le_refl, Nat.zero_le, isD_i, isD_r, isD_l, isD_n, if_true, if_false, ite_true, ite_false, reduceIte, f, s, bI_f, w_set0, atp_set, nI_a0, ok_0]
  · have e : tkB (kp μ) n a lo hi true = inR (sgP (kp μ) n a) lo hi := if_pos rfl
    rw [e]
    cases h3 : inR (sgP (kp μ) n a) lo hi
    · rw [if_neg Bool.false_ne_true]
      simp only [x160_0, x160_1, x160_2, x160_5, x160_8, x160_9, x160_12, x160_13, x160_14, x160_17, x160_20, x160_21, x160_24, x160_25, x160_28, x160_29, x160_32, x160_33, x160_34, x160_35, x160_36, x160_36i, x160_37, x160_40, x160_41, x160_44, x160_47, x160_48, x160_51, x160_52, x160_53, x160_56, x160_57, pushO, List.length_cons, List.length_nil, Nat.reduceAdd, Nat.reduceLeDiff, Nat.le_refl, Nat.zero_le, isD_i, isD_r, isD_l, isD_n, if_true, if_false, ite_true, ite_false, reduceIte, f, s, bI_t, bI_f, i1_ne, e110, h3, w_set0, atp_set, nI_a0, ok_0]
    · rw [if_pos rfl]
      simp only [x160_0, x160_1, x160_2, x160_5, x160_8, x160_9, x160_12, x160_13, x160_14, x160_17, x160_20, x160_21, x160_24, x160_25, x160_28, x160_29, x160_32, x160_33, x160_34, x160_35, x160_36, x160_36i, x160_37, x160_40, x160_41, x160_44, x160_47, x160_48, x160_51, x160_52, x160_53, x160_56, x160_57, pushO, List.length_cons, List.length_nil, Nat.reduceAdd, Nat.reduceLeDiff, Nat.le_refl, Nat.zero_le, isD_i, isD_r, isD_l, isD_n, if_true, if_false, ite_true, ite_false, reduceIte, f, s, bI_t, i1_ne, e110, h3, w_set1, atp_set, nI_a1, ok_1]
theorem tkA_le {p : Nat → Int32} {n a : Nat} {lo hi : Int32} {b : Bool} (h0 : 0 < lo) (ha : a ≤ n) : tkA p n a lo hi b ≤ n := by
  unfold tkA
  split
  · rename_i h
    unfold tkB at h
    cases b
    · rw [if_neg Bool.false_ne_true] at h; cases h
    · rw [if_pos rfl] at h
      have := sg_lt h0 h
      omega
  · exact ha
theorem tkA_ge {p : Nat → Int32} {n a : Nat} {lo hi : Int32} {b : Bool} : a ≤ tkA p n a lo hi b := by
  unfold tkA
  split <;> omega
abbrev NR : Type := Nat × Bool × Int32
def nmF (p : Nat → Int32) (n : Nat) : Nat → Nat → Bool → Int32 → NR
  | 0, a, b, x => (a, b, x)
  | d + 1, a, b, x => if tkB p n a 97 122 b = true then nmF p n d (a + 1) true (27 * x + (sgP p n a - 97) + 1) else (a, b, x)
theorem pos97 : (0 : Int32) < 97 := by decide +kernel
theorem pos48 : (0 : Int32) < 48 := by decide +kernel
theorem pos59 : (0 : Int32) < 59 := by decide +kernel
theorem tk_true {p : Nat → Int32} {n a : Nat} {lo hi : Int32} {b : Bool} (h0 : 0 < lo) (h : tkB p n a lo hi b = true) : b = true ∧ inR (sgP p n a) lo hi = true ∧ a < n := by
  unfold tkB at h
  cases b
  · rw [if_neg Bool.false_ne_true] at h; cases h
  · rw [if_pos rfl] at h
    exact ⟨rfl, h, sg_lt h0 h⟩
theorem l161 {c : Nat} {o : Nat → Int32} {m n : Nat} {μ : ModM} {σ : Hp} {K : Option Value → Hp → Prop} (hn : kpn μ = n) (hb : n ≤ 80) : ∀ (d k a : Nat) (b : Bool) (x : Int32), 4 - k = d → k ≤ 4 → a ≤ n → X 161 13 [.ref m, .int x, .int (nI k)] [] (modPut m (wP μ a b o c) σ) K = K (some (.int (nmF (kp μ) n d a b x).2.2)) (modPut m (wP μ (nmF (kp μ) n d a b x).1 (nmF (kp μ) n d a b x).2.1 o c) σ) := by
  have f := fun a b o c => mdF (modAP (r := m) (ρ := wP μ a b o c) (σ := σ))
  simp only [kp_wP, kpn_wP, kat_wP, kw_wP, ko_wP, kon_wP, hn] at f
  intro d
  induction d with
  | zero =>
    intro k a b x hd hk ha
    have ek : k = 4 := by omega
    subst ek
    have h1 : ¬ nI 4 < 4 := by decide +kernel
    rw [x161_13]
    simp only [x161_14, x161_15, x161_61, x161_62, pushO, List.length_cons, List.length_nil, Nat.reduceAdd, Nat.reduceLeDiff, Nat.le_refl, Nat.zero_le, isD_i, isD_r, isD_l, isD_n, if_true, if_false, ite_true, ite_false, reduceIte, h1, nmF]
  | succ d ih =>
    intro k a b x hd hk ha
    have h1 : nI k < 4 := by rw [show (4 : Int32) = nI 4 by decide +kernel]; exact nI_lt (by omega) (by omega)
    have s := fun K => g159 (m := m) (n := n) (a := a) (μ := μ) (σ := σ) (b := b) (o := o) (c := c) (K := K) hn hb ha
    have t := fun K => g160 (m := m) (n := n) (a := a) (μ := μ) (σ := σ) (b := b) (o := o) (c := c) (lo := 97) (hi := 122) (K := K) hn hb ha
    rw [x161_13]
    unfold nmF
    cases h2 : tkB (kp μ) n a 97 122 b
    · rw [if_neg Bool.false_ne_true]
      unfold tkB at h2
      cases b
      · simp only [x161_14, x161_15, x161_18, x161_19, x161_22, x161_61, x161_62, pushO, List.length_cons, List.length_nil, Nat.reduceAdd, Nat.reduceLeDiff, Nat.le_refl, Nat.zero_le, isD_i, isD_r, isD_l, isD_n, if_true, if_false, ite_true, ite_false, reduceIte, h1, f, bI_f]
      · rw [if_pos rfl] at h2
        simp only [x161_14, x161_15, x161_18, x161_19, x161_22, x161_25, x161_26, x161_29, x161_31, x161_33, x161_36, x161_61, x161_62, pushO, List.length_cons, List.length_nil, Nat.reduceAdd, Nat.reduceLeDiff, Nat.le_refl, Nat.zero_le, isD_i, isD_r, isD_l, isD_n, if_true, if_false, ite_true, ite_false, reduceIte, h1, f, bI_t, i1_ne, s, e110, h2, bI_f]
    · rw [if_pos rfl]
      obtain ⟨e1, e2, e3⟩ := tk_true pos97 h2
      subst e1
      have e4 : tkA (kp μ) n a 97 122 true = a + 1 := if_pos h2
      rw [e4, h2] at t
      simp only [x161_14, x161_15, x161_18, x161_19, x161_22, x161_25, x161_26, x161_29, x161_31, x161_33, x161_36, x161_39, x161_41, x161_42, x161_43, x161_44, x161_46, x161_48, x161_51, x161_52, x161_53, x161_54, x161_55, x161_58, pushO, List.length_cons, List.length_nil, Nat.reduceAdd, Nat.reduceLeDiff, Nat.le_refl, Nat.zero_le, isD_i, isD_r, isD_l, isD_n, if_true, if_false, ite_true, ite_false, reduceIte, h1, f, bI_t, i1_ne, s, e110, e2, t, nI_a1]
      exact ih (k + 1) (a + 1) true _ (by omega) (by omega) (by omega)
def nameF (p : Nat → Int32) (n a : Nat) (b : Bool) : NR := nmF p n 3 (tkA p n a 97 122 b) (tkB p n a 97 122 b) (sgP p n a - 97 + 1)
theorem g161 {a c : Nat} {b : Bool} {o : Nat → Int32} {m n : Nat} {μ : ModM} {σ : Hp} {K : Option Value → Hp → Prop} (hn : kpn μ = n) (hb : n ≤ 80) (ha : a ≤ n) : X 161 0 [.ref m, .null, .null] [] (modPut m (wP μ a b o c) σ) K = K (some (.int (nameF (kp μ) n a b).2.2)) (modPut m (wP μ (nameF (kp μ) n a b).1 (nameF (kp μ) n a b).2.1 o c) σ) := by
  have f := fun a b o c => mdF (modAP (r := m) (ρ := wP μ a b o c) (σ := σ))
  simp only [kp_wP, kpn_wP, kat_wP, kw_wP, ko_wP, kon_wP, hn] at f
  have t := fun K => g160 (m := m) (n := n) (a := a) (μ := μ) (σ := σ) (b := b) (o := o) (c := c) (lo := 97) (hi := 122) (K := K) hn hb ha
  have l := l161 (m := m) (μ := μ) (σ := σ) (o := o) (c := c) (K := K) hn hb 3 1 (tkA (kp μ) n a 97 122 b) (tkB (kp μ) n a 97 122 b) (sgP (kp μ) n a - 97 + 1) rfl (by omega) (tkA_le pos97 ha)
  rw [← L1] at l
  unfold nameF
  simp only [x161_0, x161_1, x161_3, x161_5, x161_8, x161_9, x161_10, x161_11, x161_12, pushO, List.length_cons, List.length_nil, Nat.reduceAdd, Nat.reduceLeDiff, Nat.le_refl, Nat.zero_le, isD_i, isD_r, isD_l, isD_n, if_true, if_false, ite_true, ite_false, reduceIte, f, t, l]
def nuF (p : Nat → Int32) (n : Nat) : Nat → Nat → Bool → Int32 → NR
  | 0, a, b, x => (a, b, x)
  | d + 1, a, b, x => if tkB p n a 48 57 b = true then (if 0 < x then nuF p n d (a + 1) true (10 * x + (sgP p n a - 48)) else (a, b, x)) else (a, b, x)
theorem l162 {c : Nat} {o : Nat → Int32} {m n : Nat} {μ : ModM} {σ : Hp} {K : Option Value → Hp → Prop} (hn : kpn μ = n) (hb : n ≤ 80) : ∀ (d k a : Nat) (b : Bool) (x : Int32), 3 - k = d → k ≤ 3 → a ≤ n → X 162 11 [.ref m, .int x, .int (nI k)] [] (modPut m (wP μ a b o c) σ) K = K (some (.int (nuF (kp μ) n d a b x).2.2)) (modPut m (wP μ (nuF (kp μ) n d a b x).1 (nuF (kp μ) n d a b x).2.1 o c) σ) := by
  have f := fun a b o c => mdF (modAP (r := m) (ρ := wP μ a b o c) (σ := σ))
  simp only [kp_wP, kpn_wP, kat_wP, kw_wP, ko_wP, kon_wP, hn] at f
  intro d
  induction d with
  | zero =>
    intro k a b x hd hk ha
    have ek : k = 3 := by omega
    subst ek
    have h1 : ¬ nI 3 < 3 := by decide +kernel
    rw [x162_11]
    simp only [x162_12, x162_13, x162_61, x162_62, pushO, List.length_cons, List.length_nil, Nat.reduceAdd, Nat.reduceLeDiff, Nat.le_refl, Nat.zero_le, isD_i, isD_r, isD_l, isD_n, if_true, if_false, ite_true, ite_false, reduceIte, h1, nuF]
  | succ d ih =>
    intro k a b x hd hk ha
    have h1 : nI k < 3 := by rw [L3]; exact nI_lt (by omega) (by omega)
    have s := fun K => g159 (m := m) (n := n) (a := a) (μ := μ) (σ := σ) (b := b) (o := o) (c := c) (K := K) hn hb ha
    have t := fun K => g160 (m := m) (n := n) (a := a) (μ := μ) (σ := σ) (b := b) (o := o) (c := c) (lo := 48) (hi := 57) (K := K) hn hb ha
    rw [x162_11]
    unfold nuF
    by_cases h5 : 0 < x
    · cases h2 : tkB (kp μ) n a 48 57 b
      · rw [if_neg Bool.false_ne_true]
        unfold tkB at h2
        cases b
        · simp only [x162_12, x162_13, x162_16, x162_17, x162_20, x162_61, x162_62, pushO, List.length_cons, List.length_nil, Nat.reduceAdd, Nat.reduceLeDiff, Nat.le_refl, Nat.zero_le, isD_i, isD_r, isD_l, isD_n, if_true, if_false, ite_true, ite_false, reduceIte, h1, f, bI_f]
        · rw [if_pos rfl] at h2
          simp only [x162_12, x162_13, x162_16, x162_17, x162_20, x162_23, x162_24, x162_27, x162_28, x162_31, x162_33, x162_35, x162_38, x162_61, x162_62, pushO, List.length_cons, List.length_nil, Nat.reduceAdd, Nat.reduceLeDiff, Nat.le_refl, Nat.zero_le, isD_i, isD_r, isD_l, isD_n, if_true, if_false, ite_true, ite_false, reduceIte, h1, f, bI_t, i1_ne, s, e110, h2, h5, bI_f]
      · rw [if_pos rfl, if_pos h5]
        obtain ⟨e1, e2, e3⟩ := tk_true pos48 h2
        subst e1
        have e4 : tkA (kp μ) n a 48 57 true = a + 1 := if_pos h2
        rw [e4, h2] at t
        simp only [x162_12, x162_13, x162_16, x162_17, x162_20, x162_23, x162_24, x162_27, x162_28, x162_31, x162_33, x162_35, x162_38, x162_41, x162_43, x162_44, x162_45, x162_46, x162_48, x162_50, x162_53, x162_54, x162_55, x162_58, pushO, List.length_cons, List.length_nil, Nat.reduceAdd, Nat.reduceLeDiff, Nat.le_refl, Nat.zero_le, isD_i, isD_r, isD_l, isD_n, if_true, if_false, ite_true, ite_false, reduceIte, h1, f, bI_t, i1_ne, s, e110, e2, h5, t, nI_a1]
        exact ih (k + 1) (a + 1) true _ (by omega) (by omega) (by omega)
    · have e : (if tkB (kp μ) n a 48 57 b = true then (if 0 < x then nuF (kp μ) n d (a + 1) true (10 * x + (sgP (kp μ) n a - 48)) else (a, b, x)) else (a, b, x)) = (a, b, x) := by
        rw [if_neg h5]
        split <;> rfl
      rw [e]
      cases b
      · simp only [x162_12, x162_13, x162_16, x162_17, x162_20, x162_61, x162_62, pushO, List.length_cons, List.length_nil, Nat.reduceAdd, Nat.reduceLeDiff, Nat.le_refl, Nat.zero_le, isD_i, isD_r, isD_l, isD_n, if_true, if_false, ite_true, ite_false, reduceIte, h1, f, bI_f]
      · simp only [x162_12, x162_13, x162_16, x162_17, x162_20, x162_23, x162_24, x162_61, x162_62, pushO, List.length_cons, List.length_nil, Nat.reduceAdd, Nat.reduceLeDiff, Nat.le_refl, Nat.zero_le, isD_i, isD_r, isD_l, isD_n, if_true, if_false, ite_true, ite_false, reduceIte, h1, f, bI_t, i1_ne, h5]
def numF (p : Nat → Int32) (n a : Nat) (b : Bool) : NR := nuF p n 2 (tkA p n a 48 57 b) (tkB p n a 48 57 b) (sgP p n a - 48)
theorem g162 {a c : Nat} {b : Bool} {o : Nat → Int32} {m n : Nat} {μ : ModM} {σ : Hp} {K : Option Value → Hp → Prop} (hn : kpn μ = n) (hb : n ≤ 80) (ha : a ≤ n) : X 162 0 [.ref m, .null, .null] [] (modPut m (wP μ a b o c) σ) K = K (some (.int (numF (kp μ) n a b).2.2)) (modPut m (wP μ (numF (kp μ) n a b).1 (numF (kp μ) n a b).2.1 o c) σ) := by
  have f := fun a b o c => mdF (modAP (r := m) (ρ := wP μ a b o c) (σ := σ))
  simp only [kp_wP, kpn_wP, kat_wP, kw_wP, ko_wP, kon_wP, hn] at f
  have t := fun K => g160 (m := m) (n := n) (a := a) (μ := μ) (σ := σ) (b := b) (o := o) (c := c) (lo := 48) (hi := 57) (K := K) hn hb ha
  have l := l162 (m := m) (μ := μ) (σ := σ) (o := o) (c := c) (K := K) hn hb 2 1 (tkA (kp μ) n a 48 57 b) (tkB (kp μ) n a 48 57 b) (sgP (kp μ) n a - 48) rfl (by omega) (tkA_le pos48 ha)
  rw [← L1] at l
  unfold numF
  simp only [x162_0, x162_1, x162_3, x162_5, x162_8, x162_9, x162_10, pushO, List.length_cons, List.length_nil, Nat.reduceAdd, Nat.reduceLeDiff, Nat.le_refl, Nat.zero_le, isD_i, isD_r, isD_l, isD_n, if_true, if_false, ite_true, ite_false, reduceIte, f, t, l]
theorem nmF_le {p : Nat → Int32} {n : Nat} : ∀ (d a : Nat) (b : Bool) (x : Int32), a ≤ n → a ≤ (nmF p n d a b x).1 ∧ (nmF p n d a b x).1 ≤ n := by
  intro d
  induction d with
  | zero => intro a b x ha; exact ⟨Nat.le_refl _, ha⟩
  | succ d ih =>
    intro a b x ha
    unfold nmF
    split
    · rename_i h
      obtain ⟨_, _, e3⟩ := tk_true pos97 h
      have q := ih (a + 1) true (27 * x + (sgP p n a - 97) + 1) (by omega)
      exact ⟨by omega, q.2⟩
    · exact ⟨Nat.le_refl _, ha⟩
theorem nuF_le {p : Nat → Int32} {n : Nat} : ∀ (d a : Nat) (b : Bool) (x : Int32), a ≤ n → a ≤ (nuF p n d a b x).1 ∧ (nuF p n d a b x).1 ≤ n := by
  intro d
  induction d with
  | zero => intro a b x ha; exact ⟨Nat.le_refl _, ha⟩
  | succ d ih =>
    intro a b x ha
    unfold nuF
    split
    · rename_i h
      obtain ⟨_, _, e3⟩ := tk_true pos48 h
      split
      · have q := ih (a + 1) true (10 * x + (sgP p n a - 48)) (by omega)
        exact ⟨by omega, q.2⟩
      · exact ⟨Nat.le_refl _, ha⟩
    · exact ⟨Nat.le_refl _, ha⟩
theorem nmF_f {p : Nat → Int32} {n a : Nat} {x : Int32} : ∀ d, nmF p n d a false x = (a, false, x)
  | 0 => rfl
  | d + 1 => by
    unfold nmF
    have e : tkB p n a 97 122 false = false := if_neg Bool.false_ne_true
    rw [e, if_neg Bool.false_ne_true]
theorem nuF_f {p : Nat → Int32} {n a : Nat} {x : Int32} : ∀ d, nuF p n d a false x = (a, false, x)
  | 0 => rfl
  | d + 1 => by
    unfold nuF
    have e : tkB p n a 48 57 false = false := if_neg Bool.false_ne_true
    rw [e, if_neg Bool.false_ne_true]
theorem nameF_le {p : Nat → Int32} {n a : Nat} {b : Bool} (ha : a ≤ n) : a ≤ (nameF p n a b).1 ∧ (nameF p n a b).1 ≤ n ∧ ((nameF p n a b).2.1 = true → a + 1 ≤ (nameF p n a b).1) := by
  unfold nameF
  have q := nmF_le (p := p) 3 (tkA p n a 97 122 b) (tkB p n a 97 122 b) (sgP p n a - 97 + 1) (tkA_le pos97 ha)
  have q2 := tkA_ge (p := p) (n := n) (a := a) (lo := 97) (hi := 122) (b := b)
  refine ⟨by omega, q.2, fun h => ?_⟩
  cases h2 : tkB p n a 97 122 b
  · rw [h2, nmF_f] at h
    cases h
  · have e4 : tkA p n a 97 122 b = a + 1 := if_pos h2
    rw [h2] at q
    omega
theorem numF_le {p : Nat → Int32} {n a : Nat} {b : Bool} (ha : a ≤ n) : a ≤ (numF p n a b).1 ∧ (numF p n a b).1 ≤ n := by
  unfold numF
  have q := nuF_le (p := p) 2 (tkA p n a 48 57 b) (tkB p n a 48 57 b) (sgP p n a - 48) (tkA_le pos48 ha)
  have q2 := tkA_ge (p := p) (n := n) (a := a) (lo := 48) (hi := 57) (b := b)
  exact ⟨by omega, q.2⟩
