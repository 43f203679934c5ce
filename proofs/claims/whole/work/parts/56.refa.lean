/-! the reference's seats -/
theorem gt_o {s : Nat → Int32} {t t2 a b : Nat} {v : Int32} (h : t2 ≠ t) (ha : a < 160) (hb : b < 160) : gt (lt_ s t a v) t2 b = gt s t2 b := if_neg (by omega)
def guN (t : Nat) : Nat → Nat → (Nat → Int32) → (Nat → Int32)
  | 0, _, s => s
  | d + 1, n, s => guN t d (n - 1) (guF s t n (wk (vC s t) (vE s t) n))
theorem guF_1 {s : Nat → Int32} {t n k : Nat} : gt (guF s t n k) t 1 = nI (n - 1) := gt_s
theorem l131 {t c m : Nat} {w : Value} {μ : ModM} {σ : Hp} {K : Option Value → Hp → Prop} (ht : t < 2) (hc : c ≤ 12) : ∀ (d n : Nat) (s : Nat → Int32), n - c = d → gt s t 1 = nI n → n ≤ 12 → X 131 43 [.ref m, .int (nI c), w, .int (nI t)] [] (modPut m (ws μ s) σ) K = X 131 66 [.ref m, .int (nI c), w, .int (nI t)] [] (modPut m (ws μ (guN t d n s)) σ) K := by
  intro d
  induction d with
  | zero =>
    intro n s hd hn hb
    have h1 : ¬ nI c < nI n := nI_nlt (by omega) (by omega)
    rw [x131_43]
    simp only [x131_44, x131_45, x131_46, x131_49, x131_50, pushO, List.length_cons, List.length_nil, Nat.reduceAdd, Nat.reduceLeDiff, Nat.le_refl, Nat.zero_le, isD_i, isD_r, isD_l, isD_n, if_true, if_false, ite_true, ite_false, reduceIte, ctx, g113_1 ht, hn, h1, guN]
  | succ d ih =>
    intro n s hd hn hb
    have h1 : nI c < nI n := nI_lt (by omega) (by omega)
    have w1 := wk_lt (c := vC s t) (e := vE s t) (n := n) (by omega)
    have q := fun K => e120 (K := K) (modAP (r := m) (ρ := ws μ s) (σ := σ)) ht hn hb
    simp only [ks_ws] at q
    have g := fun K => g121 (K := K) (m := m) (μ := μ) (σ := σ) (s := s) (k := wk (vC s t) (vE s t) n) ht hn hb w1
    rw [x131_43]
    simp only [x131_44, x131_45, x131_46, x131_49, x131_50, x131_53, x131_54, x131_55, x131_56, x131_57, x131_60, x131_63, pushO, List.length_cons, List.length_nil, Nat.reduceAdd, Nat.reduceLeDiff, Nat.le_refl, Nat.zero_le, isD_i, isD_r, isD_l, isD_n, if_true, if_false, ite_true, ite_false, reduceIte, ctx, g113_1 ht, hn, h1, q, g, guN]
    exact ih (n - 1) _ (by omega) guF_1 (by omega)
theorem d131a {c : Int32} {K : Option Value → Hp → Prop} {m : Nat} {μ : ModM} {σ : Hp} (h : modAt m μ σ) (hc : inR c 1 12 = false) : X 131 0 [.ref m, .int c, .null, .null] [] σ K = K (some (.int (-2))) σ := by
  simp only [x131_0, x131_1, x131_2, x131_5, x131_6, x131_7, x131_9, x131_12, x131_15, x131_17, pushO, List.length_cons, List.length_nil, Nat.reduceAdd, Nat.reduceLeDiff, Nat.le_refl, Nat.zero_le, isD_i, isD_r, isD_l, isD_n, if_true, if_false, ite_true, ite_false, reduceIte, mdF h, mdP0s h, e110, hc, bI_f]
/-- the seats' new number laid down, then stream by stream the weakest give up -/
def stF (s : Nat → Int32) (c n0 n1 : Nat) : Nat → Int32 := guN 1 (n1 - c) n1 (guN 0 (n0 - c) n0 (upd s 0 (nI c)))
theorem gvF_o {t t2 b : Nat} (h : t2 ≠ t) (hb : b < 160) : ∀ (d q : Nat) (s : Nat → Int32), q + d ≤ 150 → gt (gvF t d q s) t2 b = gt s t2 b := by
  intro d
  induction d with
  | zero => intro q s _; rfl
  | succ d ih =>
    intro q s hq
    unfold gvF
    rw [ih _ _ (by omega), gt_o h (by omega) hb]
theorem clF_o {t t2 b : Nat} (h : t2 ≠ t) (hb : b < 160) : ∀ (d q : Nat) (s : Nat → Int32), q + d ≤ 150 → gt (clF t d q s) t2 b = gt s t2 b := by
  intro d
  induction d with
  | zero => intro q s _; rfl
  | succ d ih =>
    intro q s hq
    unfold clF
    rw [ih _ _ (by omega), gt_o h (by omega) hb]
theorem guF_o {s : Nat → Int32} {t t2 n k b : Nat} (h : t2 ≠ t) (hb : b < 160) (hn : n ≤ 12) (hk : k < n) : gt (guF s t n k) t2 b = gt s t2 b := by
  unfold guF
  rw [gt_o h (by omega) hb, clF_o h hb _ _ _ (by omega), gvF_o h hb _ _ _ (by omega)]
theorem guN_o {t t2 b c : Nat} (h : t2 ≠ t) (hb : b < 160) : ∀ (d n : Nat) (s : Nat → Int32), n - c = d → n ≤ 12 → gt (guN t d n s) t2 b = gt s t2 b := by
  intro d
  induction d with
  | zero => intro n s _ _; rfl
  | succ d ih =>
    intro n s hd hn
    unfold guN
    rw [ih _ _ (by omega) (by omega), guF_o h hb hn (wk_lt (by omega))]
theorem inR_12 {c : Int32} (h : inR c 1 12 = true) : ∃ k, 1 ≤ k ∧ k ≤ 12 ∧ c = nI k := by
  unfold inR at h
  by_cases h1 : c < 1
  · rw [if_pos h1] at h; cases h
  · rw [if_neg h1] at h
    by_cases h2 : 12 < c
    · rw [if_pos h2] at h; cases h
    · have a1 := Int32.le_iff_toInt_le.mp (Int32.not_lt.mp h1)
      have a2 := Int32.le_iff_toInt_le.mp (Int32.not_lt.mp h2)
      have e1 : Int32.toInt 1 = 1 := by decide +kernel
      have e2 : Int32.toInt 12 = 12 := by decide +kernel
      refine ⟨c.toInt.toNat, by omega, by omega, Int32.toInt_inj.mp ?_⟩
      rw [nI_toInt (by omega)]
      omega
theorem gt_u0 {s : Nat → Int32} {t b : Nat} {v : Int32} : gt (upd s 0 v) t b = gt s t b := if_neg (by omega)
theorem d131b {c S n0 n1 : Nat} {K : Option Value → Hp → Prop} {m : Nat} {μ : ModM} {σ : Hp} (h : modAt m μ σ) (hm : kum μ ≤ 6) (h1 : 1 ≤ c) (h2 : c ≤ 12) (hS : ks μ 0 = nI S) (hn0 : gt (ks μ) 0 1 = nI n0) (hn1 : gt (ks μ) 1 1 = nI n1) (b0 : n0 ≤ 12) (b1 : n1 ≤ 12) : X 131 0 [.ref m, .int (nI c), .null, .null] [] σ K = K (some (.int (nI S))) (modPut m (ws (rcM μ) (stF (ks μ) c n0 n1)) σ) := by
  have hr : inR (nI c) 1 12 = true := by
    have z1 : ¬ nI c < 1 := by rw [L1]; exact nI_nlt h1 (by omega)
    have z2 : ¬ 12 < nI c := by rw [show (12 : Int32) = nI 12 by decide +kernel]; exact nI_nlt h2 (by omega)
    exact (if_neg z1).trans (if_neg z2)
  have i0 : inB 0 321 = true := by decide +kernel
  have z0 : (0 : Int32).toNatClampNeg = 0 := by decide +kernel
  have f1 := mdF (modAP (r := m) (ρ := ws (rcM μ) (ks μ)) (σ := σ))
  simp only [ks_ws] at f1
  have p := s_set (m := m) (i := 0) (v := nI c) (μ := rcM μ) (σ := σ) (s := ks μ) (by omega)
  rw [nI_0] at p
  have u0 : gt (upd (ks μ) 0 (nI c)) 0 1 = nI n0 := gt_u0.trans hn0
  have u1 : gt (upd (ks μ) 0 (nI c)) 1 1 = nI n1 := gt_u0.trans hn1
  have a0 := fun K => l131 (t := 0) (w := .int (nI S)) (μ := rcM μ) (σ := σ) (m := m) (K := K) (by omega) h2 (n0 - c) n0 _ rfl u0 b0
  have a1 := fun K => l131 (t := 1) (w := .int (nI S)) (μ := rcM μ) (σ := σ) (m := m) (K := K) (by omega) h2 (n1 - c) n1 (guN 0 (n0 - c) n0 (upd (ks μ) 0 (nI c))) rfl ((guN_o (c := c) (by omega) (by omega) _ _ _ rfl b0).trans u1) b1
  rw [nI_0] at a0
  rw [← L1] at a1
  have y0 : (0 : Int32) < 2 := by decide +kernel
  have y1 : (1 : Int32) < 2 := by decide +kernel
  have y2 : ¬ (2 : Int32) < 2 := by decide +kernel
  have s1 : (0 : Int32) + 1 = 1 := by decide +kernel
  have s2 : (1 : Int32) + 1 = 2 := by decide +kernel
  simp only [x131_0, x131_1, x131_2, x131_5, x131_6, x131_7, x131_9, x131_12, x131_15, x131_17, x131_18, x131_19, x131_22, x131_23, x131_26, x131_27, x131_28, x131_29, x131_30, x131_33, x131_34, x131_35, x131_36, x131_37, pushO, List.length_cons, List.length_nil, Nat.reduceAdd, Nat.reduceLeDiff, Nat.le_refl, Nat.zero_le, isD_i, isD_r, isD_l, isD_n, if_true, if_false, ite_true, ite_false, reduceIte, mdF h, mdP0s h, e110, hr, bI_t, i1_ne, q118 h hm, rc_ws, f1, i0, z0, hS, p]
  rw [x131_38]
  simp only [x131_39, x131_40, pushO, List.length_cons, List.length_nil, Nat.reduceAdd, Nat.reduceLeDiff, Nat.le_refl, Nat.zero_le, isD_i, isD_r, isD_l, isD_n, if_true, if_false, ite_true, ite_false, reduceIte, y0, a0]
  simp only [x131_66, x131_69, pushO, List.length_cons, List.length_nil, Nat.reduceAdd, Nat.reduceLeDiff, Nat.le_refl, Nat.zero_le, isD_i, isD_r, isD_l, isD_n, if_true, if_false, ite_true, ite_false, reduceIte, s1]
  rw [x131_38]
  simp only [x131_39, x131_40, pushO, List.length_cons, List.length_nil, Nat.reduceAdd, Nat.reduceLeDiff, Nat.le_refl, Nat.zero_le, isD_i, isD_r, isD_l, isD_n, if_true, if_false, ite_true, ite_false, reduceIte, y1, a1]
  simp only [x131_66, x131_69, pushO, List.length_cons, List.length_nil, Nat.reduceAdd, Nat.reduceLeDiff, Nat.le_refl, Nat.zero_le, isD_i, isD_r, isD_l, isD_n, if_true, if_false, ite_true, ite_false, reduceIte, s2]
  rw [x131_38]
  simp only [x131_39, x131_40, x131_72, x131_73, pushO, List.length_cons, List.length_nil, Nat.reduceAdd, Nat.reduceLeDiff, Nat.le_refl, Nat.zero_le, isD_i, isD_r, isD_l, isD_n, if_true, if_false, ite_true, ite_false, reduceIte, y2, stF]
