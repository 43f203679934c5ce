/-! the reference's joining, loop by loop -/
abbrev JQ : Type := (Nat → Int32) × Nat
def jgQ (V : StaM) (q : JQ) (y : Int32) : JQ := (jgF q.1 q.2 y (jgC V y) (jgE V y), q.2 + 1)
def jlA (V : StaM) (g : Nat → Int32) : Nat → Nat → JQ → JQ
  | 0, _, q => q
  | d + 1, k, q => jlA V g d (k + 1) (jgQ V q (g k))
def jlB (V : StaM) (g0 : Nat → Int32) (n0 : Nat) (g : Nat → Int32) : Nat → Nat → JQ → JQ
  | 0, _, q => q
  | d + 1, k, q => jlB V g0 n0 g d (k + 1) (if seatOfR g0 n0 (g k) = -6 then jgQ V q (g k) else q)
theorem f115 {x t k : Nat} {i : Int32} {μ : ModM} {σ : Hp} {K : Option Value → Hp → Prop} (h : modAt x μ σ) (ht : t < 2) (hk : k < 52) (hi : i = nI t) : X 115 0 [.ref x, .int i, .int (nI k)] [] σ K = K (some (.int (vG (ks μ) t k))) σ := by
  subst hi
  exact e115 h ht hk
theorem l139a {w2 w3 : Value} {m : Nat} {μ : ModM} {σ : Hp} {K : Option Value → Hp → Prop} {n N : Nat → Nat} {S : Nat} (hv : ∀ t, t < 2 → rvOK (ks μ) t (n t) (N t) S) : ∀ (d k : Nat) (q : JQ), n 0 - k = d → k ≤ n 0 → q.2 ≤ k → X 139 7 [.ref m, .int (nI k), w2, w3] [] (modPut m (wJ μ q.1 q.2) σ) K = X 139 33 [.ref m, .int (nI (n 0)), w2, w3] [] (modPut m (wJ μ (jlA (vB (ks μ) n N S) (vG (ks μ) 0) d k q).1 (jlA (vB (ks μ) n N S) (vG (ks μ) 0) d k q).2) σ) K := by
  obtain ⟨o1, o2, o3, o4, o5, o6, o7, o8⟩ := hv 0 (by omega)
  intro d
  induction d with
  | zero =>
    intro k q hd hk hq
    have ek : k = n 0 := by omega
    subst ek
    have h1 : ¬ nI (n 0) < nI (n 0) := nI_nlt (by omega) (by omega)
    have f := mdF (modAP (r := m) (ρ := wJ μ q.1 q.2) (σ := σ))
    have c1 := fun K => f113 (K := K) (i := 0) (j := 1) (modAP (r := m) (ρ := wJ μ q.1 q.2) (σ := σ)) (show 0 < 2 by omega) (show 1 < 160 by omega) nI_0.symm L1
    simp only [ks_wJ] at c1
    rw [x139_7]
    simp only [x139_8, x139_9, x139_10, x139_11, x139_14, pushO, List.length_cons, List.length_nil, Nat.reduceAdd, Nat.reduceLeDiff, Nat.le_refl, Nat.zero_le, isD_i, isD_r, isD_l, isD_n, if_true, if_false, ite_true, ite_false, reduceIte, f, c1, o1, h1, jlA]
  | succ d ih =>
    intro k q hd hk hq
    have h1 : nI k < nI (n 0) := nI_lt (by omega) (by omega)
    have f := mdF (modAP (r := m) (ρ := wJ μ q.1 q.2) (σ := σ))
    have c1 := fun K => f113 (K := K) (i := 0) (j := 1) (modAP (r := m) (ρ := wJ μ q.1 q.2) (σ := σ)) (show 0 < 2 by omega) (show 1 < 160 by omega) nI_0.symm L1
    have c2 := fun K => f115 (K := K) (i := 0) (modAP (r := m) (ρ := wJ μ q.1 q.2) (σ := σ)) (show 0 < 2 by omega) (show k < 52 by omega) nI_0.symm
    simp only [ks_wJ] at c1 c2
    have g := fun y K => g137 (K := K) (m := m) (y := y) (σ := σ) (j := q.1) (c := q.2) hv (by omega)
    rw [x139_7]
    simp only [x139_8, x139_9, x139_10, x139_11, x139_14, x139_17, x139_18, x139_19, x139_20, x139_21, x139_24, x139_27, x139_30, pushO, List.length_cons, List.length_nil, Nat.reduceAdd, Nat.reduceLeDiff, Nat.le_refl, Nat.zero_le, isD_i, isD_r, isD_l, isD_n, if_true, if_false, ite_true, ite_false, reduceIte, f, c1, c2, o1, h1, g, ← nI_succ, jlA]
    exact ih (k + 1) (jgQ (vB (ks μ) n N S) q (vG (ks μ) 0 k)) (by omega) (by omega) (by show q.2 + 1 ≤ k + 1; omega)
theorem l139b {w2 w3 : Value} {m : Nat} {μ : ModM} {σ : Hp} {K : Option Value → Hp → Prop} {n N : Nat → Nat} {S : Nat} (hv : ∀ t, t < 2 → rvOK (ks μ) t (n t) (N t) S) : ∀ (d k : Nat) (q : JQ), n 1 - k = d → k ≤ n 1 → q.2 ≤ 12 + k → X 139 35 [.ref m, .int (nI k), w2, w3] [] (modPut m (wJ μ q.1 q.2) σ) K = X 139 77 [.ref m, .int (nI (n 1)), w2, w3] [] (modPut m (wJ μ (jlB (vB (ks μ) n N S) (vG (ks μ) 0) (n 0) (vG (ks μ) 1) d k q).1 (jlB (vB (ks μ) n N S) (vG (ks μ) 0) (n 0) (vG (ks μ) 1) d k q).2) σ) K := by
  obtain ⟨o1, o2, o3, o4, o5, o6, o7, o8⟩ := hv 0 (by omega)
  obtain ⟨p1, p2, p3, p4, p5, p6, p7, p8⟩ := hv 1 (by omega)
  intro d
  induction d with
  | zero =>
    intro k q hd hk hq
    have ek : k = n 1 := by omega
    subst ek
    have h1 : ¬ nI (n 1) < nI (n 1) := nI_nlt (by omega) (by omega)
    have f := mdF (modAP (r := m) (ρ := wJ μ q.1 q.2) (σ := σ))
    have c1 := fun K => f113 (K := K) (i := 1) (j := 1) (modAP (r := m) (ρ := wJ μ q.1 q.2) (σ := σ)) (show 1 < 2 by omega) (show 1 < 160 by omega) L1 L1
    simp only [ks_wJ] at c1
    rw [x139_35]
    simp only [x139_36, x139_37, x139_38, x139_39, x139_42, pushO, List.length_cons, List.length_nil, Nat.reduceAdd, Nat.reduceLeDiff, Nat.le_refl, Nat.zero_le, isD_i, isD_r, isD_l, isD_n, if_true, if_false, ite_true, ite_false, reduceIte, f, c1, p1, h1, jlB]
  | succ d ih =>
    intro k q hd hk hq
    have h1 : nI k < nI (n 1) := nI_lt (by omega) (by omega)
    have f := mdF (modAP (r := m) (ρ := wJ μ q.1 q.2) (σ := σ))
    have c1 := fun K => f113 (K := K) (i := 1) (j := 1) (modAP (r := m) (ρ := wJ μ q.1 q.2) (σ := σ)) (show 1 < 2 by omega) (show 1 < 160 by omega) L1 L1
    have c2 := fun K => f115 (K := K) (i := 1) (modAP (r := m) (ρ := wJ μ q.1 q.2) (σ := σ)) (show 1 < 2 by omega) (show k < 52 by omega) L1
    have c3 := fun y K => e119 (y := y) (K := K) (modAP (r := m) (ρ := wJ μ q.1 q.2) (σ := σ)) (show 0 < 2 by omega) o1 (by omega)
    simp only [ks_wJ, nI_0] at c1 c2 c3
    have g := fun y K => g137 (K := K) (m := m) (y := y) (σ := σ) (j := q.1) (c := q.2) hv (by omega)
    rw [x139_35]
    by_cases h3 : seatOfR (vG (ks μ) 0) (n 0) (vG (ks μ) 1 k) = -6
    · simp only [x139_36, x139_37, x139_38, x139_39, x139_42, x139_45, x139_46, x139_47, x139_48, x139_49, x139_50, x139_53, x139_56, x139_58, x139_61, x139_62, x139_63, x139_64, x139_65, x139_68, x139_71, x139_74, pushO, List.length_cons, List.length_nil, Nat.reduceAdd, Nat.reduceLeDiff, Nat.le_refl, Nat.zero_le, isD_i, isD_r, isD_l, isD_n, if_true, if_false, ite_true, ite_false, reduceIte, f, c1, c2, c3, p1, h1, h3, g, ← nI_succ, jlB]
      exact ih (k + 1) (jgQ (vB (ks μ) n N S) q (vG (ks μ) 1 k)) (by omega) (by omega) (by show q.2 + 1 ≤ 12 + (k + 1); omega)
    · simp only [x139_36, x139_37, x139_38, x139_39, x139_42, x139_45, x139_46, x139_47, x139_48, x139_49, x139_50, x139_53, x139_56, x139_58, x139_61, x139_62, x139_63, x139_64, x139_65, x139_68, x139_71, x139_74, pushO, List.length_cons, List.length_nil, Nat.reduceAdd, Nat.reduceLeDiff, Nat.le_refl, Nat.zero_le, isD_i, isD_r, isD_l, isD_n, if_true, if_false, ite_true, ite_false, reduceIte, f, c1, c2, c3, p1, h1, h3, ← nI_succ, jlB]
      exact ih (k + 1) q (by omega) (by omega) (by omega)
/-- the true counts of the stream 1 go to the stream 0 -/
def ctN (s : Nat → Int32) (t N : Nat) (y : Int32) : Nat := match seatO (vH s t) N y with
  | some _ => N
  | none => N + 1
def cnA : Nat → Nat → Nat → (Nat → Int32) → Nat × (Nat → Int32)
  | 0, _, N, s => (N, s)
  | d + 1, k, N, s => cnA d (k + 1) (ctN s 0 N (gt s 1 (40 + 2 * k))) (ctF s 0 N (gt s 1 (40 + 2 * k)) (gt s 1 (41 + 2 * k)))
def cnOK : Nat → Nat → Nat → (Nat → Int32) → Prop
  | 0, _, N, _ => N ≤ 60
  | d + 1, k, N, s => N ≤ 60 ∧ (seatO (vH s 0) N (gt s 1 (40 + 2 * k)) = none → N < 60) ∧ cnOK d (k + 1) (ctN s 0 N (gt s 1 (40 + 2 * k))) (ctF s 0 N (gt s 1 (40 + 2 * k)) (gt s 1 (41 + 2 * k)))
theorem ctF_39 {s : Nat → Int32} {t N : Nat} {y z : Int32} (hN : gt s t 39 = nI N) : gt (ctF s t N y z) t 39 = nI (ctN s t N y) := by
  unfold ctF ctN
  cases seatO (vH s t) N y with
  | some j => exact (gt_n (by omega)).trans hN
  | none => exact (gt_n (by omega)).trans gt_s
theorem ctF_o {s : Nat → Int32} {t t2 N b : Nat} {y z : Int32} (ht : t2 ≠ t) (hN : N ≤ 60) (hf : seatO (vH s t) N y = none → N < 60) (hb : b < 160) : gt (ctF s t N y z) t2 b = gt s t2 b := by
  unfold ctF
  cases hs : seatO (vH s t) N y with
  | some j =>
    have := (seatO_lt hs).1
    exact gt_o ht (by omega) hb
  | none =>
    have := hf hs
    exact (gt_o ht (by omega) hb).trans ((gt_o ht (by omega) hb).trans ((gt_o ht (by omega) hb).trans (gt_o ht (by omega) hb)))
theorem l139c {N1 : Nat} {w2 w3 : Value} (b1 : N1 ≤ 60) {m : Nat} {μ : ModM} {σ : Hp} {K : Option Value → Hp → Prop} : ∀ (d k N : Nat) (s : Nat → Int32), N1 - k = d → k ≤ N1 → gt s 1 39 = nI N1 → gt s 0 39 = nI N → cnOK d k N s → X 139 79 [.ref m, .int (nI k), w2, w3] [] (modPut m (ws μ s) σ) K = X 139 125 [.ref m, .int (nI N1), w2, w3] [] (modPut m (ws μ (cnA d k N s).2) σ) K := by
  intro d
  induction d with
  | zero =>
    intro k N s hd hk h39 h0 ok
    have ek : k = N1 := by omega
    subst ek
    have h1 : ¬ nI k < nI k := nI_nlt (by omega) (by omega)
    have c1 := fun K => g113_39 (K := K) (m := m) (μ := μ) (σ := σ) (s := s) (show 1 < 2 by omega)
    rw [← L1] at c1
    rw [x139_79]
    simp only [x139_80, x139_81, x139_82, x139_84, x139_87, pushO, List.length_cons, List.length_nil, Nat.reduceAdd, Nat.reduceLeDiff, Nat.le_refl, Nat.zero_le, isD_i, isD_r, isD_l, isD_n, if_true, if_false, ite_true, ite_false, reduceIte, ctx, c1, h39, h1, cnA]
  | succ d ih =>
    intro k N s hd hk h39 h0 ok
    obtain ⟨k1, k2, k3⟩ := ok
    have h1 : nI k < nI N1 := nI_lt (by omega) (by omega)
    have c1 := fun K => g113_39 (K := K) (m := m) (μ := μ) (σ := σ) (s := s) (show 1 < 2 by omega)
    have c2 := fun K => g113 (K := K) (m := m) (μ := μ) (σ := σ) (s := s) (show 1 < 2 by omega) (show 40 + 2 * k < 160 by omega)
    have c3 := fun K => g113 (K := K) (m := m) (μ := μ) (σ := σ) (s := s) (show 1 < 2 by omega) (show 41 + 2 * k < 160 by omega)
    rw [← L1] at c1 c2 c3
    have g := fun K => g128 (K := K) (m := m) (μ := μ) (σ := σ) (s := s) (y := gt s 1 (40 + 2 * k)) (z := gt s 1 (41 + 2 * k)) (show 0 < 2 by omega) h0 k1 k2
    simp only [nI_0] at g
    rw [x139_79]
    have k1' : nI k + 1 = nI (k + 1) := by rw [L1, nIa]
    simp only [x139_80, x139_81, x139_82, x139_84, x139_87, x139_90, x139_91, x139_92, x139_93, x139_94, x139_96, x139_97, x139_98, x139_99, x139_100, x139_103, x139_104, x139_105, x139_107, x139_108, x139_109, x139_110, x139_111, x139_112, x139_113, x139_116, x139_119, x139_122, pushO, List.length_cons, List.length_nil, Nat.reduceAdd, Nat.reduceLeDiff, Nat.le_refl, Nat.zero_le, isD_i, isD_r, isD_l, isD_n, if_true, if_false, ite_true, ite_false, reduceIte, ctx, c1, h39, h1, ix40, ix41, c2, c3, g, k1', cnA]
    exact ih (k + 1) _ _ (by omega) (by omega) ((ctF_o (by omega) k1 k2 (by omega)).trans h39) (ctF_39 h0) k3
theorem L36 : (36 : Int32) = nI 36 := by decide +kernel
theorem l139d {w2 w3 : Value} {m : Nat} {μ : ModM} {σ : Hp} {K : Option Value → Hp → Prop} : ∀ (d k : Nat) (s : Nat → Int32), 36 - k = d → k ≤ 36 → X 139 146 [.ref m, .int (nI k), w2, w3] [] (modPut m (ws μ s) σ) K = X 139 167 [.ref m, .int (nI 36), w2, w3] [] (modPut m (ws μ (clF 0 d (3 + k) s)) σ) K := by
  intro d
  induction d with
  | zero =>
    intro k s hd hk
    have ek : k = 36 := by omega
    subst ek
    have h1 : ¬ nI 36 < nI 36 := nI_nlt (by omega) (by omega)
    rw [x139_146]
    simp only [x139_147, x139_149, pushO, List.length_cons, List.length_nil, Nat.reduceAdd, Nat.reduceLeDiff, Nat.le_refl, Nat.zero_le, isD_i, isD_r, isD_l, isD_n, if_true, if_false, ite_true, ite_false, reduceIte, L36, h1, clF]
  | succ d ih =>
    intro k s hd hk
    have h1 : nI k < nI 36 := nI_lt (by omega) (by omega)
    have a := fun v K => g114 (K := K) (v := v) (m := m) (μ := μ) (σ := σ) (s := s) (show 0 < 2 by omega) (show 3 + k < 160 by omega)
    simp only [nI_0] at a
    rw [x139_146]
    simp only [x139_147, x139_149, x139_152, x139_153, x139_154, x139_155, x139_156, x139_157, x139_158, x139_161, x139_164, pushO, List.length_cons, List.length_nil, Nat.reduceAdd, Nat.reduceLeDiff, Nat.le_refl, Nat.zero_le, isD_i, isD_r, isD_l, isD_n, if_true, if_false, ite_true, ite_false, reduceIte, ctx, L36, h1, ix3a, a, ← nI_succ, clF]
    exact ih (k + 1) _ (by omega) (by omega)
theorem l139g {w2 w3 : Value} {m : Nat} {μ : ModM} {σ : Hp} {K : Option Value → Hp → Prop} : ∀ (d k : Nat) (s : Nat → Int32), 160 - k = d → k ≤ 160 → X 139 268 [.ref m, .int (nI k), w2, w3] [] (modPut m (ws μ s) σ) K = K none (modPut m (ws μ (clF 1 d k s)) σ) := by
  intro d
  induction d with
  | zero =>
    intro k s hd hk
    have ek : k = 160 := by omega
    subst ek
    have h1 : ¬ nI 160 < nI 160 := nI_nlt (by omega) (by omega)
    rw [x139_268]
    simp only [x139_269, x139_272, x139_288, pushO, List.length_cons, List.length_nil, Nat.reduceAdd, Nat.reduceLeDiff, Nat.le_refl, Nat.zero_le, isD_i, isD_r, isD_l, isD_n, if_true, if_false, ite_true, ite_false, reduceIte, L160, h1, clF]
  | succ d ih =>
    intro k s hd hk
    have h1 : nI k < nI 160 := nI_lt (by omega) (by omega)
    have a := fun v K => g114 (K := K) (v := v) (m := m) (μ := μ) (σ := σ) (s := s) (show 1 < 2 by omega) (show k < 160 by omega)
    rw [← L1] at a
    rw [x139_268]
    simp only [x139_269, x139_272, x139_275, x139_276, x139_277, x139_278, x139_279, x139_282, x139_285, pushO, List.length_cons, List.length_nil, Nat.reduceAdd, Nat.reduceLeDiff, Nat.le_refl, Nat.zero_le, isD_i, isD_r, isD_l, isD_n, if_true, if_false, ite_true, ite_false, reduceIte, ctx, L160, h1, a, ← nI_succ, clF]
    exact ih (k + 1) _ (by omega) (by omega)
/-- the seat r laid down of the joined guest k -/
def plI (j : Nat → Int32) (r k : Nat) : Nat → Nat → (Nat → Int32) → (Nat → Int32)
  | 0, _, s => s
  | d + 1, i, s => plI j r k d (i + 1) (lt_ s 0 (3 + 3 * r + i) (j (3 * k + i)))
def plF (j : Nat → Int32) (c S : Nat) : Nat → Nat → (Nat → Int32) → (Nat → Int32)
  | 0, _, s => s
  | d + 1, k, s => plF j c S d (k + 1) (if ahN j c k < S then plI j (ahN j c k) k 3 0 s else s)
theorem lay_0 {s : Nat → Int32} {t k : Nat} {v : Int32} : lt_ s t k v 0 = s 0 := if_neg (by omega)
theorem plI_0 {j : Nat → Int32} {r k : Nat} : ∀ (d i : Nat) (s : Nat → Int32), plI j r k d i s 0 = s 0 := by
  intro d
  induction d with
  | zero => intro i s; rfl
  | succ d ih =>
    intro i s
    unfold plI
    rw [ih, lay_0]
theorem l139e {j : Nat → Int32} {S r k : Nat} {m : Nat} {μ : ModM} {σ : Hp} {K : Option Value → Hp → Prop} (hj : kj μ = j) (hr : r < S) (hS : S ≤ 12) (hk : k < 24) : ∀ (d i : Nat) (s : Nat → Int32), 3 - i = d → i ≤ 3 → s 0 = nI S → X 139 217 [.ref m, .int (nI k), .int (nI r), .int (nI i)] [] (modPut m (ws μ s) σ) K = X 139 260 [.ref m, .int (nI k), .int (nI r), .int 3] [] (modPut m (ws μ (plI j r k d i s)) σ) K := by
  subst hj
  intro d
  induction d with
  | zero =>
    intro i s hd hi h0
    have ei : i = 3 := by omega
    subst ei
    have h1 : ¬ (3 : Int32) < 3 := by decide +kernel
    rw [← L3, x139_217]
    simp only [x139_218, x139_219, pushO, List.length_cons, List.length_nil, Nat.reduceAdd, Nat.reduceLeDiff, Nat.le_refl, Nat.zero_le, isD_i, isD_r, isD_l, isD_n, if_true, if_false, ite_true, ite_false, reduceIte, h1, plI]
  | succ d ih =>
    intro i s hd hi h0
    have h1 : nI i < 3 := by rw [L3]; exact nI_lt (by omega) (by omega)
    have h2 : nI r < nI S := nI_lt hr (by omega)
    have i0 : inB 0 321 = true := by decide +kernel
    have z0 : (0 : Int32).toNatClampNeg = 0 := by decide +kernel
    have f := mdF (modAP (r := m) (ρ := ws μ s) (σ := σ))
    have ek : kj (ws μ s) = kj μ := rfl
    simp only [ks_ws, ek] at f
    have b1 : inB (nI (3 * k + i)) 72 = true := inB_nI (by omega) (by omega)
    have c1 : (nI (3 * k + i)).toNatClampNeg = 3 * k + i := nI_clamp (by omega)
    have a := fun v K => g114 (K := K) (v := v) (m := m) (μ := μ) (σ := σ) (s := s) (show 0 < 2 by omega) (show 3 + 3 * r + i < 160 by omega)
    simp only [nI_0] at a
    rw [x139_217]
    simp only [x139_218, x139_219, x139_222, x139_223, x139_224, x139_227, x139_228, x139_229, x139_232, x139_233, x139_234, x139_235, x139_236, x139_237, x139_238, x139_239, x139_240, x139_241, x139_242, x139_245, x139_246, x139_247, x139_248, x139_249, x139_250, x139_251, x139_254, x139_257, pushO, List.length_cons, List.length_nil, Nat.reduceAdd, Nat.reduceLeDiff, Nat.le_refl, Nat.zero_le, isD_i, isD_r, isD_l, isD_n, if_true, if_false, ite_true, ite_false, reduceIte, h1, f, i0, z0, h0, h2, ix3, ix3a, nIa, b1, c1, a, ← nI_succ, plI]
    exact ih (i + 1) _ (by omega) (by omega) (lay_0.trans h0)
theorem l139f {j : Nat → Int32} {c S : Nat} {m : Nat} {μ : ModM} {σ : Hp} {K : Option Value → Hp → Prop} (hj : kj μ = j) (hc : kjn μ = c) (hb : c ≤ 24) (hS : S ≤ 12) (pc : ∀ k, k < c → 0 ≤ (jC j k).toInt) (pe : ∀ k, k < c → 0 ≤ (jE j k).toInt) : ∀ (d k : Nat) (s : Nat → Int32) (w2 w3 : Value), isD w2 = false → isD w3 = false → c - k = d → k ≤ c → s 0 = nI S → ∃ w2' w3' : Value, isD w2' = false ∧ isD w3' = false ∧ X 139 201 [.ref m, .int (nI k), w2, w3] [] (modPut m (ws μ s) σ) K = X 139 266 [.ref m, .int (nI c), w2', w3'] [] (modPut m (ws μ (plF j c S d k s)) σ) K := by
  intro d
  induction d with
  | zero =>
    intro k s w2 w3 h2 h3 hd hk h0
    refine ⟨w2, w3, h2, h3, ?_⟩
    have ek : k = c := by omega
    subst ek
    have h1 : ¬ nI k < nI k := nI_nlt (by omega) (by omega)
    have f := mdF (modAP (r := m) (ρ := ws μ s) (σ := σ))
    have ek : kjn (ws μ s) = kjn μ := rfl
    simp only [ek, hc] at f
    rw [x139_201]
    simp only [x139_202, x139_203, x139_206, pushO, List.length_cons, List.length_nil, Nat.reduceAdd, Nat.reduceLeDiff, Nat.le_refl, Nat.zero_le, isD_i, isD_r, isD_l, isD_n, if_true, if_false, ite_true, ite_false, reduceIte, f, h1, plF]
  | succ d ih =>
    intro k s w2 w3 h2 h3 hd hk h0
    have h1 : nI k < nI c := nI_lt (by omega) (by omega)
    have f := mdF (modAP (r := m) (ρ := ws μ s) (σ := σ))
    have ek : kjn (ws μ s) = kjn μ := rfl
    simp only [ek, hc, ks_ws] at f
    have i0 : inB 0 321 = true := by decide +kernel
    have z0 : (0 : Int32).toNatClampNeg = 0 := by decide +kernel
    have y3 : (0 : Int32) < 3 := by decide +kernel
    have g := fun K => e138 (K := K) (i := k) (modAP (r := m) (ρ := ws μ s) (σ := σ)) (j := j) (c := c) hj hc hb (by omega) pc pe
    rw [x139_201]
    unfold plF
    by_cases h4 : ahN j c k < S
    · obtain ⟨v2, v3, q1, q2, q3⟩ := ih (k + 1) (plI j (ahN j c k) k 3 0 s) (.int (nI (ahN j c k))) (.int 3) (isD_i _) (isD_i _) (by omega) (by omega) ((plI_0 _ _ _).trans h0)
      refine ⟨v2, v3, q1, q2, ?_⟩
      have l := l139e (K := K) (m := m) (σ := σ) (k := k) (r := ahN j c k) hj h4 hS (by omega) 3 0 s rfl (by omega) h0
      rw [nI_0] at l
      rw [if_pos h4, ← q3]
      simp only [x139_202, x139_203, x139_206, x139_209, x139_210, x139_211, x139_214, x139_215, x139_216, pushO, List.length_cons, List.length_nil, Nat.reduceAdd, Nat.reduceLeDiff, Nat.le_refl, Nat.zero_le, isD_i, isD_r, isD_l, isD_n, if_true, if_false, ite_true, ite_false, reduceIte, f, h1, g, h2, h3, l]
      simp only [x139_260, x139_263, pushO, List.length_cons, List.length_nil, Nat.reduceAdd, Nat.reduceLeDiff, Nat.le_refl, Nat.zero_le, isD_i, isD_r, isD_l, isD_n, if_true, if_false, ite_true, ite_false, reduceIte, ← nI_succ]
    · obtain ⟨v2, v3, q1, q2, q3⟩ := ih (k + 1) s (.int (nI (ahN j c k))) (.int 0) (isD_i _) (isD_i _) (by omega) (by omega) h0
      refine ⟨v2, v3, q1, q2, ?_⟩
      have ahle : ahN j c k ≤ c := by
        have key : ∀ (d k2 a : Nat), fold (fun a k2 => if ihN (jG j) (jC j) (jE j) k2 k = true then a + 1 else a) d k2 a ≤ a + d := by
          intro d
          induction d with
          | zero => intro k2 a; exact Nat.le_refl _
          | succ d ih2 =>
            intro k2 a
            unfold fold
            split
            · have := ih2 (k2 + 1) (a + 1); omega
            · have := ih2 (k2 + 1) a; omega
        have := key c 0 0
        unfold ahN
        omega
      have h5 : ¬ nI (ahN j c k) < nI S := nI_nlt (by omega) (by omega)
      rw [if_neg h4, ← q3]
      simp only [x139_202, x139_203, x139_206, x139_209, x139_210, x139_211, x139_214, x139_215, x139_216, pushO, List.length_cons, List.length_nil, Nat.reduceAdd, Nat.reduceLeDiff, Nat.le_refl, Nat.zero_le, isD_i, isD_r, isD_l, isD_n, if_true, if_false, ite_true, ite_false, reduceIte, f, h1, g, h2, h3]
      rw [x139_217]
      simp only [x139_218, x139_219, x139_222, x139_223, x139_224, x139_227, x139_228, x139_229, x139_260, x139_263, pushO, List.length_cons, List.length_nil, Nat.reduceAdd, Nat.reduceLeDiff, Nat.le_refl, Nat.zero_le, isD_i, isD_r, isD_l, isD_n, if_true, if_false, ite_true, ite_false, reduceIte, y3, f, i0, z0, h0, h5, ← nI_succ]
