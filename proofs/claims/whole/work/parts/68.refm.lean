/-! the reference's joining, whole -/
theorem jlA_c {V : StaM} {g : Nat → Int32} : ∀ (d k : Nat) (q : JQ), (jlA V g d k q).2 = q.2 + d
  | 0, _, _ => rfl
  | d + 1, k, q => by
    unfold jlA
    rw [jlA_c d]
    show q.2 + 1 + d = _
    omega
theorem jlB_c {V : StaM} {g0 g : Nat → Int32} {n0 : Nat} : ∀ (d k : Nat) (q : JQ), (jlB V g0 n0 g d k q).2 ≤ q.2 + d
  | 0, _, _ => Nat.le_refl _
  | d + 1, k, q => by
    unfold jlB
    split
    · have := jlB_c (V := V) (g0 := g0) (g := g) (n0 := n0) d (k + 1) (jgQ V q (g k))
      have e : (jgQ V q (g k)).2 = q.2 + 1 := rfl
      omega
    · have := jlB_c (V := V) (g0 := g0) (g := g) (n0 := n0) d (k + 1) q
      omega
/-- all who are joined; the row of streams then -/
def rjQ (j : Nat → Int32) (V : StaM) : JQ := jlB V (rG (sR (aZ V))) (rT (sR (aZ V))) (rG (sR (aO V))) (rT (sR (aO V))) 0 (jlA V (rG (sR (aZ V))) (rT (sR (aZ V))) 0 (j, 0))
def rj2 (s : Nat → Int32) : Nat → Int32 := lt_ s 0 0 (gt s 0 0 + gt s 1 0)
def rj3 (s : Nat → Int32) (S c : Nat) : Nat → Int32 := lt_ (clF 0 36 3 (rj2 s)) 0 1 (nI (min c S))
def rjS (s : Nat → Int32) (N0 N1 S : Nat) (j : Nat → Int32) (c : Nat) : Nat → Int32 := clF 1 160 0 (plF j c S c 0 (rj3 (cnA N1 0 N0 s).2 S c))
theorem clF_0 {t : Nat} : ∀ (d q : Nat) (s : Nat → Int32), clF t d q s 0 = s 0 := by
  intro d
  induction d with
  | zero => intro q s; rfl
  | succ d ih =>
    intro q s
    unfold clF
    rw [ih, lay_0]
theorem ctF_0 {s : Nat → Int32} {t N : Nat} {y z : Int32} : ctF s t N y z 0 = s 0 := by
  unfold ctF
  cases seatO (vH s t) N y with
  | some j => exact lay_0
  | none => exact lay_0.trans (lay_0.trans (lay_0.trans lay_0))
theorem cnA_0 : ∀ (d k N : Nat) (s : Nat → Int32), (cnA d k N s).2 0 = s 0 := by
  intro d
  induction d with
  | zero => intro k N s; rfl
  | succ d ih =>
    intro k N s
    unfold cnA
    rw [ih, ctF_0]
theorem g139 {K : Option Value → Hp → Prop} {m : Nat} {μ : ModM} {σ : Hp} (h : modAt m μ σ) {n N : Nat → Nat} {S : Nat} (hv : ∀ t, t < 2 → rvOK (ks μ) t (n t) (N t) S) (hc : cnOK (N 1) 0 (N 0) (ks μ)) (pc : ∀ k, k < (rjQ (kj μ) (vB (ks μ) n N S)).2 → 0 ≤ (jC (rjQ (kj μ) (vB (ks μ) n N S)).1 k).toInt) (pe : ∀ k, k < (rjQ (kj μ) (vB (ks μ) n N S)).2 → 0 ≤ (jE (rjQ (kj μ) (vB (ks μ) n N S)).1 k).toInt) : X 139 0 [.ref m, .null, .null, .null] [] σ K = K none (modPut m (ws (wJ μ (rjQ (kj μ) (vB (ks μ) n N S)).1 (rjQ (kj μ) (vB (ks μ) n N S)).2) (rjS (ks μ) (N 0) (N 1) S (rjQ (kj μ) (vB (ks μ) n N S)).1 (rjQ (kj μ) (vB (ks μ) n N S)).2)) σ) := by
  obtain ⟨o1, o2, o3, o4, o5, o6, o7, o8⟩ := hv 0 (by omega)
  obtain ⟨p1, p2, p3, p4, p5, p6, p7, p8⟩ := hv 1 (by omega)
  have a1 := l139a (m := m) (σ := σ) (K := K) (w2 := .null) (w3 := .null) hv (n 0) 0 (kj μ, 0) rfl (by omega) (by show 0 ≤ 0; omega)
  have a2 := l139b (m := m) (σ := σ) (K := K) (w2 := .null) (w3 := .null) hv (n 1) 0 (jlA (vB (ks μ) n N S) (vG (ks μ) 0) (n 0) 0 (kj μ, 0)) rfl (by omega) (by rw [jlA_c]; show 0 + n 0 ≤ 12 + 0; omega)
  have hle : (rjQ (kj μ) (vB (ks μ) n N S)).2 ≤ 24 := by
    have q1 := jlB_c (V := vB (ks μ) n N S) (g0 := vG (ks μ) 0) (g := vG (ks μ) 1) (n0 := n 0) (n 1) 0 (jlA (vB (ks μ) n N S) (vG (ks μ) 0) (n 0) 0 (kj μ, 0))
    rw [jlA_c] at q1
    have q2 : (rjQ (kj μ) (vB (ks μ) n N S)).2 ≤ 0 + n 0 + n 1 := q1
    omega
  have eq : jlB (vB (ks μ) n N S) (vG (ks μ) 0) (n 0) (vG (ks μ) 1) (n 1) 0 (jlA (vB (ks μ) n N S) (vG (ks μ) 0) (n 0) 0 (kj μ, 0)) = rjQ (kj μ) (vB (ks μ) n N S) := rfl
  rw [eq] at a2
  generalize rjQ (kj μ) (vB (ks μ) n N S) = q at *
  obtain ⟨j, c⟩ := q
  have z := mdP9z h
  have ez : modPut m (wjn μ 0) σ = modPut m (wJ μ (kj μ) 0) σ := rfl
  rw [ez] at z
  rw [nI_0] at a1 a2
  have a3 := l139c (m := m) (σ := σ) (K := K) (w2 := .null) (w3 := .null) (μ := wJ μ j c) p7 (N 1) 0 (N 0) (ks μ) (by omega) (by omega) p6 o6 hc
  have e3 : modPut m (wJ μ j c) σ = modPut m (ws (wJ μ j c) (ks μ)) σ := rfl
  rw [nI_0] at a3
  have a4 := fun s => l139d (m := m) (σ := σ) (K := K) (w2 := .null) (w3 := .null) (μ := wJ μ j c) 36 0 s rfl (by omega)
  rw [nI_0] at a4
  simp only [Nat.add_zero] at a4
  have s0 : rj3 (cnA (N 1) 0 (N 0) (ks μ)).2 S c 0 = nI S := by
    unfold rj3 rj2
    rw [lay_0, clF_0, lay_0, cnA_0]
    exact o5
  obtain ⟨v2, v3, q1, q2, a5⟩ := l139f (m := m) (μ := wJ μ j c) (σ := σ) (K := K) (j := j) (c := c) (S := S) rfl rfl hle o4 pc pe c 0 (rj3 (cnA (N 1) 0 (N 0) (ks μ)).2 S c) .null .null isD_n isD_n rfl (by omega) s0
  have a6 := l139g (m := m) (σ := σ) (K := K) (w2 := v2) (w3 := v3) (μ := wJ μ j c) 160 0 (plF j c S c 0 (rj3 (cnA (N 1) 0 (N 0) (ks μ)).2 S c)) rfl (by omega)
  rw [nI_0] at a5 a6
  have f1 := mdF (modAP (r := m) (ρ := wJ μ (kj μ) 0) (σ := σ))
  have g0 := fun s K => g113_0 (K := K) (m := m) (μ := wJ μ j c) (σ := σ) (s := s) (show 0 < 2 by omega)
  have g1 := fun s K => g113_0 (K := K) (m := m) (μ := wJ μ j c) (σ := σ) (s := s) (show 1 < 2 by omega)
  have g2 := fun s v K => g114_0 (K := K) (m := m) (μ := wJ μ j c) (σ := σ) (s := s) (v := v) (show 0 < 2 by omega)
  have g3 := fun s v K => g114_1 (K := K) (m := m) (μ := wJ μ j c) (σ := σ) (s := s) (v := v) (show 0 < 2 by omega)
  rw [nI_0] at g0 g2 g3
  rw [← L1] at g1
  simp only [x139_0, x139_1, x139_2, x139_5, x139_6, pushO, List.length_cons, List.length_nil, Nat.reduceAdd, Nat.reduceLeDiff, Nat.le_refl, Nat.zero_le, isD_i, isD_r, isD_l, isD_n, if_true, if_false, ite_true, ite_false, reduceIte, mdF h, z]
  rw [a1]
  simp only [x139_33, x139_34, pushO, List.length_cons, List.length_nil, Nat.reduceAdd, Nat.reduceLeDiff, Nat.le_refl, Nat.zero_le, isD_i, isD_r, isD_l, isD_n, if_true, if_false, ite_true, ite_false, reduceIte]
  rw [a2]
  simp only [x139_77, x139_78, pushO, List.length_cons, List.length_nil, Nat.reduceAdd, Nat.reduceLeDiff, Nat.le_refl, Nat.zero_le, isD_i, isD_r, isD_l, isD_n, if_true, if_false, ite_true, ite_false, reduceIte, e3]
  rw [a3]
  unfold rjS
  generalize (cnA (N 1) 0 (N 0) (ks μ)).2 = s1 at *
  simp only [x139_125, x139_126, x139_127, x139_128, x139_129, x139_130, x139_131, x139_134, x139_135, x139_136, x139_137, x139_140, x139_141, x139_144, x139_145, pushO, List.length_cons, List.length_nil, Nat.reduceAdd, Nat.reduceLeDiff, Nat.le_refl, Nat.zero_le, isD_i, isD_r, isD_l, isD_n, if_true, if_false, ite_true, ite_false, reduceIte, ctx, g0, g1, g2]
  rw [show lt_ s1 0 0 (gt s1 0 0 + gt s1 1 0) = rj2 s1 from rfl, a4]
  have f2 := mdF (modAP (r := m) (ρ := ws (wJ μ j c) (clF 0 36 3 (rj2 s1))) (σ := σ))
  have ekn : kjn (ws (wJ μ j c) (clF 0 36 3 (rj2 s1))) = c := rfl
  simp only [ks_ws, ekn] at f2
  have i0 : inB 0 321 = true := by decide +kernel
  have z0 : (0 : Int32).toNatClampNeg = 0 := by decide +kernel
  have h0 : clF 0 36 3 (rj2 s1) 0 = nI S := lay_0.symm.trans s0
  have em : X 139 167 [.ref m, .int (nI 36), .null, .null] [] (modPut m (ws (wJ μ j c) (clF 0 36 3 (rj2 s1))) σ) K = X 139 201 [.ref m, .int 0, .null, .null] [] (modPut m (ws (wJ μ j c) (rj3 s1 S c)) σ) K := by
    unfold rj3
    by_cases k1 : c < S
    · have k2 : nI c < nI S := nI_lt k1 (by omega)
      rw [show min c S = c by omega]
      simp only [x139_167, x139_168, x139_169, x139_170, x139_171, x139_174, x139_175, x139_178, x139_179, x139_180, x139_183, x139_184, x139_187, x139_190, x139_191, x139_194, x139_195, x139_196, x139_199, x139_200, pushO, List.length_cons, List.length_nil, Nat.reduceAdd, Nat.reduceLeDiff, Nat.le_refl, Nat.zero_le, isD_i, isD_r, isD_l, isD_n, if_true, if_false, ite_true, ite_false, reduceIte, f2, i0, z0, h0, k2, g3]
    · have k2 : ¬ nI c < nI S := nI_nlt (by omega) (by omega)
      rw [show min c S = S by omega]
      simp only [x139_167, x139_168, x139_169, x139_170, x139_171, x139_174, x139_175, x139_178, x139_179, x139_180, x139_183, x139_184, x139_187, x139_190, x139_191, x139_194, x139_195, x139_196, x139_199, x139_200, pushO, List.length_cons, List.length_nil, Nat.reduceAdd, Nat.reduceLeDiff, Nat.le_refl, Nat.zero_le, isD_i, isD_r, isD_l, isD_n, if_true, if_false, ite_true, ite_false, reduceIte, f2, i0, z0, h0, k2, g3]
  rw [em, a5]
  simp only [x139_266, x139_267, pushO, List.length_cons, List.length_nil, Nat.reduceAdd, Nat.reduceLeDiff, Nat.le_refl, Nat.zero_le, isD_i, isD_r, isD_l, isD_n, if_true, if_false, ite_true, ite_false, reduceIte]
  rw [a6]
theorem d140a {K : Option Value → Hp → Prop} {m : Nat} {μ : ModM} {σ : Hp} (h : modAt m μ σ) {n N : Nat → Nat} {S : Nat} (hv : ∀ t, t < 2 → rvOK (ks μ) t (n t) (N t) S) (he : ¬ errJ (vB (ks μ) n N S) = 0) : X 140 0 [.ref m] [] σ K = K (some (.int (-4))) σ := by
  simp only [x140_0, x140_1, x140_2, x140_5, x140_6, x140_9, x140_12, x140_14, pushO, List.length_cons, List.length_nil, Nat.reduceAdd, Nat.reduceLeDiff, Nat.le_refl, Nat.zero_le, isD_i, isD_r, isD_l, isD_n, if_true, if_false, ite_true, ite_false, reduceIte, mdF h, mdP0s h, e136 h hv, he]
theorem kj_rcM {μ : ModM} : kj (rcM μ) = kj μ := by
  unfold rcM
  split <;> rfl
theorem d140b {c : Nat} {K : Option Value → Hp → Prop} {m : Nat} {μ : ModM} {σ : Hp} (h : modAt m μ σ) {n N : Nat → Nat} {S : Nat} (hv : ∀ t, t < 2 → rvOK (ks μ) t (n t) (N t) S) (hm : kum μ ≤ 6) (he : errJ (vB (ks μ) n N S) = 0) (hc : cnOK (N 1) 0 (N 0) (ks μ)) (pc : ∀ k, k < (rjQ (kj μ) (vB (ks μ) n N S)).2 → 0 ≤ (jC (rjQ (kj μ) (vB (ks μ) n N S)).1 k).toInt) (pe : ∀ k, k < (rjQ (kj μ) (vB (ks μ) n N S)).2 → 0 ≤ (jE (rjQ (kj μ) (vB (ks μ) n N S)).1 k).toInt) (hr : gt (rjS (ks μ) (N 0) (N 1) S (rjQ (kj μ) (vB (ks μ) n N S)).1 (rjQ (kj μ) (vB (ks μ) n N S)).2) 0 1 = nI c) : X 140 0 [.ref m] [] σ K = K (some (.int (nI c))) (modPut m (ws (wJ (rcM μ) (rjQ (kj μ) (vB (ks μ) n N S)).1 (rjQ (kj μ) (vB (ks μ) n N S)).2) (rjS (ks μ) (N 0) (N 1) S (rjQ (kj μ) (vB (ks μ) n N S)).1 (rjQ (kj μ) (vB (ks μ) n N S)).2)) σ) := by
  have f := mdF (modAP (r := m) (ρ := rcM μ) (σ := σ))
  have g := fun K => g139 (K := K) (n := n) (N := N) (S := S) (modAP (r := m) (ρ := rcM μ) (σ := σ)) (by rw [ks_rcM]; exact hv) (by rw [ks_rcM]; exact hc) (by rw [ks_rcM, kj_rcM]; exact pc) (by rw [ks_rcM, kj_rcM]; exact pe)
  simp only [ks_rcM, kj_rcM, modPP] at g
  have g1 := fun μ s K => g113_1 (K := K) (m := m) (μ := μ) (σ := σ) (s := s) (show 0 < 2 by omega)
  simp only [nI_0] at g1
  simp only [x140_0, x140_1, x140_2, x140_5, x140_6, x140_9, x140_12, x140_14, x140_15, x140_16, x140_19, x140_20, x140_23, x140_24, x140_25, x140_26, x140_29, pushO, List.length_cons, List.length_nil, Nat.reduceAdd, Nat.reduceLeDiff, Nat.le_refl, Nat.zero_le, isD_i, isD_r, isD_l, isD_n, if_true, if_false, ite_true, ite_false, reduceIte, mdF h, mdP0s h, e136 h hv, he, q118 h hm, f, g, ctx, g1, hr]
