/-! the reference, told by its parts: k<part> reads, w<part> writes -/
def ks (μ : ModM) : Nat → Int32 := μ.1
def ku (μ : ModM) : Nat → Int32 := μ.2.1
def kum (μ : ModM) : Nat := μ.2.2.1
def ksl (μ : ModM) : Nat → Int32 := μ.2.2.2.1
def khs (μ : ModM) : Nat → Int32 := μ.2.2.2.2.1
def kp (μ : ModM) : Nat → Int32 := μ.2.2.2.2.2.1
def kpn (μ : ModM) : Nat := μ.2.2.2.2.2.2.1
def kj (μ : ModM) : Nat → Int32 := μ.2.2.2.2.2.2.2.1
def kjn (μ : ModM) : Nat := μ.2.2.2.2.2.2.2.2.1
def kat (μ : ModM) : Nat := μ.2.2.2.2.2.2.2.2.2.1
def kw (μ : ModM) : Bool := μ.2.2.2.2.2.2.2.2.2.2.1
def ko (μ : ModM) : Nat → Int32 := μ.2.2.2.2.2.2.2.2.2.2.2.1
def kon (μ : ModM) : Nat := μ.2.2.2.2.2.2.2.2.2.2.2.2
def ws (μ : ModM) (x : Nat → Int32) : ModM := (x, ku μ, kum μ, ksl μ, khs μ, kp μ, kpn μ, kj μ, kjn μ, kat μ, kw μ, ko μ, kon μ)
def wu (μ : ModM) (x : Nat → Int32) : ModM := (ks μ, x, kum μ, ksl μ, khs μ, kp μ, kpn μ, kj μ, kjn μ, kat μ, kw μ, ko μ, kon μ)
def wum (μ : ModM) (x : Nat) : ModM := (ks μ, ku μ, x, ksl μ, khs μ, kp μ, kpn μ, kj μ, kjn μ, kat μ, kw μ, ko μ, kon μ)
def wsl (μ : ModM) (x : Nat → Int32) : ModM := (ks μ, ku μ, kum μ, x, khs μ, kp μ, kpn μ, kj μ, kjn μ, kat μ, kw μ, ko μ, kon μ)
def whs (μ : ModM) (x : Nat → Int32) : ModM := (ks μ, ku μ, kum μ, ksl μ, x, kp μ, kpn μ, kj μ, kjn μ, kat μ, kw μ, ko μ, kon μ)
def wp (μ : ModM) (x : Nat → Int32) : ModM := (ks μ, ku μ, kum μ, ksl μ, khs μ, x, kpn μ, kj μ, kjn μ, kat μ, kw μ, ko μ, kon μ)
def wpn (μ : ModM) (x : Nat) : ModM := (ks μ, ku μ, kum μ, ksl μ, khs μ, kp μ, x, kj μ, kjn μ, kat μ, kw μ, ko μ, kon μ)
def wj (μ : ModM) (x : Nat → Int32) : ModM := (ks μ, ku μ, kum μ, ksl μ, khs μ, kp μ, kpn μ, x, kjn μ, kat μ, kw μ, ko μ, kon μ)
def wjn (μ : ModM) (x : Nat) : ModM := (ks μ, ku μ, kum μ, ksl μ, khs μ, kp μ, kpn μ, kj μ, x, kat μ, kw μ, ko μ, kon μ)
def wat (μ : ModM) (x : Nat) : ModM := (ks μ, ku μ, kum μ, ksl μ, khs μ, kp μ, kpn μ, kj μ, kjn μ, x, kw μ, ko μ, kon μ)
def ww (μ : ModM) (x : Bool) : ModM := (ks μ, ku μ, kum μ, ksl μ, khs μ, kp μ, kpn μ, kj μ, kjn μ, kat μ, x, ko μ, kon μ)
def wo (μ : ModM) (x : Nat → Int32) : ModM := (ks μ, ku μ, kum μ, ksl μ, khs μ, kp μ, kpn μ, kj μ, kjn μ, kat μ, kw μ, x, kon μ)
def won (μ : ModM) (x : Nat) : ModM := (ks μ, ku μ, kum μ, ksl μ, khs μ, kp μ, kpn μ, kj μ, kjn μ, kat μ, kw μ, ko μ, x)
theorem mdF {r : Nat} {μ : ModM} {σ : Hp} (h : modAt r μ σ) : okO σ r 9 = true ∧ okF σ r 9 0 = true ∧ gF σ r 0 = .int 0 ∧ okF σ r 9 1 = true ∧ gF σ r 1 = .ref (r + 1) ∧ okF σ r 9 2 = true ∧ gF σ r 2 = .ref (r + 2) ∧ okF σ r 9 3 = true ∧ gF σ r 3 = .int (nI (kum μ)) ∧ okF σ r 9 4 = true ∧ gF σ r 4 = .ref (r + 3) ∧ okF σ r 9 5 = true ∧ gF σ r 5 = .ref (r + 4) ∧ okF σ r 9 6 = true ∧ gF σ r 6 = .ref (r + 5) ∧ okF σ r 9 7 = true ∧ gF σ r 7 = .int (nI (kpn μ)) ∧ okF σ r 9 8 = true ∧ gF σ r 8 = .ref (r + 6) ∧ okF σ r 9 9 = true ∧ gF σ r 9 = .int (nI (kjn μ)) ∧ okF σ r 9 10 = true ∧ gF σ r 10 = .int (nI (kat μ)) ∧ okF σ r 9 11 = true ∧ gF σ r 11 = .int (bI (kw μ)) ∧ okF σ r 9 12 = true ∧ gF σ r 12 = .ref (r + 7) ∧ okF σ r 9 13 = true ∧ gF σ r 13 = .int (nI (kon μ)) ∧ okL σ (r + 1) = true ∧ gL σ (r + 1) = 321 ∧ (∀ i, okA σ 0 (r + 1) i = inB i 321) ∧ (∀ i, okB σ 0 (r + 1) i = inB i 321) ∧ (∀ i, gA σ (r + 1) i = (ks μ) i.toNatClampNeg) ∧ okL σ (r + 2) = true ∧ gL σ (r + 2) = 1926 ∧ (∀ i, okA σ 0 (r + 2) i = inB i 1926) ∧ (∀ i, okB σ 0 (r + 2) i = inB i 1926) ∧ (∀ i, gA σ (r + 2) i = (ku μ) i.toNatClampNeg) ∧ okL σ (r + 3) = true ∧ gL σ (r + 3) = 642 ∧ (∀ i, okA σ 0 (r + 3) i = inB i 642) ∧ (∀ i, okB σ 0 (r + 3) i = inB i 642) ∧ (∀ i, gA σ (r + 3) i = (ksl μ) i.toNatClampNeg) ∧ okL σ (r + 4) = true ∧ gL σ (r + 4) = 2 ∧ (∀ i, okB σ 1 (r + 4) i = inB i 2) ∧ (∀ i, gA σ (r + 4) i = (khs μ) i.toNatClampNeg) ∧ okL σ (r + 5) = true ∧ gL σ (r + 5) = 80 ∧ (∀ i, okA σ 0 (r + 5) i = inB i 80) ∧ (∀ i, okB σ 0 (r + 5) i = inB i 80) ∧ (∀ i, gA σ (r + 5) i = (kp μ) i.toNatClampNeg) ∧ okL σ (r + 6) = true ∧ gL σ (r + 6) = 72 ∧ (∀ i, okA σ 0 (r + 6) i = inB i 72) ∧ (∀ i, okB σ 0 (r + 6) i = inB i 72) ∧ (∀ i, gA σ (r + 6) i = (kj μ) i.toNatClampNeg) ∧ okL σ (r + 7) = true ∧ gL σ (r + 7) = 256 ∧ (∀ i, okA σ 0 (r + 7) i = inB i 256) ∧ (∀ i, okB σ 0 (r + 7) i = inB i 256) ∧ (∀ i, gA σ (r + 7) i = (ko μ) i.toNatClampNeg) := by
  obtain ⟨z0, z1, z2, z3, z4, z5, z6, z7, z8, z9, z10, z11, z12⟩ := μ
  exact modS h
theorem mdP0 {r : Nat} {μ : ModM} {σ : Hp} (h : modAt r μ σ)  : pF σ r 0 (.int 0) = modPut r μ σ := by
  obtain ⟨z0, z1, z2, z3, z4, z5, z6, z7, z8, z9, z10, z11, z12⟩ := μ
  exact modP0 h
theorem mdP3 {r : Nat} {μ : ModM} {σ : Hp} (h : modAt r μ σ) {n : Nat} : pF σ r 3 (.int (nI n)) = modPut r (wum μ (n)) σ := by
  obtain ⟨z0, z1, z2, z3, z4, z5, z6, z7, z8, z9, z10, z11, z12⟩ := μ
  exact modP3 h
theorem mdP3z {r : Nat} {μ : ModM} {σ : Hp} (h : modAt r μ σ)  : pF σ r 3 (.int 0) = modPut r (wum μ (0)) σ := by
  obtain ⟨z0, z1, z2, z3, z4, z5, z6, z7, z8, z9, z10, z11, z12⟩ := μ
  exact modP3z h
theorem mdP7 {r : Nat} {μ : ModM} {σ : Hp} (h : modAt r μ σ) {n : Nat} : pF σ r 7 (.int (nI n)) = modPut r (wpn μ (n)) σ := by
  obtain ⟨z0, z1, z2, z3, z4, z5, z6, z7, z8, z9, z10, z11, z12⟩ := μ
  exact modP7 h
theorem mdP7z {r : Nat} {μ : ModM} {σ : Hp} (h : modAt r μ σ)  : pF σ r 7 (.int 0) = modPut r (wpn μ (0)) σ := by
  obtain ⟨z0, z1, z2, z3, z4, z5, z6, z7, z8, z9, z10, z11, z12⟩ := μ
  exact modP7z h
theorem mdP9 {r : Nat} {μ : ModM} {σ : Hp} (h : modAt r μ σ) {n : Nat} : pF σ r 9 (.int (nI n)) = modPut r (wjn μ (n)) σ := by
  obtain ⟨z0, z1, z2, z3, z4, z5, z6, z7, z8, z9, z10, z11, z12⟩ := μ
  exact modP9 h
theorem mdP9z {r : Nat} {μ : ModM} {σ : Hp} (h : modAt r μ σ)  : pF σ r 9 (.int 0) = modPut r (wjn μ (0)) σ := by
  obtain ⟨z0, z1, z2, z3, z4, z5, z6, z7, z8, z9, z10, z11, z12⟩ := μ
  exact modP9z h
theorem mdP10 {r : Nat} {μ : ModM} {σ : Hp} (h : modAt r μ σ) {n : Nat} : pF σ r 10 (.int (nI n)) = modPut r (wat μ (n)) σ := by
  obtain ⟨z0, z1, z2, z3, z4, z5, z6, z7, z8, z9, z10, z11, z12⟩ := μ
  exact modP10 h
theorem mdP10z {r : Nat} {μ : ModM} {σ : Hp} (h : modAt r μ σ)  : pF σ r 10 (.int 0) = modPut r (wat μ (0)) σ := by
  obtain ⟨z0, z1, z2, z3, z4, z5, z6, z7, z8, z9, z10, z11, z12⟩ := μ
  exact modP10z h
theorem mdP11 {r : Nat} {μ : ModM} {σ : Hp} (h : modAt r μ σ) {x : Bool} : pF σ r 11 (.int (bI x)) = modPut r (ww μ (x)) σ := by
  obtain ⟨z0, z1, z2, z3, z4, z5, z6, z7, z8, z9, z10, z11, z12⟩ := μ
  exact modP11 h
theorem mdP11t {r : Nat} {μ : ModM} {σ : Hp} (h : modAt r μ σ)  : pF σ r 11 (.int 1) = modPut r (ww μ (true)) σ := by
  obtain ⟨z0, z1, z2, z3, z4, z5, z6, z7, z8, z9, z10, z11, z12⟩ := μ
  exact modP11t h
theorem mdP11f {r : Nat} {μ : ModM} {σ : Hp} (h : modAt r μ σ)  : pF σ r 11 (.int 0) = modPut r (ww μ (false)) σ := by
  obtain ⟨z0, z1, z2, z3, z4, z5, z6, z7, z8, z9, z10, z11, z12⟩ := μ
  exact modP11f h
theorem mdP13 {r : Nat} {μ : ModM} {σ : Hp} (h : modAt r μ σ) {n : Nat} : pF σ r 13 (.int (nI n)) = modPut r (won μ (n)) σ := by
  obtain ⟨z0, z1, z2, z3, z4, z5, z6, z7, z8, z9, z10, z11, z12⟩ := μ
  exact modP13 h
theorem mdP13z {r : Nat} {μ : ModM} {σ : Hp} (h : modAt r μ σ)  : pF σ r 13 (.int 0) = modPut r (won μ (0)) σ := by
  obtain ⟨z0, z1, z2, z3, z4, z5, z6, z7, z8, z9, z10, z11, z12⟩ := μ
  exact modP13z h
theorem mdA1 {r : Nat} {μ : ModM} {σ : Hp} (h : modAt r μ σ) {i x : Int32} : pA σ (r + 1) i x = modPut r (ws μ (upd (ks μ) i.toNatClampNeg x)) σ := by
  obtain ⟨z0, z1, z2, z3, z4, z5, z6, z7, z8, z9, z10, z11, z12⟩ := μ
  exact modA1 h
theorem mdA2 {r : Nat} {μ : ModM} {σ : Hp} (h : modAt r μ σ) {i x : Int32} : pA σ (r + 2) i x = modPut r (wu μ (upd (ku μ) i.toNatClampNeg x)) σ := by
  obtain ⟨z0, z1, z2, z3, z4, z5, z6, z7, z8, z9, z10, z11, z12⟩ := μ
  exact modA2 h
theorem mdA3 {r : Nat} {μ : ModM} {σ : Hp} (h : modAt r μ σ) {i x : Int32} : pA σ (r + 3) i x = modPut r (wsl μ (upd (ksl μ) i.toNatClampNeg x)) σ := by
  obtain ⟨z0, z1, z2, z3, z4, z5, z6, z7, z8, z9, z10, z11, z12⟩ := μ
  exact modA3 h
theorem mdA4 {r : Nat} {μ : ModM} {σ : Hp} (h : modAt r μ σ) {i x : Int32} : pA σ (r + 4) i x = modPut r (whs μ (upd (khs μ) i.toNatClampNeg x)) σ := by
  obtain ⟨z0, z1, z2, z3, z4, z5, z6, z7, z8, z9, z10, z11, z12⟩ := μ
  exact modA4 h
theorem mdA5 {r : Nat} {μ : ModM} {σ : Hp} (h : modAt r μ σ) {i x : Int32} : pA σ (r + 5) i x = modPut r (wp μ (upd (kp μ) i.toNatClampNeg x)) σ := by
  obtain ⟨z0, z1, z2, z3, z4, z5, z6, z7, z8, z9, z10, z11, z12⟩ := μ
  exact modA5 h
theorem mdA6 {r : Nat} {μ : ModM} {σ : Hp} (h : modAt r μ σ) {i x : Int32} : pA σ (r + 6) i x = modPut r (wj μ (upd (kj μ) i.toNatClampNeg x)) σ := by
  obtain ⟨z0, z1, z2, z3, z4, z5, z6, z7, z8, z9, z10, z11, z12⟩ := μ
  exact modA6 h
theorem mdA7 {r : Nat} {μ : ModM} {σ : Hp} (h : modAt r μ σ) {i x : Int32} : pA σ (r + 7) i x = modPut r (wo μ (upd (ko μ) i.toNatClampNeg x)) σ := by
  obtain ⟨z0, z1, z2, z3, z4, z5, z6, z7, z8, z9, z10, z11, z12⟩ := μ
  exact modA7 h
/-! reading and laying in the reference's row of streams -/
theorem nIa (a b : Nat) : nI a + nI b = nI (a + b) := (Int32.ofNat_add a b).symm
theorem nIm (a b : Nat) : nI a * nI b = nI (a * b) := (Int32.ofNat_mul a b).symm
theorem L1 : (1 : Int32) = nI 1 := by decide +kernel
theorem L2 : (2 : Int32) = nI 2 := by decide +kernel
theorem L3 : (3 : Int32) = nI 3 := by decide +kernel
theorem L39 : (39 : Int32) = nI 39 := by decide +kernel
theorem L40 : (40 : Int32) = nI 40 := by decide +kernel
theorem L160 : (160 : Int32) = nI 160 := by decide +kernel
def gt (s : Nat → Int32) (t k : Nat) : Int32 := s (1 + 160 * t + k)
def lt_ (s : Nat → Int32) (t k : Nat) (v : Int32) : Nat → Int32 := upd s (1 + 160 * t + k) v
theorem ix (t k : Nat) : 1 + 160 * nI t + nI k = nI (1 + 160 * t + k) := by rw [L1, L160, nIm, nIa, nIa]
theorem e113 {t k : Nat} {K : Option Value → Hp → Prop} {m : Nat} {μ : ModM} {σ : Hp} (h : modAt m μ σ) (ht : t < 2) (hk : k < 160) : X 113 0 [.ref m, .int (nI t), .int (nI k)] [] σ K = K (some (.int (gt (ks μ) t k))) σ := by
  have hb : inB (nI (1 + 160 * t + k)) 321 = true := inB_nI (by omega) (by omega)
  have hn : (nI (1 + 160 * t + k)).toNatClampNeg = 1 + 160 * t + k := nI_clamp (by omega)
  simp only [x113_0, x113_1, x113_4, x113_5, x113_8, x113_9, x113_10, x113_11, x113_12, x113_13, x113_14, pushO, List.length_cons, List.length_nil, Nat.reduceAdd, Nat.reduceLeDiff, Nat.le_refl, Nat.zero_le, isD_i, isD_r, isD_l, isD_n, if_true, if_false, ite_true, ite_false, reduceIte, mdF h, ix, hb, hn, gt]
theorem q114 {t k : Nat} {v : Int32} {K : Option Value → Hp → Prop} {m : Nat} {μ : ModM} {σ : Hp} (h : modAt m μ σ) (ht : t < 2) (hk : k < 160) : X 114 0 [.ref m, .int (nI t), .int (nI k), .int v] [] σ K = K none (modPut m (ws μ (lt_ (ks μ) t k v)) σ) := by
  have hb : inB (nI (1 + 160 * t + k)) 321 = true := inB_nI (by omega) (by omega)
  have hn : (nI (1 + 160 * t + k)).toNatClampNeg = 1 + 160 * t + k := nI_clamp (by omega)
  simp only [x114_0, x114_1, x114_4, x114_5, x114_8, x114_9, x114_10, x114_11, x114_12, x114_13, x114_14, x114_15, pushO, List.length_cons, List.length_nil, Nat.reduceAdd, Nat.reduceLeDiff, Nat.le_refl, Nat.zero_le, isD_i, isD_r, isD_l, isD_n, if_true, if_false, ite_true, ite_false, reduceIte, mdF h, ix, hb, hn, mdA1 h, lt_]
theorem ixg (k : Nat) : 3 + 3 * nI k = nI (3 + 3 * k) := by rw [L3, nIm, nIa]
theorem ixc (k : Nat) : nI (3 + 3 * k) + 1 = nI (4 + 3 * k) := by rw [L1, nIa]; congr 1; omega
theorem ixe (k : Nat) : nI (3 + 3 * k) + 2 = nI (5 + 3 * k) := by rw [L2, nIa]; congr 1; omega
theorem e115 {t k : Nat} {K : Option Value → Hp → Prop} {m : Nat} {μ : ModM} {σ : Hp} (h : modAt m μ σ) (ht : t < 2) (hk : k < 52) : X 115 0 [.ref m, .int (nI t), .int (nI k)] [] σ K = K (some (.int (gt (ks μ) t (3 + 3 * k)))) σ := by
  have q := e113 (K := K) h ht (show 3 + 3 * k < 160 by omega)
  simp only [x115_0, x115_1, x115_2, x115_3, x115_4, x115_5, x115_6, x115_7, x115_10, pushO, List.length_cons, List.length_nil, Nat.reduceAdd, Nat.reduceLeDiff, Nat.le_refl, Nat.zero_le, isD_i, isD_r, isD_l, isD_n, if_true, if_false, ite_true, ite_false, reduceIte, mdF h, ixg, e113 h ht (show 3 + 3 * k < 160 by omega)]
theorem e116 {t k : Nat} {K : Option Value → Hp → Prop} {m : Nat} {μ : ModM} {σ : Hp} (h : modAt m μ σ) (ht : t < 2) (hk : k < 52) : X 116 0 [.ref m, .int (nI t), .int (nI k)] [] σ K = K (some (.int (gt (ks μ) t (4 + 3 * k)))) σ := by
  simp only [x116_0, x116_1, x116_2, x116_3, x116_4, x116_5, x116_6, x116_7, x116_8, x116_9, x116_12, pushO, List.length_cons, List.length_nil, Nat.reduceAdd, Nat.reduceLeDiff, Nat.le_refl, Nat.zero_le, isD_i, isD_r, isD_l, isD_n, if_true, if_false, ite_true, ite_false, reduceIte, mdF h, ixg, ixc, e113 h ht (show 4 + 3 * k < 160 by omega)]
theorem e117 {t k : Nat} {K : Option Value → Hp → Prop} {m : Nat} {μ : ModM} {σ : Hp} (h : modAt m μ σ) (ht : t < 2) (hk : k < 51) : X 117 0 [.ref m, .int (nI t), .int (nI k)] [] σ K = K (some (.int (gt (ks μ) t (5 + 3 * k)))) σ := by
  simp only [x117_0, x117_1, x117_2, x117_3, x117_4, x117_5, x117_6, x117_7, x117_8, x117_9, x117_12, pushO, List.length_cons, List.length_nil, Nat.reduceAdd, Nat.reduceLeDiff, Nat.le_refl, Nat.zero_le, isD_i, isD_r, isD_l, isD_n, if_true, if_false, ite_true, ite_false, reduceIte, mdF h, ixg, ixe, e113 h ht (show 5 + 3 * k < 160 by omega)]
/-- the reference's stream, seen as a row and a tally -/
def vG (s : Nat → Int32) (t : Nat) : Nat → Int32 := fun k => gt s t (3 + 3 * k)
def vC (s : Nat → Int32) (t : Nat) : Nat → Int32 := fun k => gt s t (4 + 3 * k)
def vE (s : Nat → Int32) (t : Nat) : Nat → Int32 := fun k => gt s t (5 + 3 * k)
def vH (s : Nat → Int32) (t : Nat) : Nat → Int32 := fun k => gt s t (40 + 2 * k)
def vD (s : Nat → Int32) (t : Nat) : Nat → Int32 := fun k => gt s t (41 + 2 * k)
theorem l119 {t n : Nat} {y : Int32} {K : Option Value → Hp → Prop} {m : Nat} {μ : ModM} {σ : Hp} (h : modAt m μ σ) (ht : t < 2) (hn : gt (ks μ) t 1 = nI n) (hb : n ≤ 12) : ∀ (d i : Nat), n - i = d → i ≤ n → X 119 2 [.ref m, .int (nI t), .int y, .int (nI i)] [] σ K = K (some (.int (fnd (fun k => decide (vG (ks μ) t k = y)) d i))) σ := by
  have q1 := fun K => e113 (K := K) h ht (show 1 < 160 by omega)
  rw [← L1] at q1
  intro d
  induction d with
  | zero =>
    intro i hd hi
    have h1 : ¬ nI i < nI n := nI_nlt (by omega) (by omega)
    rw [x119_2]
    simp only [x119_3, x119_4, x119_5, x119_6, x119_9, x119_12, x119_13, x119_14, x119_15, x119_18, x119_19, x119_22, x119_23, x119_24, x119_27, x119_30, x119_32, pushO, List.length_cons, List.length_nil, Nat.reduceAdd, Nat.reduceLeDiff, Nat.le_refl, Nat.zero_le, isD_i, isD_r, isD_l, isD_n, if_true, if_false, ite_true, ite_false, reduceIte, mdF h, q1, hn, h1, fnd]
  | succ d ih =>
    intro i hd hi
    have h1 : nI i < nI n := nI_lt (by omega) (by omega)
    rw [x119_2]
    by_cases h2 : vG (ks μ) t i = y
    · have h3 : gt (ks μ) t (3 + 3 * i) = y := h2
      simp only [x119_3, x119_4, x119_5, x119_6, x119_9, x119_12, x119_13, x119_14, x119_15, x119_18, x119_19, x119_22, x119_23, x119_24, x119_27, x119_30, x119_32, pushO, List.length_cons, List.length_nil, Nat.reduceAdd, Nat.reduceLeDiff, Nat.le_refl, Nat.zero_le, isD_i, isD_r, isD_l, isD_n, if_true, if_false, ite_true, ite_false, reduceIte, mdF h, q1, hn, h1, e115 h ht (show i < 52 by omega), h3, fnd, h2, decide_true]
    · have h3 : ¬ gt (ks μ) t (3 + 3 * i) = y := h2
      simp only [x119_3, x119_4, x119_5, x119_6, x119_9, x119_12, x119_13, x119_14, x119_15, x119_18, x119_19, x119_22, x119_23, x119_24, x119_27, x119_30, x119_32, pushO, List.length_cons, List.length_nil, Nat.reduceAdd, Nat.reduceLeDiff, Nat.le_refl, Nat.zero_le, isD_i, isD_r, isD_l, isD_n, if_true, if_false, ite_true, ite_false, reduceIte, mdF h, q1, hn, h1, e115 h ht (show i < 52 by omega), h3, ← nI_succ, fnd, h2, decide_false, Bool.false_eq_true]
      exact ih (i + 1) (by omega) (by omega)
theorem e119 {t n : Nat} {y : Int32} {K : Option Value → Hp → Prop} {m : Nat} {μ : ModM} {σ : Hp} (h : modAt m μ σ) (ht : t < 2) (hn : gt (ks μ) t 1 = nI n) (hb : n ≤ 12) : X 119 0 [.ref m, .int (nI t), .int y, .null] [] σ K = K (some (.int (seatOfR (vG (ks μ) t) n y))) σ := by
  simp only [x119_0, x119_1, pushO, List.length_cons, List.length_nil, Nat.reduceAdd, Nat.reduceLeDiff, Nat.le_refl, Nat.zero_le, isD_i, isD_r, isD_l, isD_n, if_true, if_false, ite_true, ite_false, reduceIte]
  exact l119 h ht hn hb n 0 (by omega) (by omega)
theorem ix40 (k : Nat) : 40 + 2 * nI k = nI (40 + 2 * k) := by rw [L40, L2, nIm, nIa]
theorem ix41 (k : Nat) : nI (40 + 2 * k) + 1 = nI (41 + 2 * k) := by rw [L1, nIa]; congr 1; omega
theorem l126 {t n : Nat} {y : Int32} {K : Option Value → Hp → Prop} {m : Nat} {μ : ModM} {σ : Hp} (h : modAt m μ σ) (ht : t < 2) (hn : gt (ks μ) t 39 = nI n) (hb : n ≤ 60) : ∀ (d i : Nat), n - i = d → i ≤ n → X 126 2 [.ref m, .int (nI t), .int y, .int (nI i)] [] σ K = K (some (.int (fnd (fun k => decide (vH (ks μ) t k = y)) d i))) σ := by
  have q1 := fun K => e113 (K := K) h ht (show 39 < 160 by omega)
  rw [← L39] at q1
  intro d
  induction d with
  | zero =>
    intro i hd hi
    have h1 : ¬ nI i < nI n := nI_nlt (by omega) (by omega)
    rw [x126_2]
    simp only [x126_3, x126_4, x126_5, x126_7, x126_10, x126_13, x126_14, x126_15, x126_17, x126_18, x126_19, x126_20, x126_21, x126_24, x126_25, x126_28, x126_29, x126_30, x126_33, x126_36, x126_38, pushO, List.length_cons, List.length_nil, Nat.reduceAdd, Nat.reduceLeDiff, Nat.le_refl, Nat.zero_le, isD_i, isD_r, isD_l, isD_n, if_true, if_false, ite_true, ite_false, reduceIte, mdF h, q1, hn, h1, fnd]
  | succ d ih =>
    intro i hd hi
    have h1 : nI i < nI n := nI_lt (by omega) (by omega)
    rw [x126_2]
    by_cases h2 : vH (ks μ) t i = y
    · have h3 : gt (ks μ) t (40 + 2 * i) = y := h2
      simp only [x126_3, x126_4, x126_5, x126_7, x126_10, x126_13, x126_14, x126_15, x126_17, x126_18, x126_19, x126_20, x126_21, x126_24, x126_25, x126_28, x126_29, x126_30, x126_33, x126_36, x126_38, pushO, List.length_cons, List.length_nil, Nat.reduceAdd, Nat.reduceLeDiff, Nat.le_refl, Nat.zero_le, isD_i, isD_r, isD_l, isD_n, if_true, if_false, ite_true, ite_false, reduceIte, mdF h, q1, hn, h1, ix40, e113 h ht (show 40 + 2 * i < 160 by omega), h3, fnd, h2, decide_true]
    · have h3 : ¬ gt (ks μ) t (40 + 2 * i) = y := h2
      simp only [x126_3, x126_4, x126_5, x126_7, x126_10, x126_13, x126_14, x126_15, x126_17, x126_18, x126_19, x126_20, x126_21, x126_24, x126_25, x126_28, x126_29, x126_30, x126_33, x126_36, x126_38, pushO, List.length_cons, List.length_nil, Nat.reduceAdd, Nat.reduceLeDiff, Nat.le_refl, Nat.zero_le, isD_i, isD_r, isD_l, isD_n, if_true, if_false, ite_true, ite_false, reduceIte, mdF h, q1, hn, h1, ix40, e113 h ht (show 40 + 2 * i < 160 by omega), h3, ← nI_succ, fnd, h2, decide_false, Bool.false_eq_true]
      exact ih (i + 1) (by omega) (by omega)
theorem e126 {t n : Nat} {y : Int32} {K : Option Value → Hp → Prop} {m : Nat} {μ : ModM} {σ : Hp} (h : modAt m μ σ) (ht : t < 2) (hn : gt (ks μ) t 39 = nI n) (hb : n ≤ 60) : X 126 0 [.ref m, .int (nI t), .int y, .null] [] σ K = K (some (.int (seatOfR (vH (ks μ) t) n y))) σ := by
  simp only [x126_0, x126_1, pushO, List.length_cons, List.length_nil, Nat.reduceAdd, Nat.reduceLeDiff, Nat.le_refl, Nat.zero_le, isD_i, isD_r, isD_l, isD_n, if_true, if_false, ite_true, ite_false, reduceIte]
  exact l126 h ht hn hb n 0 (by omega) (by omega)
/-- the reference's weakest guest, place by place -/
def wkF (c e : Nat → Int32) : Nat → Nat → Nat → Nat
  | 0, _, a => a
  | d + 1, i, a => wkF c e d (i + 1) (if 0 < c a - c i then i else if c a - c i = 0 then (if e a < e i then i else a) else a)
theorem wkF_lt {c e : Nat → Int32} {n : Nat} : ∀ (d i a : Nat), n - i = d → a < n → wkF c e d i a < n := by
  intro d
  induction d with
  | zero => intro i a _ ha; exact ha
  | succ d ih =>
    intro i a hd ha
    unfold wkF
    refine ih _ _ (by omega) ?_
    split
    · omega
    · split
      · split <;> omega
      · exact ha
theorem l120 {t n : Nat} {K : Option Value → Hp → Prop} {m : Nat} {μ : ModM} {σ : Hp} (h : modAt m μ σ) (ht : t < 2) (hn : gt (ks μ) t 1 = nI n) (hb : n ≤ 12) : ∀ (d i a : Nat) (w : Value), isD w = false → n - i = d → i ≤ n + 1 → a < 12 → X 120 4 [.ref m, .int (nI t), .int (nI a), .int (nI i), w] [] σ K = K (some (.int (nI (wkF (vC (ks μ) t) (vE (ks μ) t) d i a)))) σ := by
  have q1 := fun K => e113 (K := K) h ht (show 1 < 160 by omega)
  rw [← L1] at q1
  intro d
  induction d with
  | zero =>
    intro i a w hw hd hi ha
    have h1 : ¬ nI i < nI n := nI_nlt (by omega) (by omega)
    rw [x120_4]
    simp only [x120_5, x120_6, x120_7, x120_8, x120_11, x120_14, x120_15, x120_16, x120_17, x120_20, x120_21, x120_22, x120_23, x120_26, x120_27, x120_29, x120_31, x120_34, x120_36, x120_39, x120_40, x120_41, x120_42, x120_45, x120_46, x120_47, x120_48, x120_51, x120_54, x120_55, x120_58, x120_59, x120_60, x120_63, x120_66, x120_67, pushO, List.length_cons, List.length_nil, Nat.reduceAdd, Nat.reduceLeDiff, Nat.le_refl, Nat.zero_le, isD_i, isD_r, isD_l, isD_n, if_true, if_false, ite_true, ite_false, reduceIte, mdF h, q1, hn, h1, wkF]
  | succ d ih =>
    intro i a w hw hd hi ha
    have h1 : nI i < nI n := nI_lt (by omega) (by omega)
    have qa := fun K => e116 (K := K) h ht (show a < 52 by omega)
    have qi := fun K => e116 (K := K) h ht (show i < 52 by omega)
    have pa := fun K => e117 (K := K) h ht (show a < 51 by omega)
    have pi := fun K => e117 (K := K) h ht (show i < 51 by omega)
    rw [x120_4]
    unfold wkF
    by_cases k1 : 0 < vC (ks μ) t a - vC (ks μ) t i
    · have k2 : 0 < gt (ks μ) t (4 + 3 * a) - gt (ks μ) t (4 + 3 * i) := k1
      rw [if_pos k1]
      simp only [x120_5, x120_6, x120_7, x120_8, x120_11, x120_14, x120_15, x120_16, x120_17, x120_20, x120_21, x120_22, x120_23, x120_26, x120_27, x120_29, x120_31, x120_34, x120_36, x120_39, x120_40, x120_41, x120_42, x120_45, x120_46, x120_47, x120_48, x120_51, x120_54, x120_55, x120_58, x120_59, x120_60, x120_63, pushO, List.length_cons, List.length_nil, Nat.reduceAdd, Nat.reduceLeDiff, Nat.le_refl, Nat.zero_le, isD_i, isD_r, isD_l, isD_n, if_true, if_false, ite_true, ite_false, reduceIte, hw, mdF h, q1, hn, h1, qa, qi, k2, ← nI_succ]
      exact ih (i + 1) i _ (isD_i _) (by omega) (by omega) (by omega)
    · have k2 : ¬ 0 < gt (ks μ) t (4 + 3 * a) - gt (ks μ) t (4 + 3 * i) := k1
      rw [if_neg k1]
      by_cases k3 : vC (ks μ) t a - vC (ks μ) t i = 0
      · have k4 : gt (ks μ) t (4 + 3 * a) - gt (ks μ) t (4 + 3 * i) = 0 := k3
        have k5 : ¬ (0 : Int32) < 0 := by decide +kernel
        rw [if_pos k3]
        by_cases k6 : vE (ks μ) t a < vE (ks μ) t i
        · have k7 : gt (ks μ) t (5 + 3 * a) < gt (ks μ) t (5 + 3 * i) := k6
          rw [if_pos k6]
          simp only [x120_5, x120_6, x120_7, x120_8, x120_11, x120_14, x120_15, x120_16, x120_17, x120_20, x120_21, x120_22, x120_23, x120_26, x120_27, x120_29, x120_31, x120_34, x120_36, x120_39, x120_40, x120_41, x120_42, x120_45, x120_46, x120_47, x120_48, x120_51, x120_54, x120_55, x120_58, x120_59, x120_60, x120_63, pushO, List.length_cons, List.length_nil, Nat.reduceAdd, Nat.reduceLeDiff, Nat.le_refl, Nat.zero_le, isD_i, isD_r, isD_l, isD_n, if_true, if_false, ite_true, ite_false, reduceIte, hw, mdF h, q1, hn, h1, qa, qi, pa, pi, k4, k5, k7, ← nI_succ]
          exact ih (i + 1) i _ (isD_i _) (by omega) (by omega) (by omega)
        · have k7 : ¬ gt (ks μ) t (5 + 3 * a) < gt (ks μ) t (5 + 3 * i) := k6
          rw [if_neg k6]
          simp only [x120_5, x120_6, x120_7, x120_8, x120_11, x120_14, x120_15, x120_16, x120_17, x120_20, x120_21, x120_22, x120_23, x120_26, x120_27, x120_29, x120_31, x120_34, x120_36, x120_39, x120_40, x120_41, x120_42, x120_45, x120_46, x120_47, x120_48, x120_51, x120_54, x120_55, x120_58, x120_59, x120_60, x120_63, pushO, List.length_cons, List.length_nil, Nat.reduceAdd, Nat.reduceLeDiff, Nat.le_refl, Nat.zero_le, isD_i, isD_r, isD_l, isD_n, if_true, if_false, ite_true, ite_false, reduceIte, hw, mdF h, q1, hn, h1, qa, qi, pa, pi, k4, k5, k7, ← nI_succ]
          exact ih (i + 1) a _ (isD_i _) (by omega) (by omega) ha
      · have k4 : ¬ gt (ks μ) t (4 + 3 * a) - gt (ks μ) t (4 + 3 * i) = 0 := k3
        rw [if_neg k3]
        simp only [x120_5, x120_6, x120_7, x120_8, x120_11, x120_14, x120_15, x120_16, x120_17, x120_20, x120_21, x120_22, x120_23, x120_26, x120_27, x120_29, x120_31, x120_34, x120_36, x120_39, x120_40, x120_41, x120_42, x120_45, x120_46, x120_47, x120_48, x120_51, x120_54, x120_55, x120_58, x120_59, x120_60, x120_63, pushO, List.length_cons, List.length_nil, Nat.reduceAdd, Nat.reduceLeDiff, Nat.le_refl, Nat.zero_le, isD_i, isD_r, isD_l, isD_n, if_true, if_false, ite_true, ite_false, reduceIte, hw, mdF h, q1, hn, h1, qa, qi, k2, k4, ← nI_succ]
        exact ih (i + 1) a _ (isD_i _) (by omega) (by omega) ha
def wk (c e : Nat → Int32) (n : Nat) : Nat := wkF c e (n - 1) 1 0
theorem e120 {t n : Nat} {K : Option Value → Hp → Prop} {m : Nat} {μ : ModM} {σ : Hp} (h : modAt m μ σ) (ht : t < 2) (hn : gt (ks μ) t 1 = nI n) (hb : n ≤ 12) : X 120 0 [.ref m, .int (nI t), .null, .null, .null] [] σ K = K (some (.int (nI (wk (vC (ks μ) t) (vE (ks μ) t) n)))) σ := by
  have q := l120 (K := K) h ht hn hb (n - 1) 1 0 .null isD_n rfl (by omega) (by omega)
  rw [nI_0, ← L1] at q
  simp only [x120_0, x120_1, x120_2, x120_3, pushO, List.length_cons, List.length_nil, Nat.reduceAdd, Nat.reduceLeDiff, Nat.le_refl, Nat.zero_le, isD_i, isD_r, isD_l, isD_n, if_true, if_false, ite_true, ite_false, reduceIte, q, wk]
theorem e122 {t n S : Nat} {K : Option Value → Hp → Prop} {m : Nat} {μ : ModM} {σ : Hp} (h : modAt m μ σ) (ht : t < 2) (hn : gt (ks μ) t 1 = nI n) (hb : n ≤ 12) (hS : ks μ 0 = nI S) (hS2 : S ≤ 12) : X 122 0 [.ref m, .int (nI t)] [] σ K = K (some (.int (bI (decide (n = S))))) σ := by
  have q1 := fun K => e113 (K := K) h ht (show 1 < 160 by omega)
  rw [← L1] at q1
  have i0 : inB 0 321 = true := by decide +kernel
  have z0 : (0 : Int32).toNatClampNeg = 0 := by decide +kernel
  by_cases k1 : n = S
  · subst k1
    simp only [x122_0, x122_1, x122_2, x122_3, x122_6, x122_7, x122_10, x122_11, x122_12, x122_15, x122_16, x122_19, x122_20 (x := 1) (by decide +kernel), x122_20 (x := 0) (by decide +kernel), pushO, List.length_cons, List.length_nil, Nat.reduceAdd, Nat.reduceLeDiff, Nat.le_refl, Nat.zero_le, isD_i, isD_r, isD_l, isD_n, if_true, if_false, ite_true, ite_false, reduceIte, mdF h, q1, hn, hS, i0, z0, decide_true, bI_t]
  · have k2 : ¬ nI n = nI S := by rw [nI_eq_iff (by omega) (by omega)]; exact k1
    simp only [x122_0, x122_1, x122_2, x122_3, x122_6, x122_7, x122_10, x122_11, x122_12, x122_15, x122_16, x122_19, x122_20 (x := 1) (by decide +kernel), x122_20 (x := 0) (by decide +kernel), pushO, List.length_cons, List.length_nil, Nat.reduceAdd, Nat.reduceLeDiff, Nat.le_refl, Nat.zero_le, isD_i, isD_r, isD_l, isD_n, if_true, if_false, ite_true, ite_false, reduceIte, mdF h, q1, hn, hS, i0, z0, k2, k1, decide_false, bI_f]
/-! writes: the heap told as an overlay -/
theorem g113 {t k m : Nat} {μ : ModM} {σ : Hp} {s : Nat → Int32} {K : Option Value → Hp → Prop} (ht : t < 2) (hk : k < 160) : X 113 0 [.ref m, .int (nI t), .int (nI k)] [] (modPut m (ws μ s) σ) K = K (some (.int (gt s t k))) (modPut m (ws μ s) σ) := e113 modAP ht hk
theorem g114 {t k m : Nat} {v : Int32} {μ : ModM} {σ : Hp} {s : Nat → Int32} {K : Option Value → Hp → Prop} (ht : t < 2) (hk : k < 160) : X 114 0 [.ref m, .int (nI t), .int (nI k), .int v] [] (modPut m (ws μ s) σ) K = K none (modPut m (ws μ (lt_ s t k v)) σ) := by
  have q := q114 (K := K) (v := v) (modAP (r := m) (ρ := ws μ s) (σ := σ)) ht hk
  rw [modPP] at q
  exact q
theorem ws_s {m : Nat} {μ : ModM} {σ : Hp} (h : modAt m μ σ) : modPut m (ws μ (ks μ)) σ = σ := by
  have e : ws μ (ks μ) = μ := rfl
  rw [e, modPS h]
def gvF (t : Nat) : Nat → Nat → (Nat → Int32) → (Nat → Int32)
  | 0, _, s => s
  | d + 1, q, s => gvF t d (q + 1) (lt_ s t (3 + q) (gt s t (6 + q)))
def clF (t : Nat) : Nat → Nat → (Nat → Int32) → (Nat → Int32)
  | 0, _, s => s
  | d + 1, q, s => clF t d (q + 1) (lt_ s t q 0)
theorem ix3 (k : Nat) : 3 * nI k = nI (3 * k) := by rw [L3, nIm]
theorem ix3a (k : Nat) : 3 + nI k = nI (3 + k) := by rw [L3, nIa]
theorem ix6a (k : Nat) : nI (3 + k) + 3 = nI (6 + k) := by rw [L3, nIa]; congr 1; omega
theorem ixx (a b : Nat) : nI a + nI b = nI (a + b) := nIa a b
theorem l121a {k n1 : Nat} {t m : Nat} {μ : ModM} {σ : Hp} {K : Option Value → Hp → Prop} (ht : t < 2) (hb : n1 ≤ 12) : ∀ (d q : Nat) (s : Nat → Int32), 3 * n1 - q = d → q ≤ 3 * n1 → X 121 14 [.ref m, .int (nI t), .int (nI k), .int (nI n1), .int (nI q)] [] (modPut m (ws μ s) σ) K = X 121 48 [.ref m, .int (nI t), .int (nI k), .int (nI n1), .int (nI (3 * n1))] [] (modPut m (ws μ (gvF t d q s)) σ) K := by
  intro d
  induction d with
  | zero =>
    intro q s hd hq
    have e : q = 3 * n1 := by omega
    subst e
    have h1 : ¬ nI (3 * n1) < nI (3 * n1) := nI_nlt (by omega) (by omega)
    rw [x121_14]
    simp only [x121_16, x121_17, x121_18, x121_19, pushO, List.length_cons, List.length_nil, Nat.reduceAdd, Nat.reduceLeDiff, Nat.le_refl, Nat.zero_le, isD_i, isD_r, isD_l, isD_n, if_true, if_false, ite_true, ite_false, reduceIte, ix3, h1, gvF]
  | succ d ih =>
    intro q s hd hq
    have h1 : nI q < nI (3 * n1) := nI_lt (by omega) (by omega)
    have a1 := fun K => g113 (K := K) (m := m) (μ := μ) (σ := σ) (s := s) ht (show 6 + q < 160 by omega)
    have a2 := fun v K => g114 (K := K) (v := v) (m := m) (μ := μ) (σ := σ) (s := s) ht (show 3 + q < 160 by omega)
    have f := mdF (modAP (r := m) (ρ := ws μ s) (σ := σ))
    rw [x121_14]
    simp only [x121_16, x121_17, x121_18, x121_19, x121_22, x121_23, x121_24, x121_25, x121_27, x121_28, x121_29, x121_30, x121_31, x121_33, x121_34, x121_35, x121_36, x121_39, x121_42, x121_45, pushO, List.length_cons, List.length_nil, Nat.reduceAdd, Nat.reduceLeDiff, Nat.le_refl, Nat.zero_le, isD_i, isD_r, isD_l, isD_n, if_true, if_false, ite_true, ite_false, reduceIte, ix3, h1, f, ix3a, ix6a, a1, a2, ← nI_succ, gvF]
    exact ih (q + 1) _ (by omega) (by omega)
theorem l121b {k n1 : Nat} {t m : Nat} {μ : ModM} {σ : Hp} {K : Option Value → Hp → Prop} (ht : t < 2) (hb : n1 ≤ 12) : ∀ (d q : Nat) (s : Nat → Int32), 3 - q = d → q ≤ 3 → X 121 51 [.ref m, .int (nI t), .int (nI k), .int (nI n1), .int (nI q)] [] (modPut m (ws μ s) σ) K = X 121 77 [.ref m, .int (nI t), .int (nI k), .int (nI n1), .int 3] [] (modPut m (ws μ (clF t d (3 + 3 * n1 + q) s)) σ) K := by
  intro d
  induction d with
  | zero =>
    intro q s hd hq
    have e : q = 3 := by omega
    subst e
    have h1 : ¬ (3 : Int32) < 3 := by decide +kernel
    rw [← L3, x121_51]
    simp only [x121_53, x121_54, pushO, List.length_cons, List.length_nil, Nat.reduceAdd, Nat.reduceLeDiff, Nat.le_refl, Nat.zero_le, isD_i, isD_r, isD_l, isD_n, if_true, if_false, ite_true, ite_false, reduceIte, h1, clF]
  | succ d ih =>
    intro q s hd hq
    have h1 : nI q < 3 := by rw [L3]; exact nI_lt (by omega) (by omega)
    have a2 := fun v K => g114 (K := K) (v := v) (m := m) (μ := μ) (σ := σ) (s := s) ht (show 3 + 3 * n1 + q < 160 by omega)
    have f := mdF (modAP (r := m) (ρ := ws μ s) (σ := σ))
    rw [x121_51]
    simp only [x121_53, x121_54, x121_57, x121_58, x121_59, x121_60, x121_61, x121_62, x121_63, x121_64, x121_66, x121_67, x121_68, x121_71, x121_74, pushO, List.length_cons, List.length_nil, Nat.reduceAdd, Nat.reduceLeDiff, Nat.le_refl, Nat.zero_le, isD_i, isD_r, isD_l, isD_n, if_true, if_false, ite_true, ite_false, reduceIte, h1, f, ix3, ix3a, ixx, a2, ← nI_succ, clF]
    exact ih (q + 1) _ (by omega) (by omega)
def guF (s : Nat → Int32) (t n k : Nat) : Nat → Int32 := lt_ (clF t 3 (3 + 3 * (n - 1)) (gvF t (3 * (n - 1) - 3 * k) (3 * k) s)) t 1 (nI (n - 1))
theorem g121 {k n : Nat} {s : Nat → Int32} {t m : Nat} {μ : ModM} {σ : Hp} {K : Option Value → Hp → Prop} (ht : t < 2) (hn : gt s t 1 = nI n) (hb : n ≤ 12) (hk : k < n) : X 121 0 [.ref m, .int (nI t), .int (nI k), .null, .null] [] (modPut m (ws μ s) σ) K = K none (modPut m (ws μ (guF s t n k)) σ) := by
  have a0 := fun K => g113 (K := K) (m := m) (μ := μ) (σ := σ) (s := s) ht (show 1 < 160 by omega)
  have f := mdF (modAP (r := m) (ρ := ws μ s) (σ := σ))
  have f2 := mdF (modAP (r := m) (ρ := ws μ (clF t 3 (3 + 3 * (n - 1)) (gvF t (3 * (n - 1) - 3 * k) (3 * k) s))) (σ := σ))
  have a1 := fun K => l121a (K := K) (k := k) (n1 := n - 1) (m := m) (μ := μ) (σ := σ) ht (by omega) (3 * (n - 1) - 3 * k) (3 * k) s rfl (by omega)
  have a2 := fun s K => l121b (K := K) (k := k) (n1 := n - 1) (m := m) (μ := μ) (σ := σ) ht (by omega) 3 0 s rfl (by omega)
  have a3 := fun v s K => g114 (K := K) (v := v) (m := m) (μ := μ) (σ := σ) (s := s) ht (show 1 < 160 by omega)
  have e : nI n - 1 = nI (n - 1) := by
    obtain ⟨n', rfl⟩ : ∃ n', n = n' + 1 := ⟨n - 1, by omega⟩
    rw [nI_pred]
    rfl
  rw [← L1] at a0 a3
  rw [nI_0] at a2
  simp only [Nat.add_zero] at a2
  simp only [x121_0, x121_1, x121_2, x121_3, x121_6, x121_7, x121_8, x121_9, x121_10, x121_11, x121_12, pushO, List.length_cons, List.length_nil, Nat.reduceAdd, Nat.reduceLeDiff, Nat.le_refl, Nat.zero_le, isD_i, isD_r, isD_l, isD_n, if_true, if_false, ite_true, ite_false, reduceIte, f, a0, hn, e, ix3, a1]
  simp only [x121_48, x121_49, pushO, List.length_cons, List.length_nil, Nat.reduceAdd, Nat.reduceLeDiff, Nat.le_refl, Nat.zero_le, isD_i, isD_r, isD_l, isD_n, if_true, if_false, ite_true, ite_false, reduceIte, a2]
  simp only [x121_77, x121_78, x121_79, x121_80, x121_81, x121_84, pushO, List.length_cons, List.length_nil, Nat.reduceAdd, Nat.reduceLeDiff, Nat.le_refl, Nat.zero_le, isD_i, isD_r, isD_l, isD_n, if_true, if_false, ite_true, ite_false, reduceIte, f2, a3, guF]
