/-! overlays of cells, counted loops -/
def ov (σ : Hp) (a n : Nat) (f : Nat → Option AC) : Hp := (fun q => if a ≤ q ∧ q < a + n then f (q - a) else σ.1 q, σ.2)
def atC (σ : Hp) (a n : Nat) (f : Nat → Option AC) : Prop := ∀ j, j < n → σ.1 (a + j) = f j
theorem Hp_ext {σ τ : Hp} (h : ∀ q, σ.1 q = τ.1 q) (h2 : σ.2 = τ.2) : σ = τ := Prod.ext (funext h) h2
theorem ov_in {σ : Hp} {a n : Nat} {f : Nat → Option AC} {j : Nat} (h : j < n) : (ov σ a n f).1 (a + j) = f j := by
  show (if a ≤ a + j ∧ a + j < a + n then f (a + j - a) else _) = _
  rw [if_pos ⟨by omega, by omega⟩, Nat.add_sub_cancel_left]
theorem ov_off {σ : Hp} {a n : Nat} {f : Nat → Option AC} {q : Nat} (h : q < a ∨ a + n ≤ q) : (ov σ a n f).1 q = σ.1 q := by
  show (if a ≤ q ∧ q < a + n then f (q - a) else _) = _
  rw [if_neg (by omega)]
theorem ov_at {σ : Hp} {a n : Nat} {f : Nat → Option AC} : atC (ov σ a n f) a n f := fun _ h => ov_in h
theorem ov_2 {σ : Hp} {a n : Nat} {f : Nat → Option AC} : (ov σ a n f).2 = σ.2 := rfl
theorem ov_cases {σ τ : Hp} {a n : Nat} (h1 : ∀ j, j < n → σ.1 (a + j) = τ.1 (a + j)) (h2 : ∀ q, (q < a ∨ a + n ≤ q) → σ.1 q = τ.1 q) (h3 : σ.2 = τ.2) : σ = τ := by
  refine Hp_ext (fun q => ?_) h3
  by_cases hq : q < a ∨ a + n ≤ q
  · exact h2 q hq
  · have := h1 (q - a) (by omega)
    rwa [show a + (q - a) = q by omega] at this
theorem ov_ov {σ : Hp} {a n : Nat} {f g : Nat → Option AC} : ov (ov σ a n f) a n g = ov σ a n g := ov_cases (fun j hj => by rw [ov_in hj, ov_in hj]) (fun q hq => by rw [ov_off hq, ov_off hq, ov_off hq]) rfl
theorem ov_self {σ : Hp} {a n : Nat} {f : Nat → Option AC} (h : atC σ a n f) : ov σ a n f = σ := ov_cases (fun j hj => by rw [ov_in hj, h j hj]) (fun q hq => ov_off hq) rfl
theorem ov_congr {σ : Hp} {a n : Nat} {f g : Nat → Option AC} (h : ∀ j, j < n → f j = g j) : ov σ a n f = ov σ a n g := ov_cases (fun j hj => by rw [ov_in hj, ov_in hj, h j hj]) (fun q hq => by rw [ov_off hq, ov_off hq]) rfl
theorem ov_set {σ : Hp} {a n : Nat} {f : Nat → Option AC} (h : atC σ a n f) {k : Nat} (hk : k < n) {x : AC} : hset σ (a + k) x = ov σ a n (fun j => if j = k then some x else f j) := by
  refine ov_cases (a := a) (n := n) (fun j hj => ?_) (fun q hq => ?_) rfl
  · rw [ov_in hj]
    show (if a + j = a + k then some x else σ.1 (a + j)) = _
    by_cases e : j = k
    · rw [if_pos (by omega), if_pos e]
    · rw [if_neg (by omega), if_neg e, h j hj]
  · rw [ov_off hq]
    show (if q = a + k then some x else σ.1 q) = _
    rw [if_neg (by omega)]
theorem ov_sub {σ : Hp} {a n d m : Nat} {f f' g : Nat → Option AC} (h : atC σ a n f) (hd : d + m ≤ n) (h1 : ∀ j, j < m → f' (d + j) = g j) (h2 : ∀ j, j < n → (j < d ∨ d + m ≤ j) → f' j = f j) : ov σ (a + d) m g = ov σ a n f' := by
  refine ov_cases (a := a) (n := n) (fun j hj => ?_) (fun q hq => ?_) rfl
  · rw [ov_in hj]
    by_cases e : j < d ∨ d + m ≤ j
    · rw [ov_off (by omega), h j hj, h2 j hj e]
    · have := h1 (j - d) (by omega)
      rw [show d + (j - d) = j by omega] at this
      rw [show a + j = a + d + (j - d) by omega, ov_in (by omega), this]
  · rw [ov_off hq, ov_off (by omega)]
theorem atC_off {σ : Hp} {a n b m : Nat} {f g : Nat → Option AC} (h : atC σ a n f) (hd : a + n ≤ b ∨ b + m ≤ a) : atC (ov σ b m g) a n f := fun j hj => by rw [ov_off (by omega)]; exact h j hj
theorem ov_comm {σ : Hp} {a n b m : Nat} {f g : Nat → Option AC} (hd : a + n ≤ b ∨ b + m ≤ a) : ov (ov σ b m g) a n f = ov (ov σ a n f) b m g := by
  refine Hp_ext (fun q => ?_) rfl
  by_cases h1 : q < a ∨ a + n ≤ q
  · rw [ov_off h1]
    by_cases h2 : q < b ∨ b + m ≤ q
    · rw [ov_off h2, ov_off h2, ov_off h1]
    · obtain ⟨j, rfl⟩ : ∃ j, q = b + j := ⟨q - b, by omega⟩
      rw [ov_in (by omega), ov_in (by omega)]
  · obtain ⟨j, rfl⟩ : ∃ j, q = a + j := ⟨q - a, by omega⟩
    rw [ov_in (by omega), ov_off (by omega), ov_in (by omega)]
theorem atC_sub {σ : Hp} {a n d m : Nat} {f g : Nat → Option AC} (h : atC σ a n f) (hd : d + m ≤ n) (h1 : ∀ j, j < m → f (d + j) = g j) : atC σ (a + d) m g := fun j hj => by rw [Nat.add_assoc, h (d + j) (by omega), h1 j hj]
theorem gF_ob {σ : Hp} {a ci k : Nat} {fs : List Value} (h : σ.1 a = some (.inl (ci, fs))) : gF σ a k = fs.getD k .null := by unfold gF; rw [h]
theorem okF_ob {σ : Hp} {a ci ci' k : Nat} {fs : List Value} (h : σ.1 a = some (.inl (ci', fs))) : okF σ a ci k = (Nat.beq ci' ci && decide (k < fs.length)) := by unfold okF; rw [h]
theorem okO_ob {σ : Hp} {a ci ci' : Nat} {fs : List Value} (h : σ.1 a = some (.inl (ci', fs))) : okO σ a ci = Nat.beq ci' ci := by unfold okO; rw [h]
theorem pF_ob {σ : Hp} {a ci k : Nat} {fs : List Value} {v : Value} (h : σ.1 a = some (.inl (ci, fs))) : pF σ a k v = hset σ a (.inl (ci, fs.set k v)) := by unfold pF; rw [h]
theorem okA_ar {σ : Hp} {a t t' n : Nat} {f : Nat → Int32} {i : Int32} (h : σ.1 a = some (.inr (.inl (t', n, f)))) : okA σ t a i = (Nat.beq t' t && inB i n) := by unfold okA; rw [h]
theorem okB_ar {σ : Hp} {a t t' n : Nat} {f : Nat → Int32} {i : Int32} (h : σ.1 a = some (.inr (.inl (t', n, f)))) : okB σ t a i = (Nat.beq t' t && inB i n) := by unfold okB; rw [h]
theorem gA_ar {σ : Hp} {a t n : Nat} {f : Nat → Int32} {i : Int32} (h : σ.1 a = some (.inr (.inl (t, n, f)))) : gA σ a i = f i.toNatClampNeg := by unfold gA; rw [h]
theorem pA_ar {σ : Hp} {a t n : Nat} {f : Nat → Int32} {i x : Int32} (h : σ.1 a = some (.inr (.inl (t, n, f)))) : pA σ a i x = hset σ a (.inr (.inl (t, n, upd f i.toNatClampNeg x))) := by unfold pA; rw [h]
theorem okL_ar {σ : Hp} {a t n : Nat} {f : Nat → Int32} (h : σ.1 a = some (.inr (.inl (t, n, f)))) : okL σ a = (Nat.beq t 0 || Nat.beq t 1) := by unfold okL; rw [h]
theorem gL_ar {σ : Hp} {a t n : Nat} {f : Nat → Int32} (h : σ.1 a = some (.inr (.inl (t, n, f)))) : gL σ a = nI n := by unfold gL; rw [h]
theorem inB_nI {k n : Nat} (h : k < n) (hn : n < 2 ^ 31) : inB (nI k) n = true := decide_eq_true (nI_in h hn)
theorem nI_lt_iff {a b : Nat} (ha : a < 2 ^ 31) (hb : b < 2 ^ 31) : (nI a < nI b) = (a < b) := by
  rw [Int32.lt_iff_toInt_lt, nI_toInt ha, nI_toInt hb]
  exact propext ⟨fun h => by omega, fun h => by omega⟩
theorem nI_eq_iff {a b : Nat} (ha : a < 2 ^ 31) (hb : b < 2 ^ 31) : (nI a = nI b) = (a = b) := by
  refine propext ⟨fun h => ?_, fun h => by rw [h]⟩
  have := congrArg Int32.toInt h
  rw [nI_toInt ha, nI_toInt hb] at this
  omega
theorem nI_neg {a : Nat} (ha : a < 2 ^ 31) : (nI a < 0) = False := eq_false (nI_pos ha)
def bI (b : Bool) : Int32 := if b then 1 else 0
theorem bI_ok (b : Bool) : (bI b == 0 || bI b == 1) = true := by cases b <;> decide +kernel
theorem bI_t : bI true = 1 := rfl
theorem bI_f : bI false = 0 := rfl
theorem bI_0 (b : Bool) : (bI b = 0) = (b = false) := by cases b <;> decide +kernel
theorem ok_0 : ((0 : Int32) == 0 || (0 : Int32) == 1) = true := by decide +kernel
theorem ok_1 : ((1 : Int32) == 0 || (1 : Int32) == 1) = true := by decide +kernel
/-- the first place from k on, of n, at which p holds -/
def fnd (p : Nat → Bool) : Nat → Nat → Int32
  | 0, _ => -6
  | n + 1, k => if p k = true then nI k else fnd p n (k + 1)
/-- a value carried through n places from k on -/
def fold {α : Type} (f : α → Nat → α) : Nat → Nat → α → α
  | 0, _, x => x
  | n + 1, k, x => fold f n (k + 1) (f x k)
def at_ (f : Nat → Int32) (t : Nat) (i : Int32) : Int32 := if i < 0 then 0 else if i < nI t then f i.toNatClampNeg else 0
def in_ (t : Nat) (i : Int32) : Bool := if i < 0 then false else decide (i < nI t)
theorem at_nI {f : Nat → Int32} {t k : Nat} (h : k < t) (ht : t < 2 ^ 31) : at_ f t (nI k) = f k := by
  unfold at_
  rw [if_neg (nI_pos (by omega)), if_pos (nI_lt h ht), nI_clamp (by omega)]
theorem in_nI {t k : Nat} (ht : t < 2 ^ 31) (hk : k < 2 ^ 31) : in_ t (nI k) = decide (k < t) := by
  unfold in_
  rw [if_neg (nI_pos hk)]
  exact decide_eq_decide.mpr (by rw [nI_lt_iff hk ht])
theorem nn_clamp {i : Int32} (h : ¬ i < 0) : nI i.toNatClampNeg = i ∧ i.toNatClampNeg < 2 ^ 31 := by
  have h0 : (0 : Int) ≤ i.toInt := by
    have := Int32.not_lt.mp h
    simpa using Int32.le_iff_toInt_le.mp this
  have h1 : i.toInt < 2 ^ 31 := Int32.toInt_lt i
  have hz : ((i.toNatClampNeg : Nat) : Int) = i.toInt := by show ((i.toInt.toNat : Nat) : Int) = _; omega
  refine ⟨?_, by omega⟩
  apply Int32.toInt_inj.mp
  rw [nI_toInt (by omega), hz]
theorem lt_clamp {i : Int32} {t : Nat} (h : ¬ i < 0) (ht : t < 2 ^ 31) : (i < nI t) = (i.toNatClampNeg < t) := by
  obtain ⟨h1, h2⟩ := nn_clamp h
  rw [← nI_lt_iff h2 ht, h1]
theorem isD_i (x : Int32) : isD (.int x) = false := by simp [isD]
theorem isD_r (x : Nat) : isD (.ref x) = false := by simp [isD]
theorem isD_l (x : Int64) : isD (.long x) = false := by simp [isD]
theorem isD_n : isD .null = false := by simp [isD]
theorem i1_ne : ((1 : Int32) = 0) = False := eq_false (by decide +kernel)
/-! the pictures of the flat kinds of objects -/
abbrev RowM : Type := (Nat → Int32) × (Nat → Int32) × (Nat → Int32) × Nat × Nat
def rowC (r : Nat) (ρ : RowM) (j : Nat) : Option AC := match j with
  | 0 => some (.inl (3, [.ref (r + 1), .ref (r + 2), .ref (r + 3), .int (nI (ρ.2.2.2.1)), .int (nI (ρ.2.2.2.2))]))
  | 1 => some (.inr (.inl (0, 24, (ρ.1))))
  | 2 => some (.inr (.inl (0, 24, (ρ.2.1))))
  | 3 => some (.inr (.inl (0, 24, (ρ.2.2.1))))
  | _ => none
def rowAt (r : Nat) (ρ : RowM) (σ : Hp) : Prop := atC σ r 4 (rowC r ρ)
def rowPut (r : Nat) (ρ : RowM) (σ : Hp) : Hp := ov σ r 4 (rowC r ρ)
theorem row_0 {r : Nat} {v_g : (Nat → Int32)} {v_c : (Nat → Int32)} {v_e : (Nat → Int32)} {v_s : Nat} {v_t : Nat} {σ : Hp} (h : rowAt r (v_g, v_c, v_e, v_s, v_t) σ) : σ.1 r = some (.inl (3, [.ref (r + 1), .ref (r + 2), .ref (r + 3), .int (nI v_s), .int (nI v_t)])) := h 0 (Nat.le_of_ble_eq_true rfl)
theorem row_1 {r : Nat} {v_g : (Nat → Int32)} {v_c : (Nat → Int32)} {v_e : (Nat → Int32)} {v_s : Nat} {v_t : Nat} {σ : Hp} (h : rowAt r (v_g, v_c, v_e, v_s, v_t) σ) : σ.1 (r + 1) = some (.inr (.inl (0, 24, v_g))) := h 1 (Nat.le_of_ble_eq_true rfl)
theorem row_2 {r : Nat} {v_g : (Nat → Int32)} {v_c : (Nat → Int32)} {v_e : (Nat → Int32)} {v_s : Nat} {v_t : Nat} {σ : Hp} (h : rowAt r (v_g, v_c, v_e, v_s, v_t) σ) : σ.1 (r + 2) = some (.inr (.inl (0, 24, v_c))) := h 2 (Nat.le_of_ble_eq_true rfl)
theorem row_3 {r : Nat} {v_g : (Nat → Int32)} {v_c : (Nat → Int32)} {v_e : (Nat → Int32)} {v_s : Nat} {v_t : Nat} {σ : Hp} (h : rowAt r (v_g, v_c, v_e, v_s, v_t) σ) : σ.1 (r + 3) = some (.inr (.inl (0, 24, v_e))) := h 3 (Nat.le_of_ble_eq_true rfl)
theorem rowS {r : Nat} {v_g : (Nat → Int32)} {v_c : (Nat → Int32)} {v_e : (Nat → Int32)} {v_s : Nat} {v_t : Nat} {σ : Hp} (h : rowAt r (v_g, v_c, v_e, v_s, v_t) σ) : okO σ r 3 = true ∧ okF σ r 3 0 = true ∧ gF σ r 0 = .ref (r + 1) ∧ okF σ r 3 1 = true ∧ gF σ r 1 = .ref (r + 2) ∧ okF σ r 3 2 = true ∧ gF σ r 2 = .ref (r + 3) ∧ okF σ r 3 3 = true ∧ gF σ r 3 = .int (nI v_s) ∧ okF σ r 3 4 = true ∧ gF σ r 4 = .int (nI v_t) ∧ okL σ (r + 1) = true ∧ gL σ (r + 1) = 24 ∧ (∀ i, okA σ 0 (r + 1) i = inB i 24) ∧ (∀ i, okB σ 0 (r + 1) i = inB i 24) ∧ (∀ i, gA σ (r + 1) i = v_g i.toNatClampNeg) ∧ okL σ (r + 2) = true ∧ gL σ (r + 2) = 24 ∧ (∀ i, okA σ 0 (r + 2) i = inB i 24) ∧ (∀ i, okB σ 0 (r + 2) i = inB i 24) ∧ (∀ i, gA σ (r + 2) i = v_c i.toNatClampNeg) ∧ okL σ (r + 3) = true ∧ gL σ (r + 3) = 24 ∧ (∀ i, okA σ 0 (r + 3) i = inB i 24) ∧ (∀ i, okB σ 0 (r + 3) i = inB i 24) ∧ (∀ i, gA σ (r + 3) i = v_e i.toNatClampNeg) := ⟨(okO_ob (row_0 h)).trans rfl, (okF_ob (row_0 h)).trans rfl, (gF_ob (row_0 h)).trans rfl, (okF_ob (row_0 h)).trans rfl, (gF_ob (row_0 h)).trans rfl, (okF_ob (row_0 h)).trans rfl, (gF_ob (row_0 h)).trans rfl, (okF_ob (row_0 h)).trans rfl, (gF_ob (row_0 h)).trans rfl, (okF_ob (row_0 h)).trans rfl, (gF_ob (row_0 h)).trans rfl, (okL_ar (row_1 h)).trans rfl, (gL_ar (row_1 h)).trans (by decide +kernel), fun i => (okA_ar (row_1 h)).trans (Bool.true_and _), fun i => (okB_ar (row_1 h)).trans (Bool.true_and _), fun i => gA_ar (row_1 h), (okL_ar (row_2 h)).trans rfl, (gL_ar (row_2 h)).trans (by decide +kernel), fun i => (okA_ar (row_2 h)).trans (Bool.true_and _), fun i => (okB_ar (row_2 h)).trans (Bool.true_and _), fun i => gA_ar (row_2 h), (okL_ar (row_3 h)).trans rfl, (gL_ar (row_3 h)).trans (by decide +kernel), fun i => (okA_ar (row_3 h)).trans (Bool.true_and _), fun i => (okB_ar (row_3 h)).trans (Bool.true_and _), fun i => gA_ar (row_3 h)⟩
theorem rowP3 {r : Nat} {v_g : (Nat → Int32)} {v_c : (Nat → Int32)} {v_e : (Nat → Int32)} {v_s : Nat} {v_t : Nat} {σ : Hp} (h : rowAt r (v_g, v_c, v_e, v_s, v_t) σ) {n : Nat} : pF σ r 3 (.int (nI n)) = rowPut r (v_g, v_c, v_e, n, v_t) σ := by
  rw [pF_ob (row_0 h)]
  have := ov_set h (k := 0) (Nat.le_of_ble_eq_true rfl) (x := .inl (3, List.set [.ref (r + 1), .ref (r + 2), .ref (r + 3), .int (nI v_s), .int (nI v_t)] 3 (.int (nI n))))
  refine this.trans (ov_congr (fun j hj => ?_))
  match j, hj with
  | 0, _ => rfl
  | 1, _ => rfl
  | 2, _ => rfl
  | 3, _ => rfl
  | j + 4, hj => exact absurd hj (by omega)
theorem rowP3z {r : Nat} {v_g : (Nat → Int32)} {v_c : (Nat → Int32)} {v_e : (Nat → Int32)} {v_s : Nat} {v_t : Nat} {σ : Hp} (h : rowAt r (v_g, v_c, v_e, v_s, v_t) σ)  : pF σ r 3 (.int 0) = rowPut r (v_g, v_c, v_e, 0, v_t) σ := by
  rw [pF_ob (row_0 h)]
  have := ov_set h (k := 0) (Nat.le_of_ble_eq_true rfl) (x := .inl (3, List.set [.ref (r + 1), .ref (r + 2), .ref (r + 3), .int (nI v_s), .int (nI v_t)] 3 (.int 0)))
  refine this.trans (ov_congr (fun j hj => ?_))
  match j, hj with
  | 0, _ => rfl
  | 1, _ => rfl
  | 2, _ => rfl
  | 3, _ => rfl
  | j + 4, hj => exact absurd hj (by omega)
theorem rowP4 {r : Nat} {v_g : (Nat → Int32)} {v_c : (Nat → Int32)} {v_e : (Nat → Int32)} {v_s : Nat} {v_t : Nat} {σ : Hp} (h : rowAt r (v_g, v_c, v_e, v_s, v_t) σ) {n : Nat} : pF σ r 4 (.int (nI n)) = rowPut r (v_g, v_c, v_e, v_s, n) σ := by
  rw [pF_ob (row_0 h)]
  have := ov_set h (k := 0) (Nat.le_of_ble_eq_true rfl) (x := .inl (3, List.set [.ref (r + 1), .ref (r + 2), .ref (r + 3), .int (nI v_s), .int (nI v_t)] 4 (.int (nI n))))
  refine this.trans (ov_congr (fun j hj => ?_))
  match j, hj with
  | 0, _ => rfl
  | 1, _ => rfl
  | 2, _ => rfl
  | 3, _ => rfl
  | j + 4, hj => exact absurd hj (by omega)
theorem rowP4z {r : Nat} {v_g : (Nat → Int32)} {v_c : (Nat → Int32)} {v_e : (Nat → Int32)} {v_s : Nat} {v_t : Nat} {σ : Hp} (h : rowAt r (v_g, v_c, v_e, v_s, v_t) σ)  : pF σ r 4 (.int 0) = rowPut r (v_g, v_c, v_e, v_s, 0) σ := by
  rw [pF_ob (row_0 h)]
  have := ov_set h (k := 0) (Nat.le_of_ble_eq_true rfl) (x := .inl (3, List.set [.ref (r + 1), .ref (r + 2), .ref (r + 3), .int (nI v_s), .int (nI v_t)] 4 (.int 0)))
  refine this.trans (ov_congr (fun j hj => ?_))
  match j, hj with
  | 0, _ => rfl
  | 1, _ => rfl
  | 2, _ => rfl
  | 3, _ => rfl
  | j + 4, hj => exact absurd hj (by omega)
theorem rowA1 {r : Nat} {v_g : (Nat → Int32)} {v_c : (Nat → Int32)} {v_e : (Nat → Int32)} {v_s : Nat} {v_t : Nat} {σ : Hp} (h : rowAt r (v_g, v_c, v_e, v_s, v_t) σ) {i x : Int32} : pA σ (r + 1) i x = rowPut r (upd v_g i.toNatClampNeg x, v_c, v_e, v_s, v_t) σ := by
  rw [pA_ar (row_1 h)]
  have := ov_set h (k := 1) (Nat.le_of_ble_eq_true rfl) (x := .inr (.inl (0, 24, upd v_g i.toNatClampNeg x)))
  refine this.trans (ov_congr (fun j hj => ?_))
  match j, hj with
  | 0, _ => rfl
  | 1, _ => rfl
  | 2, _ => rfl
  | 3, _ => rfl
  | j + 4, hj => exact absurd hj (by omega)
theorem rowA2 {r : Nat} {v_g : (Nat → Int32)} {v_c : (Nat → Int32)} {v_e : (Nat → Int32)} {v_s : Nat} {v_t : Nat} {σ : Hp} (h : rowAt r (v_g, v_c, v_e, v_s, v_t) σ) {i x : Int32} : pA σ (r + 2) i x = rowPut r (v_g, upd v_c i.toNatClampNeg x, v_e, v_s, v_t) σ := by
  rw [pA_ar (row_2 h)]
  have := ov_set h (k := 2) (Nat.le_of_ble_eq_true rfl) (x := .inr (.inl (0, 24, upd v_c i.toNatClampNeg x)))
  refine this.trans (ov_congr (fun j hj => ?_))
  match j, hj with
  | 0, _ => rfl
  | 1, _ => rfl
  | 2, _ => rfl
  | 3, _ => rfl
  | j + 4, hj => exact absurd hj (by omega)
theorem rowA3 {r : Nat} {v_g : (Nat → Int32)} {v_c : (Nat → Int32)} {v_e : (Nat → Int32)} {v_s : Nat} {v_t : Nat} {σ : Hp} (h : rowAt r (v_g, v_c, v_e, v_s, v_t) σ) {i x : Int32} : pA σ (r + 3) i x = rowPut r (v_g, v_c, upd v_e i.toNatClampNeg x, v_s, v_t) σ := by
  rw [pA_ar (row_3 h)]
  have := ov_set h (k := 3) (Nat.le_of_ble_eq_true rfl) (x := .inr (.inl (0, 24, upd v_e i.toNatClampNeg x)))
  refine this.trans (ov_congr (fun j hj => ?_))
  match j, hj with
  | 0, _ => rfl
  | 1, _ => rfl
  | 2, _ => rfl
  | 3, _ => rfl
  | j + 4, hj => exact absurd hj (by omega)
theorem rowAP {r : Nat} {ρ : RowM} {σ : Hp} : rowAt r ρ (rowPut r ρ σ) := ov_at
theorem rowPP {r : Nat} {ρ ρ2 : RowM} {σ : Hp} : rowPut r ρ2 (rowPut r ρ σ) = rowPut r ρ2 σ := ov_ov
theorem rowPS {r : Nat} {ρ : RowM} {σ : Hp} (h : rowAt r ρ σ) : rowPut r ρ σ = σ := ov_self h
theorem rowH1 {r : Nat} {v_g : (Nat → Int32)} {v_c : (Nat → Int32)} {v_e : (Nat → Int32)} {v_s : Nat} {v_t : Nat} {σ : Hp} {f : Nat → Int32} : hset (rowPut r (v_g, v_c, v_e, v_s, v_t) σ) (r + 1) (.inr (.inl (0, 24, f))) = rowPut r (f, v_c, v_e, v_s, v_t) σ := by
  refine (ov_set ov_at (k := 1) (Nat.le_of_ble_eq_true rfl)).trans (ov_ov.trans (ov_congr (fun j hj => ?_)))
  match j, hj with
  | 0, _ => rfl
  | 1, _ => rfl
  | 2, _ => rfl
  | 3, _ => rfl
  | j + 4, hj => exact absurd hj (by omega)
theorem rowH2 {r : Nat} {v_g : (Nat → Int32)} {v_c : (Nat → Int32)} {v_e : (Nat → Int32)} {v_s : Nat} {v_t : Nat} {σ : Hp} {f : Nat → Int32} : hset (rowPut r (v_g, v_c, v_e, v_s, v_t) σ) (r + 2) (.inr (.inl (0, 24, f))) = rowPut r (v_g, f, v_e, v_s, v_t) σ := by
  refine (ov_set ov_at (k := 2) (Nat.le_of_ble_eq_true rfl)).trans (ov_ov.trans (ov_congr (fun j hj => ?_)))
  match j, hj with
  | 0, _ => rfl
  | 1, _ => rfl
  | 2, _ => rfl
  | 3, _ => rfl
  | j + 4, hj => exact absurd hj (by omega)
theorem rowH3 {r : Nat} {v_g : (Nat → Int32)} {v_c : (Nat → Int32)} {v_e : (Nat → Int32)} {v_s : Nat} {v_t : Nat} {σ : Hp} {f : Nat → Int32} : hset (rowPut r (v_g, v_c, v_e, v_s, v_t) σ) (r + 3) (.inr (.inl (0, 24, f))) = rowPut r (v_g, v_c, f, v_s, v_t) σ := by
  refine (ov_set ov_at (k := 3) (Nat.le_of_ble_eq_true rfl)).trans (ov_ov.trans (ov_congr (fun j hj => ?_)))
  match j, hj with
  | 0, _ => rfl
  | 1, _ => rfl
  | 2, _ => rfl
  | 3, _ => rfl
  | j + 4, hj => exact absurd hj (by omega)
theorem rowQ {r : Nat} {v_g : (Nat → Int32)} {v_c : (Nat → Int32)} {v_e : (Nat → Int32)} {v_s : Nat} {v_t : Nat} {σ : Hp} : okO (rowPut r (v_g, v_c, v_e, v_s, v_t) σ) r 3 = true ∧ okF (rowPut r (v_g, v_c, v_e, v_s, v_t) σ) r 3 0 = true ∧ gF (rowPut r (v_g, v_c, v_e, v_s, v_t) σ) r 0 = .ref (r + 1) ∧ okF (rowPut r (v_g, v_c, v_e, v_s, v_t) σ) r 3 1 = true ∧ gF (rowPut r (v_g, v_c, v_e, v_s, v_t) σ) r 1 = .ref (r + 2) ∧ okF (rowPut r (v_g, v_c, v_e, v_s, v_t) σ) r 3 2 = true ∧ gF (rowPut r (v_g, v_c, v_e, v_s, v_t) σ) r 2 = .ref (r + 3) ∧ okF (rowPut r (v_g, v_c, v_e, v_s, v_t) σ) r 3 3 = true ∧ gF (rowPut r (v_g, v_c, v_e, v_s, v_t) σ) r 3 = .int (nI v_s) ∧ okF (rowPut r (v_g, v_c, v_e, v_s, v_t) σ) r 3 4 = true ∧ gF (rowPut r (v_g, v_c, v_e, v_s, v_t) σ) r 4 = .int (nI v_t) ∧ okL (rowPut r (v_g, v_c, v_e, v_s, v_t) σ) (r + 1) = true ∧ gL (rowPut r (v_g, v_c, v_e, v_s, v_t) σ) (r + 1) = 24 ∧ (∀ i, okA (rowPut r (v_g, v_c, v_e, v_s, v_t) σ) 0 (r + 1) i = inB i 24) ∧ (∀ i, okB (rowPut r (v_g, v_c, v_e, v_s, v_t) σ) 0 (r + 1) i = inB i 24) ∧ (∀ i, gA (rowPut r (v_g, v_c, v_e, v_s, v_t) σ) (r + 1) i = v_g i.toNatClampNeg) ∧ okL (rowPut r (v_g, v_c, v_e, v_s, v_t) σ) (r + 2) = true ∧ gL (rowPut r (v_g, v_c, v_e, v_s, v_t) σ) (r + 2) = 24 ∧ (∀ i, okA (rowPut r (v_g, v_c, v_e, v_s, v_t) σ) 0 (r + 2) i = inB i 24) ∧ (∀ i, okB (rowPut r (v_g, v_c, v_e, v_s, v_t) σ) 0 (r + 2) i = inB i 24) ∧ (∀ i, gA (rowPut r (v_g, v_c, v_e, v_s, v_t) σ) (r + 2) i = v_c i.toNatClampNeg) ∧ okL (rowPut r (v_g, v_c, v_e, v_s, v_t) σ) (r + 3) = true ∧ gL (rowPut r (v_g, v_c, v_e, v_s, v_t) σ) (r + 3) = 24 ∧ (∀ i, okA (rowPut r (v_g, v_c, v_e, v_s, v_t) σ) 0 (r + 3) i = inB i 24) ∧ (∀ i, okB (rowPut r (v_g, v_c, v_e, v_s, v_t) σ) 0 (r + 3) i = inB i 24) ∧ (∀ i, gA (rowPut r (v_g, v_c, v_e, v_s, v_t) σ) (r + 3) i = v_e i.toNatClampNeg) ∧ (∀ n, pF (rowPut r (v_g, v_c, v_e, v_s, v_t) σ) r 3 (.int (nI n)) = rowPut r (v_g, v_c, v_e, n, v_t) σ) ∧ (pF (rowPut r (v_g, v_c, v_e, v_s, v_t) σ) r 3 (.int 0) = rowPut r (v_g, v_c, v_e, 0, v_t) σ) ∧ (∀ n, pF (rowPut r (v_g, v_c, v_e, v_s, v_t) σ) r 4 (.int (nI n)) = rowPut r (v_g, v_c, v_e, v_s, n) σ) ∧ (pF (rowPut r (v_g, v_c, v_e, v_s, v_t) σ) r 4 (.int 0) = rowPut r (v_g, v_c, v_e, v_s, 0) σ) ∧ (∀ i x, pA (rowPut r (v_g, v_c, v_e, v_s, v_t) σ) (r + 1) i x = rowPut r (upd v_g i.toNatClampNeg x, v_c, v_e, v_s, v_t) σ) ∧ (∀ i x, pA (rowPut r (v_g, v_c, v_e, v_s, v_t) σ) (r + 2) i x = rowPut r (v_g, upd v_c i.toNatClampNeg x, v_e, v_s, v_t) σ) ∧ (∀ i x, pA (rowPut r (v_g, v_c, v_e, v_s, v_t) σ) (r + 3) i x = rowPut r (v_g, v_c, upd v_e i.toNatClampNeg x, v_s, v_t) σ) := ⟨(rowS rowAP).1, (rowS rowAP).2.1, (rowS rowAP).2.2.1, (rowS rowAP).2.2.2.1, (rowS rowAP).2.2.2.2.1, (rowS rowAP).2.2.2.2.2.1, (rowS rowAP).2.2.2.2.2.2.1, (rowS rowAP).2.2.2.2.2.2.2.1, (rowS rowAP).2.2.2.2.2.2.2.2.1, (rowS rowAP).2.2.2.2.2.2.2.2.2.1, (rowS rowAP).2.2.2.2.2.2.2.2.2.2.1, (rowS rowAP).2.2.2.2.2.2.2.2.2.2.2.1, (rowS rowAP).2.2.2.2.2.2.2.2.2.2.2.2.1, (rowS rowAP).2.2.2.2.2.2.2.2.2.2.2.2.2.1, (rowS rowAP).2.2.2.2.2.2.2.2.2.2.2.2.2.2.1, (rowS rowAP).2.2.2.2.2.2.2.2.2.2.2.2.2.2.2.1, (rowS rowAP).2.2.2.2.2.2.2.2.2.2.2.2.2.2.2.2.1, (rowS rowAP).2.2.2.2.2.2.2.2.2.2.2.2.2.2.2.2.2.1, (rowS rowAP).2.2.2.2.2.2.2.2.2.2.2.2.2.2.2.2.2.2.1, (rowS rowAP).2.2.2.2.2.2.2.2.2.2.2.2.2.2.2.2.2.2.2.1, (rowS rowAP).2.2.2.2.2.2.2.2.2.2.2.2.2.2.2.2.2.2.2.2.1, (rowS rowAP).2.2.2.2.2.2.2.2.2.2.2.2.2.2.2.2.2.2.2.2.2.1, (rowS rowAP).2.2.2.2.2.2.2.2.2.2.2.2.2.2.2.2.2.2.2.2.2.2.1, (rowS rowAP).2.2.2.2.2.2.2.2.2.2.2.2.2.2.2.2.2.2.2.2.2.2.2.1, (rowS rowAP).2.2.2.2.2.2.2.2.2.2.2.2.2.2.2.2.2.2.2.2.2.2.2.2.1, (rowS rowAP).2.2.2.2.2.2.2.2.2.2.2.2.2.2.2.2.2.2.2.2.2.2.2.2.2, fun n => (rowP3 rowAP).trans rowPP, (rowP3z rowAP).trans rowPP, fun n => (rowP4 rowAP).trans rowPP, (rowP4z rowAP).trans rowPP, fun i x => (rowA1 rowAP).trans rowPP, fun i x => (rowA2 rowAP).trans rowPP, fun i x => (rowA3 rowAP).trans rowPP⟩
theorem rowPC {r b m : Nat} {ρ : RowM} {σ : Hp} {g : Nat → Option AC} (hd : r + 4 ≤ b ∨ b + m ≤ r) : rowPut r ρ (ov σ b m g) = ov (rowPut r ρ σ) b m g := ov_comm hd
theorem rowOff {r b m : Nat} {ρ : RowM} {σ : Hp} {g : Nat → Option AC} (h : rowAt r ρ σ) (hd : r + 4 ≤ b ∨ b + m ≤ r) : rowAt r ρ (ov σ b m g) := atC_off h hd
abbrev TalM : Type := (Nat → Int32) × (Nat → Int32) × Nat
def talC (r : Nat) (ρ : TalM) (j : Nat) : Option AC := match j with
  | 0 => some (.inl (7, [.ref (r + 1), .ref (r + 2), .int (nI (ρ.2.2))]))
  | 1 => some (.inr (.inl (0, 60, (ρ.1))))
  | 2 => some (.inr (.inl (0, 60, (ρ.2.1))))
  | _ => none
def talAt (r : Nat) (ρ : TalM) (σ : Hp) : Prop := atC σ r 3 (talC r ρ)
def talPut (r : Nat) (ρ : TalM) (σ : Hp) : Hp := ov σ r 3 (talC r ρ)
theorem tal_0 {r : Nat} {v_g : (Nat → Int32)} {v_c : (Nat → Int32)} {v_n : Nat} {σ : Hp} (h : talAt r (v_g, v_c, v_n) σ) : σ.1 r = some (.inl (7, [.ref (r + 1), .ref (r + 2), .int (nI v_n)])) := h 0 (Nat.le_of_ble_eq_true rfl)
theorem tal_1 {r : Nat} {v_g : (Nat → Int32)} {v_c : (Nat → Int32)} {v_n : Nat} {σ : Hp} (h : talAt r (v_g, v_c, v_n) σ) : σ.1 (r + 1) = some (.inr (.inl (0, 60, v_g))) := h 1 (Nat.le_of_ble_eq_true rfl)
theorem tal_2 {r : Nat} {v_g : (Nat → Int32)} {v_c : (Nat → Int32)} {v_n : Nat} {σ : Hp} (h : talAt r (v_g, v_c, v_n) σ) : σ.1 (r + 2) = some (.inr (.inl (0, 60, v_c))) := h 2 (Nat.le_of_ble_eq_true rfl)
theorem talS {r : Nat} {v_g : (Nat → Int32)} {v_c : (Nat → Int32)} {v_n : Nat} {σ : Hp} (h : talAt r (v_g, v_c, v_n) σ) : okO σ r 7 = true ∧ okF σ r 7 0 = true ∧ gF σ r 0 = .ref (r + 1) ∧ okF σ r 7 1 = true ∧ gF σ r 1 = .ref (r + 2) ∧ okF σ r 7 2 = true ∧ gF σ r 2 = .int (nI v_n) ∧ okL σ (r + 1) = true ∧ gL σ (r + 1) = 60 ∧ (∀ i, okA σ 0 (r + 1) i = inB i 60) ∧ (∀ i, okB σ 0 (r + 1) i = inB i 60) ∧ (∀ i, gA σ (r + 1) i = v_g i.toNatClampNeg) ∧ okL σ (r + 2) = true ∧ gL σ (r + 2) = 60 ∧ (∀ i, okA σ 0 (r + 2) i = inB i 60) ∧ (∀ i, okB σ 0 (r + 2) i = inB i 60) ∧ (∀ i, gA σ (r + 2) i = v_c i.toNatClampNeg) := ⟨(okO_ob (tal_0 h)).trans rfl, (okF_ob (tal_0 h)).trans rfl, (gF_ob (tal_0 h)).trans rfl, (okF_ob (tal_0 h)).trans rfl, (gF_ob (tal_0 h)).trans rfl, (okF_ob (tal_0 h)).trans rfl, (gF_ob (tal_0 h)).trans rfl, (okL_ar (tal_1 h)).trans rfl, (gL_ar (tal_1 h)).trans (by decide +kernel), fun i => (okA_ar (tal_1 h)).trans (Bool.true_and _), fun i => (okB_ar (tal_1 h)).trans (Bool.true_and _), fun i => gA_ar (tal_1 h), (okL_ar (tal_2 h)).trans rfl, (gL_ar (tal_2 h)).trans (by decide +kernel), fun i => (okA_ar (tal_2 h)).trans (Bool.true_and _), fun i => (okB_ar (tal_2 h)).trans (Bool.true_and _), fun i => gA_ar (tal_2 h)⟩
theorem talP2 {r : Nat} {v_g : (Nat → Int32)} {v_c : (Nat → Int32)} {v_n : Nat} {σ : Hp} (h : talAt r (v_g, v_c, v_n) σ) {n : Nat} : pF σ r 2 (.int (nI n)) = talPut r (v_g, v_c, n) σ := by
  rw [pF_ob (tal_0 h)]
  have := ov_set h (k := 0) (Nat.le_of_ble_eq_true rfl) (x := .inl (7, List.set [.ref (r + 1), .ref (r + 2), .int (nI v_n)] 2 (.int (nI n))))
  refine this.trans (ov_congr (fun j hj => ?_))
  match j, hj with
  | 0, _ => rfl
  | 1, _ => rfl
  | 2, _ => rfl
  | j + 3, hj => exact absurd hj (by omega)
theorem talP2z {r : Nat} {v_g : (Nat → Int32)} {v_c : (Nat → Int32)} {v_n : Nat} {σ : Hp} (h : talAt r (v_g, v_c, v_n) σ)  : pF σ r 2 (.int 0) = talPut r (v_g, v_c, 0) σ := by
  rw [pF_ob (tal_0 h)]
  have := ov_set h (k := 0) (Nat.le_of_ble_eq_true rfl) (x := .inl (7, List.set [.ref (r + 1), .ref (r + 2), .int (nI v_n)] 2 (.int 0)))
  refine this.trans (ov_congr (fun j hj => ?_))
  match j, hj with
  | 0, _ => rfl
  | 1, _ => rfl
  | 2, _ => rfl
  | j + 3, hj => exact absurd hj (by omega)
theorem talA1 {r : Nat} {v_g : (Nat → Int32)} {v_c : (Nat → Int32)} {v_n : Nat} {σ : Hp} (h : talAt r (v_g, v_c, v_n) σ) {i x : Int32} : pA σ (r + 1) i x = talPut r (upd v_g i.toNatClampNeg x, v_c, v_n) σ := by
  rw [pA_ar (tal_1 h)]
  have := ov_set h (k := 1) (Nat.le_of_ble_eq_true rfl) (x := .inr (.inl (0, 60, upd v_g i.toNatClampNeg x)))
  refine this.trans (ov_congr (fun j hj => ?_))
  match j, hj with
  | 0, _ => rfl
  | 1, _ => rfl
  | 2, _ => rfl
  | j + 3, hj => exact absurd hj (by omega)
theorem talA2 {r : Nat} {v_g : (Nat → Int32)} {v_c : (Nat → Int32)} {v_n : Nat} {σ : Hp} (h : talAt r (v_g, v_c, v_n) σ) {i x : Int32} : pA σ (r + 2) i x = talPut r (v_g, upd v_c i.toNatClampNeg x, v_n) σ := by
  rw [pA_ar (tal_2 h)]
  have := ov_set h (k := 2) (Nat.le_of_ble_eq_true rfl) (x := .inr (.inl (0, 60, upd v_c i.toNatClampNeg x)))
  refine this.trans (ov_congr (fun j hj => ?_))
  match j, hj with
  | 0, _ => rfl
  | 1, _ => rfl
  | 2, _ => rfl
  | j + 3, hj => exact absurd hj (by omega)
theorem talAP {r : Nat} {ρ : TalM} {σ : Hp} : talAt r ρ (talPut r ρ σ) := ov_at
theorem talPP {r : Nat} {ρ ρ2 : TalM} {σ : Hp} : talPut r ρ2 (talPut r ρ σ) = talPut r ρ2 σ := ov_ov
theorem talPS {r : Nat} {ρ : TalM} {σ : Hp} (h : talAt r ρ σ) : talPut r ρ σ = σ := ov_self h
theorem talH1 {r : Nat} {v_g : (Nat → Int32)} {v_c : (Nat → Int32)} {v_n : Nat} {σ : Hp} {f : Nat → Int32} : hset (talPut r (v_g, v_c, v_n) σ) (r + 1) (.inr (.inl (0, 60, f))) = talPut r (f, v_c, v_n) σ := by
  refine (ov_set ov_at (k := 1) (Nat.le_of_ble_eq_true rfl)).trans (ov_ov.trans (ov_congr (fun j hj => ?_)))
  match j, hj with
  | 0, _ => rfl
  | 1, _ => rfl
  | 2, _ => rfl
  | j + 3, hj => exact absurd hj (by omega)
theorem talH2 {r : Nat} {v_g : (Nat → Int32)} {v_c : (Nat → Int32)} {v_n : Nat} {σ : Hp} {f : Nat → Int32} : hset (talPut r (v_g, v_c, v_n) σ) (r + 2) (.inr (.inl (0, 60, f))) = talPut r (v_g, f, v_n) σ := by
  refine (ov_set ov_at (k := 2) (Nat.le_of_ble_eq_true rfl)).trans (ov_ov.trans (ov_congr (fun j hj => ?_)))
  match j, hj with
  | 0, _ => rfl
  | 1, _ => rfl
  | 2, _ => rfl
  | j + 3, hj => exact absurd hj (by omega)
theorem talQ {r : Nat} {v_g : (Nat → Int32)} {v_c : (Nat → Int32)} {v_n : Nat} {σ : Hp} : okO (talPut r (v_g, v_c, v_n) σ) r 7 = true ∧ okF (talPut r (v_g, v_c, v_n) σ) r 7 0 = true ∧ gF (talPut r (v_g, v_c, v_n) σ) r 0 = .ref (r + 1) ∧ okF (talPut r (v_g, v_c, v_n) σ) r 7 1 = true ∧ gF (talPut r (v_g, v_c, v_n) σ) r 1 = .ref (r + 2) ∧ okF (talPut r (v_g, v_c, v_n) σ) r 7 2 = true ∧ gF (talPut r (v_g, v_c, v_n) σ) r 2 = .int (nI v_n) ∧ okL (talPut r (v_g, v_c, v_n) σ) (r + 1) = true ∧ gL (talPut r (v_g, v_c, v_n) σ) (r + 1) = 60 ∧ (∀ i, okA (talPut r (v_g, v_c, v_n) σ) 0 (r + 1) i = inB i 60) ∧ (∀ i, okB (talPut r (v_g, v_c, v_n) σ) 0 (r + 1) i = inB i 60) ∧ (∀ i, gA (talPut r (v_g, v_c, v_n) σ) (r + 1) i = v_g i.toNatClampNeg) ∧ okL (talPut r (v_g, v_c, v_n) σ) (r + 2) = true ∧ gL (talPut r (v_g, v_c, v_n) σ) (r + 2) = 60 ∧ (∀ i, okA (talPut r (v_g, v_c, v_n) σ) 0 (r + 2) i = inB i 60) ∧ (∀ i, okB (talPut r (v_g, v_c, v_n) σ) 0 (r + 2) i = inB i 60) ∧ (∀ i, gA (talPut r (v_g, v_c, v_n) σ) (r + 2) i = v_c i.toNatClampNeg) ∧ (∀ n, pF (talPut r (v_g, v_c, v_n) σ) r 2 (.int (nI n)) = talPut r (v_g, v_c, n) σ) ∧ (pF (talPut r (v_g, v_c, v_n) σ) r 2 (.int 0) = talPut r (v_g, v_c, 0) σ) ∧ (∀ i x, pA (talPut r (v_g, v_c, v_n) σ) (r + 1) i x = talPut r (upd v_g i.toNatClampNeg x, v_c, v_n) σ) ∧ (∀ i x, pA (talPut r (v_g, v_c, v_n) σ) (r + 2) i x = talPut r (v_g, upd v_c i.toNatClampNeg x, v_n) σ) := ⟨(talS talAP).1, (talS talAP).2.1, (talS talAP).2.2.1, (talS talAP).2.2.2.1, (talS talAP).2.2.2.2.1, (talS talAP).2.2.2.2.2.1, (talS talAP).2.2.2.2.2.2.1, (talS talAP).2.2.2.2.2.2.2.1, (talS talAP).2.2.2.2.2.2.2.2.1, (talS talAP).2.2.2.2.2.2.2.2.2.1, (talS talAP).2.2.2.2.2.2.2.2.2.2.1, (talS talAP).2.2.2.2.2.2.2.2.2.2.2.1, (talS talAP).2.2.2.2.2.2.2.2.2.2.2.2.1, (talS talAP).2.2.2.2.2.2.2.2.2.2.2.2.2.1, (talS talAP).2.2.2.2.2.2.2.2.2.2.2.2.2.2.1, (talS talAP).2.2.2.2.2.2.2.2.2.2.2.2.2.2.2.1, (talS talAP).2.2.2.2.2.2.2.2.2.2.2.2.2.2.2.2, fun n => (talP2 talAP).trans talPP, (talP2z talAP).trans talPP, fun i x => (talA1 talAP).trans talPP, fun i x => (talA2 talAP).trans talPP⟩
theorem talPC {r b m : Nat} {ρ : TalM} {σ : Hp} {g : Nat → Option AC} (hd : r + 3 ≤ b ∨ b + m ≤ r) : talPut r ρ (ov σ b m g) = ov (talPut r ρ σ) b m g := ov_comm hd
theorem talOff {r b m : Nat} {ρ : TalM} {σ : Hp} {g : Nat → Option AC} (h : talAt r ρ σ) (hd : r + 3 ≤ b ∨ b + m ≤ r) : talAt r ρ (ov σ b m g) := atC_off h hd
abbrev PadM : Type := (Nat → Int32) × Nat
def padC (r : Nat) (ρ : PadM) (j : Nat) : Option AC := match j with
  | 0 => some (.inl (2, [.ref (r + 1), .int (nI (ρ.2))]))
  | 1 => some (.inr (.inl (0, 80, (ρ.1))))
  | _ => none
def padAt (r : Nat) (ρ : PadM) (σ : Hp) : Prop := atC σ r 2 (padC r ρ)
def padPut (r : Nat) (ρ : PadM) (σ : Hp) : Hp := ov σ r 2 (padC r ρ)
theorem pad_0 {r : Nat} {v_p : (Nat → Int32)} {v_n : Nat} {σ : Hp} (h : padAt r (v_p, v_n) σ) : σ.1 r = some (.inl (2, [.ref (r + 1), .int (nI v_n)])) := h 0 (Nat.le_of_ble_eq_true rfl)
theorem pad_1 {r : Nat} {v_p : (Nat → Int32)} {v_n : Nat} {σ : Hp} (h : padAt r (v_p, v_n) σ) : σ.1 (r + 1) = some (.inr (.inl (0, 80, v_p))) := h 1 (Nat.le_of_ble_eq_true rfl)
theorem padS {r : Nat} {v_p : (Nat → Int32)} {v_n : Nat} {σ : Hp} (h : padAt r (v_p, v_n) σ) : okO σ r 2 = true ∧ okF σ r 2 0 = true ∧ gF σ r 0 = .ref (r + 1) ∧ okF σ r 2 1 = true ∧ gF σ r 1 = .int (nI v_n) ∧ okL σ (r + 1) = true ∧ gL σ (r + 1) = 80 ∧ (∀ i, okA σ 0 (r + 1) i = inB i 80) ∧ (∀ i, okB σ 0 (r + 1) i = inB i 80) ∧ (∀ i, gA σ (r + 1) i = v_p i.toNatClampNeg) := ⟨(okO_ob (pad_0 h)).trans rfl, (okF_ob (pad_0 h)).trans rfl, (gF_ob (pad_0 h)).trans rfl, (okF_ob (pad_0 h)).trans rfl, (gF_ob (pad_0 h)).trans rfl, (okL_ar (pad_1 h)).trans rfl, (gL_ar (pad_1 h)).trans (by decide +kernel), fun i => (okA_ar (pad_1 h)).trans (Bool.true_and _), fun i => (okB_ar (pad_1 h)).trans (Bool.true_and _), fun i => gA_ar (pad_1 h)⟩
theorem padP1 {r : Nat} {v_p : (Nat → Int32)} {v_n : Nat} {σ : Hp} (h : padAt r (v_p, v_n) σ) {n : Nat} : pF σ r 1 (.int (nI n)) = padPut r (v_p, n) σ := by
  rw [pF_ob (pad_0 h)]
  have := ov_set h (k := 0) (Nat.le_of_ble_eq_true rfl) (x := .inl (2, List.set [.ref (r + 1), .int (nI v_n)] 1 (.int (nI n))))
  refine this.trans (ov_congr (fun j hj => ?_))
  match j, hj with
  | 0, _ => rfl
  | 1, _ => rfl
  | j + 2, hj => exact absurd hj (by omega)
theorem padP1z {r : Nat} {v_p : (Nat → Int32)} {v_n : Nat} {σ : Hp} (h : padAt r (v_p, v_n) σ)  : pF σ r 1 (.int 0) = padPut r (v_p, 0) σ := by
  rw [pF_ob (pad_0 h)]
  have := ov_set h (k := 0) (Nat.le_of_ble_eq_true rfl) (x := .inl (2, List.set [.ref (r + 1), .int (nI v_n)] 1 (.int 0)))
  refine this.trans (ov_congr (fun j hj => ?_))
  match j, hj with
  | 0, _ => rfl
  | 1, _ => rfl
  | j + 2, hj => exact absurd hj (by omega)
theorem padA1 {r : Nat} {v_p : (Nat → Int32)} {v_n : Nat} {σ : Hp} (h : padAt r (v_p, v_n) σ) {i x : Int32} : pA σ (r + 1) i x = padPut r (upd v_p i.toNatClampNeg x, v_n) σ := by
  rw [pA_ar (pad_1 h)]
  have := ov_set h (k := 1) (Nat.le_of_ble_eq_true rfl) (x := .inr (.inl (0, 80, upd v_p i.toNatClampNeg x)))
  refine this.trans (ov_congr (fun j hj => ?_))
  match j, hj with
  | 0, _ => rfl
  | 1, _ => rfl
  | j + 2, hj => exact absurd hj (by omega)
theorem padAP {r : Nat} {ρ : PadM} {σ : Hp} : padAt r ρ (padPut r ρ σ) := ov_at
theorem padPP {r : Nat} {ρ ρ2 : PadM} {σ : Hp} : padPut r ρ2 (padPut r ρ σ) = padPut r ρ2 σ := ov_ov
theorem padPS {r : Nat} {ρ : PadM} {σ : Hp} (h : padAt r ρ σ) : padPut r ρ σ = σ := ov_self h
theorem padH1 {r : Nat} {v_p : (Nat → Int32)} {v_n : Nat} {σ : Hp} {f : Nat → Int32} : hset (padPut r (v_p, v_n) σ) (r + 1) (.inr (.inl (0, 80, f))) = padPut r (f, v_n) σ := by
  refine (ov_set ov_at (k := 1) (Nat.le_of_ble_eq_true rfl)).trans (ov_ov.trans (ov_congr (fun j hj => ?_)))
  match j, hj with
  | 0, _ => rfl
  | 1, _ => rfl
  | j + 2, hj => exact absurd hj (by omega)
theorem padQ {r : Nat} {v_p : (Nat → Int32)} {v_n : Nat} {σ : Hp} : okO (padPut r (v_p, v_n) σ) r 2 = true ∧ okF (padPut r (v_p, v_n) σ) r 2 0 = true ∧ gF (padPut r (v_p, v_n) σ) r 0 = .ref (r + 1) ∧ okF (padPut r (v_p, v_n) σ) r 2 1 = true ∧ gF (padPut r (v_p, v_n) σ) r 1 = .int (nI v_n) ∧ okL (padPut r (v_p, v_n) σ) (r + 1) = true ∧ gL (padPut r (v_p, v_n) σ) (r + 1) = 80 ∧ (∀ i, okA (padPut r (v_p, v_n) σ) 0 (r + 1) i = inB i 80) ∧ (∀ i, okB (padPut r (v_p, v_n) σ) 0 (r + 1) i = inB i 80) ∧ (∀ i, gA (padPut r (v_p, v_n) σ) (r + 1) i = v_p i.toNatClampNeg) ∧ (∀ n, pF (padPut r (v_p, v_n) σ) r 1 (.int (nI n)) = padPut r (v_p, n) σ) ∧ (pF (padPut r (v_p, v_n) σ) r 1 (.int 0) = padPut r (v_p, 0) σ) ∧ (∀ i x, pA (padPut r (v_p, v_n) σ) (r + 1) i x = padPut r (upd v_p i.toNatClampNeg x, v_n) σ) := ⟨(padS padAP).1, (padS padAP).2.1, (padS padAP).2.2.1, (padS padAP).2.2.2.1, (padS padAP).2.2.2.2.1, (padS padAP).2.2.2.2.2.1, (padS padAP).2.2.2.2.2.2.1, (padS padAP).2.2.2.2.2.2.2.1, (padS padAP).2.2.2.2.2.2.2.2.1, (padS padAP).2.2.2.2.2.2.2.2.2, fun n => (padP1 padAP).trans padPP, (padP1z padAP).trans padPP, fun i x => (padA1 padAP).trans padPP⟩
theorem padPC {r b m : Nat} {ρ : PadM} {σ : Hp} {g : Nat → Option AC} (hd : r + 2 ≤ b ∨ b + m ≤ r) : padPut r ρ (ov σ b m g) = ov (padPut r ρ σ) b m g := ov_comm hd
theorem padOff {r b m : Nat} {ρ : PadM} {σ : Hp} {g : Nat → Option AC} (h : padAt r ρ σ) (hd : r + 2 ≤ b ∨ b + m ≤ r) : padAt r ρ (ov σ b m g) := atC_off h hd
abbrev OrdM : Type := Int32 × Int32 × Int32 × Int32 × Int32 × Int32
def ordC (r : Nat) (ρ : OrdM) (j : Nat) : Option AC := match j with
  | 0 => some (.inl (1, [.int (ρ.1), .int (ρ.2.1), .int (ρ.2.2.1), .int (ρ.2.2.2.1), .int (ρ.2.2.2.2.1), .int (ρ.2.2.2.2.2)]))
  | _ => none
def ordAt (r : Nat) (ρ : OrdM) (σ : Hp) : Prop := atC σ r 1 (ordC r ρ)
def ordPut (r : Nat) (ρ : OrdM) (σ : Hp) : Hp := ov σ r 1 (ordC r ρ)
theorem ord_0 {r : Nat} {v_place : Int32} {v_kind : Int32} {v_stream : Int32} {v_guest : Int32} {v_letters : Int32} {v_times : Int32} {σ : Hp} (h : ordAt r (v_place, v_kind, v_stream, v_guest, v_letters, v_times) σ) : σ.1 r = some (.inl (1, [.int v_place, .int v_kind, .int v_stream, .int v_guest, .int v_letters, .int v_times])) := h 0 (Nat.le_of_ble_eq_true rfl)
theorem ordS {r : Nat} {v_place : Int32} {v_kind : Int32} {v_stream : Int32} {v_guest : Int32} {v_letters : Int32} {v_times : Int32} {σ : Hp} (h : ordAt r (v_place, v_kind, v_stream, v_guest, v_letters, v_times) σ) : okO σ r 1 = true ∧ okF σ r 1 0 = true ∧ gF σ r 0 = .int v_place ∧ okF σ r 1 1 = true ∧ gF σ r 1 = .int v_kind ∧ okF σ r 1 2 = true ∧ gF σ r 2 = .int v_stream ∧ okF σ r 1 3 = true ∧ gF σ r 3 = .int v_guest ∧ okF σ r 1 4 = true ∧ gF σ r 4 = .int v_letters ∧ okF σ r 1 5 = true ∧ gF σ r 5 = .int v_times := ⟨(okO_ob (ord_0 h)).trans rfl, (okF_ob (ord_0 h)).trans rfl, (gF_ob (ord_0 h)).trans rfl, (okF_ob (ord_0 h)).trans rfl, (gF_ob (ord_0 h)).trans rfl, (okF_ob (ord_0 h)).trans rfl, (gF_ob (ord_0 h)).trans rfl, (okF_ob (ord_0 h)).trans rfl, (gF_ob (ord_0 h)).trans rfl, (okF_ob (ord_0 h)).trans rfl, (gF_ob (ord_0 h)).trans rfl, (okF_ob (ord_0 h)).trans rfl, (gF_ob (ord_0 h)).trans rfl⟩
theorem ordP0 {r : Nat} {v_place : Int32} {v_kind : Int32} {v_stream : Int32} {v_guest : Int32} {v_letters : Int32} {v_times : Int32} {σ : Hp} (h : ordAt r (v_place, v_kind, v_stream, v_guest, v_letters, v_times) σ) {x : Int32} : pF σ r 0 (.int x) = ordPut r (x, v_kind, v_stream, v_guest, v_letters, v_times) σ := by
  rw [pF_ob (ord_0 h)]
  have := ov_set h (k := 0) (Nat.le_of_ble_eq_true rfl) (x := .inl (1, List.set [.int v_place, .int v_kind, .int v_stream, .int v_guest, .int v_letters, .int v_times] 0 (.int x)))
  refine this.trans (ov_congr (fun j hj => ?_))
  match j, hj with
  | 0, _ => rfl
  | j + 1, hj => exact absurd hj (by omega)
theorem ordP1 {r : Nat} {v_place : Int32} {v_kind : Int32} {v_stream : Int32} {v_guest : Int32} {v_letters : Int32} {v_times : Int32} {σ : Hp} (h : ordAt r (v_place, v_kind, v_stream, v_guest, v_letters, v_times) σ) {x : Int32} : pF σ r 1 (.int x) = ordPut r (v_place, x, v_stream, v_guest, v_letters, v_times) σ := by
  rw [pF_ob (ord_0 h)]
  have := ov_set h (k := 0) (Nat.le_of_ble_eq_true rfl) (x := .inl (1, List.set [.int v_place, .int v_kind, .int v_stream, .int v_guest, .int v_letters, .int v_times] 1 (.int x)))
  refine this.trans (ov_congr (fun j hj => ?_))
  match j, hj with
  | 0, _ => rfl
  | j + 1, hj => exact absurd hj (by omega)
theorem ordP2 {r : Nat} {v_place : Int32} {v_kind : Int32} {v_stream : Int32} {v_guest : Int32} {v_letters : Int32} {v_times : Int32} {σ : Hp} (h : ordAt r (v_place, v_kind, v_stream, v_guest, v_letters, v_times) σ) {x : Int32} : pF σ r 2 (.int x) = ordPut r (v_place, v_kind, x, v_guest, v_letters, v_times) σ := by
  rw [pF_ob (ord_0 h)]
  have := ov_set h (k := 0) (Nat.le_of_ble_eq_true rfl) (x := .inl (1, List.set [.int v_place, .int v_kind, .int v_stream, .int v_guest, .int v_letters, .int v_times] 2 (.int x)))
  refine this.trans (ov_congr (fun j hj => ?_))
  match j, hj with
  | 0, _ => rfl
  | j + 1, hj => exact absurd hj (by omega)
theorem ordP3 {r : Nat} {v_place : Int32} {v_kind : Int32} {v_stream : Int32} {v_guest : Int32} {v_letters : Int32} {v_times : Int32} {σ : Hp} (h : ordAt r (v_place, v_kind, v_stream, v_guest, v_letters, v_times) σ) {x : Int32} : pF σ r 3 (.int x) = ordPut r (v_place, v_kind, v_stream, x, v_letters, v_times) σ := by
  rw [pF_ob (ord_0 h)]
  have := ov_set h (k := 0) (Nat.le_of_ble_eq_true rfl) (x := .inl (1, List.set [.int v_place, .int v_kind, .int v_stream, .int v_guest, .int v_letters, .int v_times] 3 (.int x)))
  refine this.trans (ov_congr (fun j hj => ?_))
  match j, hj with
  | 0, _ => rfl
  | j + 1, hj => exact absurd hj (by omega)
theorem ordP4 {r : Nat} {v_place : Int32} {v_kind : Int32} {v_stream : Int32} {v_guest : Int32} {v_letters : Int32} {v_times : Int32} {σ : Hp} (h : ordAt r (v_place, v_kind, v_stream, v_guest, v_letters, v_times) σ) {x : Int32} : pF σ r 4 (.int x) = ordPut r (v_place, v_kind, v_stream, v_guest, x, v_times) σ := by
  rw [pF_ob (ord_0 h)]
  have := ov_set h (k := 0) (Nat.le_of_ble_eq_true rfl) (x := .inl (1, List.set [.int v_place, .int v_kind, .int v_stream, .int v_guest, .int v_letters, .int v_times] 4 (.int x)))
  refine this.trans (ov_congr (fun j hj => ?_))
  match j, hj with
  | 0, _ => rfl
  | j + 1, hj => exact absurd hj (by omega)
theorem ordP5 {r : Nat} {v_place : Int32} {v_kind : Int32} {v_stream : Int32} {v_guest : Int32} {v_letters : Int32} {v_times : Int32} {σ : Hp} (h : ordAt r (v_place, v_kind, v_stream, v_guest, v_letters, v_times) σ) {x : Int32} : pF σ r 5 (.int x) = ordPut r (v_place, v_kind, v_stream, v_guest, v_letters, x) σ := by
  rw [pF_ob (ord_0 h)]
  have := ov_set h (k := 0) (Nat.le_of_ble_eq_true rfl) (x := .inl (1, List.set [.int v_place, .int v_kind, .int v_stream, .int v_guest, .int v_letters, .int v_times] 5 (.int x)))
  refine this.trans (ov_congr (fun j hj => ?_))
  match j, hj with
  | 0, _ => rfl
  | j + 1, hj => exact absurd hj (by omega)
theorem ordAP {r : Nat} {ρ : OrdM} {σ : Hp} : ordAt r ρ (ordPut r ρ σ) := ov_at
theorem ordPP {r : Nat} {ρ ρ2 : OrdM} {σ : Hp} : ordPut r ρ2 (ordPut r ρ σ) = ordPut r ρ2 σ := ov_ov
theorem ordPS {r : Nat} {ρ : OrdM} {σ : Hp} (h : ordAt r ρ σ) : ordPut r ρ σ = σ := ov_self h
theorem ordQ {r : Nat} {v_place : Int32} {v_kind : Int32} {v_stream : Int32} {v_guest : Int32} {v_letters : Int32} {v_times : Int32} {σ : Hp} : okO (ordPut r (v_place, v_kind, v_stream, v_guest, v_letters, v_times) σ) r 1 = true ∧ okF (ordPut r (v_place, v_kind, v_stream, v_guest, v_letters, v_times) σ) r 1 0 = true ∧ gF (ordPut r (v_place, v_kind, v_stream, v_guest, v_letters, v_times) σ) r 0 = .int v_place ∧ okF (ordPut r (v_place, v_kind, v_stream, v_guest, v_letters, v_times) σ) r 1 1 = true ∧ gF (ordPut r (v_place, v_kind, v_stream, v_guest, v_letters, v_times) σ) r 1 = .int v_kind ∧ okF (ordPut r (v_place, v_kind, v_stream, v_guest, v_letters, v_times) σ) r 1 2 = true ∧ gF (ordPut r (v_place, v_kind, v_stream, v_guest, v_letters, v_times) σ) r 2 = .int v_stream ∧ okF (ordPut r (v_place, v_kind, v_stream, v_guest, v_letters, v_times) σ) r 1 3 = true ∧ gF (ordPut r (v_place, v_kind, v_stream, v_guest, v_letters, v_times) σ) r 3 = .int v_guest ∧ okF (ordPut r (v_place, v_kind, v_stream, v_guest, v_letters, v_times) σ) r 1 4 = true ∧ gF (ordPut r (v_place, v_kind, v_stream, v_guest, v_letters, v_times) σ) r 4 = .int v_letters ∧ okF (ordPut r (v_place, v_kind, v_stream, v_guest, v_letters, v_times) σ) r 1 5 = true ∧ gF (ordPut r (v_place, v_kind, v_stream, v_guest, v_letters, v_times) σ) r 5 = .int v_times ∧ (∀ x, pF (ordPut r (v_place, v_kind, v_stream, v_guest, v_letters, v_times) σ) r 0 (.int x) = ordPut r (x, v_kind, v_stream, v_guest, v_letters, v_times) σ) ∧ (∀ x, pF (ordPut r (v_place, v_kind, v_stream, v_guest, v_letters, v_times) σ) r 1 (.int x) = ordPut r (v_place, x, v_stream, v_guest, v_letters, v_times) σ) ∧ (∀ x, pF (ordPut r (v_place, v_kind, v_stream, v_guest, v_letters, v_times) σ) r 2 (.int x) = ordPut r (v_place, v_kind, x, v_guest, v_letters, v_times) σ) ∧ (∀ x, pF (ordPut r (v_place, v_kind, v_stream, v_guest, v_letters, v_times) σ) r 3 (.int x) = ordPut r (v_place, v_kind, v_stream, x, v_letters, v_times) σ) ∧ (∀ x, pF (ordPut r (v_place, v_kind, v_stream, v_guest, v_letters, v_times) σ) r 4 (.int x) = ordPut r (v_place, v_kind, v_stream, v_guest, x, v_times) σ) ∧ (∀ x, pF (ordPut r (v_place, v_kind, v_stream, v_guest, v_letters, v_times) σ) r 5 (.int x) = ordPut r (v_place, v_kind, v_stream, v_guest, v_letters, x) σ) := ⟨(ordS ordAP).1, (ordS ordAP).2.1, (ordS ordAP).2.2.1, (ordS ordAP).2.2.2.1, (ordS ordAP).2.2.2.2.1, (ordS ordAP).2.2.2.2.2.1, (ordS ordAP).2.2.2.2.2.2.1, (ordS ordAP).2.2.2.2.2.2.2.1, (ordS ordAP).2.2.2.2.2.2.2.2.1, (ordS ordAP).2.2.2.2.2.2.2.2.2.1, (ordS ordAP).2.2.2.2.2.2.2.2.2.2.1, (ordS ordAP).2.2.2.2.2.2.2.2.2.2.2.1, (ordS ordAP).2.2.2.2.2.2.2.2.2.2.2.2, fun x => (ordP0 ordAP).trans ordPP, fun x => (ordP1 ordAP).trans ordPP, fun x => (ordP2 ordAP).trans ordPP, fun x => (ordP3 ordAP).trans ordPP, fun x => (ordP4 ordAP).trans ordPP, fun x => (ordP5 ordAP).trans ordPP⟩
theorem ordPC {r b m : Nat} {ρ : OrdM} {σ : Hp} {g : Nat → Option AC} (hd : r + 1 ≤ b ∨ b + m ≤ r) : ordPut r ρ (ov σ b m g) = ov (ordPut r ρ σ) b m g := ov_comm hd
theorem ordOff {r b m : Nat} {ρ : OrdM} {σ : Hp} {g : Nat → Option AC} (h : ordAt r ρ σ) (hd : r + 1 ≤ b ∨ b + m ≤ r) : ordAt r ρ (ov σ b m g) := atC_off h hd
