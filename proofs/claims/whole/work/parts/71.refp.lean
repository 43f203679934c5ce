/-! the reference's reading of texts: an order, all orders, the fault -/
abbrev RO : Type := Nat × Bool × Int32 × Int32 × Int32
def roK (w f : Int32) (r : NR) : RO := (r.1, r.2.1, w, f, r.2.2)
def roM (p : Nat → Int32) (n : Nat) (w : Int32) (q : NR) : RO := if q.2.1 = true then (if sgP p n q.1 = 42 then roK w q.2.2 (numF p n (q.1 + 1) true) else (q.1, q.2.1, w, q.2.2, 1)) else (q.1, q.2.1, w, q.2.2, 1)
def roF (p : Nat → Int32) (n a : Nat) : RO := if sgP p n a = 38 then (a + 1, true, 3, 0, 1) else if sgP p n a = 37 then (tkA p n (a + 1) 48 49 true, tkB p n (a + 1) 48 49 true, 2, sgP p n (a + 1) - 48, 1) else if sgP p n a = 62 then roM p n 1 (nameF p n (a + 1) true) else roM p n 0 (nameF p n a true)
theorem sg_ne {p : Nat → Int32} {n a : Nat} {x : Int32} (h0 : ¬ (0 : Int32) = x) (h : sgP p n a = x) : a < n := by
  by_cases h1 : a < n
  · exact h1
  · unfold sgP at h
    rw [if_neg h1] at h
    exact absurd h h0
theorem n163 {a c : Nat} {o : Nat → Int32} {w f0 : Int32} {m n : Nat} {μ : ModM} {σ : Hp} {K : Option Value → Hp → Prop} (hn : kpn μ = n) (hb : n ≤ 80) (ha : a ≤ n) : X 163 88 [.ref m, .int w, .int f0, .int 1] [] (modPut m (wP μ a true o c) σ) K = X 163 124 [.ref m, .int (roM (kp μ) n w (nameF (kp μ) n a true)).2.2.1, .int (roM (kp μ) n w (nameF (kp μ) n a true)).2.2.2.1, .int (roM (kp μ) n w (nameF (kp μ) n a true)).2.2.2.2] [] (modPut m (wP μ (roM (kp μ) n w (nameF (kp μ) n a true)).1 (roM (kp μ) n w (nameF (kp μ) n a true)).2.1 o c) σ) K := by
  have f := fun a b o c => mdF (modAP (r := m) (ρ := wP μ a b o c) (σ := σ))
  simp only [kp_wP, kpn_wP, kat_wP, kw_wP, ko_wP, kon_wP, hn] at f
  have g := fun K => g161 (m := m) (n := n) (a := a) (b := true) (μ := μ) (σ := σ) (o := o) (c := c) (K := K) hn hb ha
  obtain ⟨q1, q2, q3⟩ := nameF_le (p := kp μ) (n := n) (a := a) (b := true) ha
  generalize nameF (kp μ) n a true = q at *
  obtain ⟨a2, b2, x⟩ := q
  unfold roM
  cases b2
  · rw [if_neg Bool.false_ne_true]
    simp only [x163_88, x163_89, x163_92, x163_93, x163_94, x163_97, pushO, List.length_cons, List.length_nil, Nat.reduceAdd, Nat.reduceLeDiff, Nat.le_refl, Nat.zero_le, isD_i, isD_r, isD_l, isD_n, if_true, if_false, ite_true, ite_false, reduceIte, f, g, bI_f]
  · rw [if_pos rfl]
    have q5 : a2 ≤ n := q2
    have s := fun K => g159 (m := m) (n := n) (a := a2) (μ := μ) (σ := σ) (b := true) (o := o) (c := c) (K := K) hn hb q5
    by_cases h1 : sgP (kp μ) n a2 = 42
    · have q4 : a2 < n := sg_ne (by decide +kernel) h1
      have u := fun K => g162 (m := m) (n := n) (a := a2 + 1) (b := true) (μ := μ) (σ := σ) (o := o) (c := c) (K := K) hn hb (by omega)
      rw [if_pos h1]
      simp only [x163_88, x163_89, x163_92, x163_93, x163_94, x163_97, x163_100, x163_101, x163_104, x163_106, x163_109, x163_110, x163_110i, x163_111, x163_114, x163_115, x163_116, x163_119, x163_120, x163_123, pushO, List.length_cons, List.length_nil, Nat.reduceAdd, Nat.reduceLeDiff, Nat.le_refl, Nat.zero_le, isD_i, isD_r, isD_l, isD_n, if_true, if_false, ite_true, ite_false, reduceIte, f, g, bI_t, i1_ne, s, h1, nI_a1, atp_set, u, roK]
    · rw [if_neg h1]
      simp only [x163_88, x163_89, x163_92, x163_93, x163_94, x163_97, x163_100, x163_101, x163_104, x163_106, pushO, List.length_cons, List.length_nil, Nat.reduceAdd, Nat.reduceLeDiff, Nat.le_refl, Nat.zero_le, isD_i, isD_r, isD_l, isD_n, if_true, if_false, ite_true, ite_false, reduceIte, f, g, bI_t, i1_ne, s, h1]
def appO (o : Nat → Int32) (c : Nat) (w f z : Int32) : Nat → Int32 := upd (upd (upd o (4 * c) w) (4 * c + 1) f) (4 * c + 2) z
theorem e163 {a c : Nat} {b : Bool} {o : Nat → Int32} {w f0 z : Int32} {m n : Nat} {μ : ModM} {σ : Hp} {K : Option Value → Hp → Prop} (hn : kpn μ = n) (hb : n ≤ 80) (hc : c < 60) : X 163 124 [.ref m, .int w, .int f0, .int z] [] (modPut m (wP μ a b o c) σ) K = K none (modPut m (wP μ a b (if b = true then appO o c w f0 z else o) (if b = true then c + 1 else c)) σ) := by
  have f := fun a b o c => mdF (modAP (r := m) (ρ := wP μ a b o c) (σ := σ))
  simp only [kp_wP, kpn_wP, kat_wP, kw_wP, ko_wP, kon_wP, hn] at f
  cases b
  · rw [if_neg Bool.false_ne_true, if_neg Bool.false_ne_true]
    simp only [x163_124, x163_125, x163_128, x163_181, pushO, List.length_cons, List.length_nil, Nat.reduceAdd, Nat.reduceLeDiff, Nat.le_refl, Nat.zero_le, isD_i, isD_r, isD_l, isD_n, if_true, if_false, ite_true, ite_false, reduceIte, f, bI_f]
  · rw [if_pos rfl, if_pos rfl]
    have i0 : 4 * nI c = nI (4 * c) := by rw [show (4 : Int32) = nI 4 by decide +kernel, nIm]
    have i2 : nI (4 * c) + 2 = nI (4 * c + 2) := by rw [L2, nIa]
    have b0 : inB (nI (4 * c)) 256 = true := inB_nI (by omega) (by omega)
    have b1 : inB (nI (4 * c + 1)) 256 = true := inB_nI (by omega) (by omega)
    have b2 : inB (nI (4 * c + 2)) 256 = true := inB_nI (by omega) (by omega)
    simp only [x163_124, x163_125, x163_128, x163_131, x163_132, x163_135, x163_136, x163_137, x163_140, x163_141, x163_142, x163_143, x163_144, x163_147, x163_148, x163_149, x163_152, x163_153, x163_154, x163_155, x163_156, x163_157, x163_158, x163_161, x163_162, x163_163, x163_166, x163_167, x163_168, x163_169, x163_170, x163_171, x163_172, x163_172i, x163_173, x163_176, x163_177, x163_178, x163_181, pushO, List.length_cons, List.length_nil, Nat.reduceAdd, Nat.reduceLeDiff, Nat.le_refl, Nat.zero_le, isD_i, isD_r, isD_l, isD_n, if_true, if_false, ite_true, ite_false, reduceIte, f, bI_t, i1_ne, i0, nI_a1, i2, b0, b1, b2, o_set (show 4 * c < 2 ^ 31 by omega), o_set (show 4 * c + 1 < 2 ^ 31 by omega), o_set (show 4 * c + 2 < 2 ^ 31 by omega), on_set, appO]
abbrev PS : Type := Nat × Bool × (Nat → Int32) × Nat
def roS (o : Nat → Int32) (c : Nat) (r : RO) : PS := (r.1, r.2.1, if r.2.1 = true then appO o c r.2.2.1 r.2.2.2.1 r.2.2.2.2 else o, if r.2.1 = true then c + 1 else c)
theorem pos38 : ¬ (0 : Int32) = 38 := by decide +kernel
theorem pos37 : ¬ (0 : Int32) = 37 := by decide +kernel
theorem pos62 : ¬ (0 : Int32) = 62 := by decide +kernel
theorem g163 {a c : Nat} {o : Nat → Int32} {m n : Nat} {μ : ModM} {σ : Hp} {K : Option Value → Hp → Prop} (hn : kpn μ = n) (hb : n ≤ 80) (ha : a ≤ n) (hc : c < 60) : X 163 0 [.ref m, .null, .null, .null] [] (modPut m (wP μ a true o c) σ) K = K none (modPut m (wP μ (roS o c (roF (kp μ) n a)).1 (roS o c (roF (kp μ) n a)).2.1 (roS o c (roF (kp μ) n a)).2.2.1 (roS o c (roF (kp μ) n a)).2.2.2) σ) := by
  have f := fun a b o c => mdF (modAP (r := m) (ρ := wP μ a b o c) (σ := σ))
  simp only [kp_wP, kpn_wP, kat_wP, kw_wP, ko_wP, kon_wP, hn] at f
  have s := fun K => g159 (m := m) (n := n) (a := a) (μ := μ) (σ := σ) (b := true) (o := o) (c := c) (K := K) hn hb ha
  have e := fun a b w f0 z K => e163 (m := m) (n := n) (a := a) (μ := μ) (σ := σ) (b := b) (o := o) (c := c) (w := w) (f0 := f0) (z := z) (K := K) hn hb hc
  unfold roF
  by_cases h1 : sgP (kp μ) n a = 38
  · rw [if_pos h1]
    simp only [x163_0, x163_1, x163_2, x163_3, x163_4, x163_5, x163_6, x163_7, x163_10, x163_12, x163_15, x163_16, x163_16i, x163_17, x163_20, x163_21, x163_22, x163_25, x163_26, x163_27, pushO, List.length_cons, List.length_nil, Nat.reduceAdd, Nat.reduceLeDiff, Nat.le_refl, Nat.zero_le, isD_i, isD_r, isD_l, isD_n, if_true, if_false, ite_true, ite_false, reduceIte, f, s, h1, nI_a1, atp_set]
    rw [e]
    rfl
  · rw [if_neg h1]
    by_cases h2 : sgP (kp μ) n a = 37
    · rw [if_pos h2]
      have h3 := sg_ne pos37 h2
      have n1 : ¬ (37 : Int32) = 38 := by decide +kernel
      have t := fun K => g160 (m := m) (n := n) (a := a + 1) (μ := μ) (σ := σ) (b := true) (o := o) (c := c) (lo := 48) (hi := 49) (K := K) hn hb (by omega)
      simp only [x163_0, x163_1, x163_2, x163_3, x163_4, x163_5, x163_6, x163_7, x163_10, x163_12, x163_15, x163_16, x163_16i, x163_17, x163_20, x163_21, x163_22, x163_25, x163_26, x163_27, x163_30, x163_31, x163_34, x163_36, x163_39, x163_40, x163_40i, x163_41, x163_44, x163_45, x163_46, x163_49, x163_50, x163_51, x163_52, x163_54, x163_56, x163_59, x163_60, pushO, List.length_cons, List.length_nil, Nat.reduceAdd, Nat.reduceLeDiff, Nat.le_refl, Nat.zero_le, isD_i, isD_r, isD_l, isD_n, if_true, if_false, ite_true, ite_false, reduceIte, f, s, h2, n1, nI_a1, atp_set, t]
      rw [e]
      rfl
    · rw [if_neg h2]
      by_cases h4 : sgP (kp μ) n a = 62
      · rw [if_pos h4]
        have h3 := sg_ne pos62 h4
        have n1 : ¬ (62 : Int32) = 38 := by decide +kernel
        have n2 : ¬ (62 : Int32) = 37 := by decide +kernel
        have g := n163 (m := m) (n := n) (a := a + 1) (μ := μ) (σ := σ) (o := o) (c := c) (w := 1) (f0 := 0) (K := K) hn hb (by omega)
        simp only [x163_0, x163_1, x163_2, x163_3, x163_4, x163_5, x163_6, x163_7, x163_10, x163_12, x163_15, x163_16, x163_16i, x163_17, x163_20, x163_21, x163_22, x163_25, x163_26, x163_27, x163_30, x163_31, x163_34, x163_36, x163_39, x163_40, x163_40i, x163_41, x163_44, x163_45, x163_46, x163_49, x163_50, x163_51, x163_52, x163_54, x163_56, x163_59, x163_60, x163_63, x163_64, x163_67, x163_69, x163_72, x163_73, x163_76, x163_77, x163_78, x163_79, x163_79i, x163_80, x163_83, x163_84, x163_85, pushO, List.length_cons, List.length_nil, Nat.reduceAdd, Nat.reduceLeDiff, Nat.le_refl, Nat.zero_le, isD_i, isD_r, isD_l, isD_n, if_true, if_false, ite_true, ite_false, reduceIte, f, s, h4, n1, n2, nI_a1, atp_set]
        rw [g, e]
        rfl
      · rw [if_neg h4]
        have g := n163 (m := m) (n := n) (a := a) (μ := μ) (σ := σ) (o := o) (c := c) (w := 0) (f0 := 0) (K := K) hn hb ha
        simp only [x163_0, x163_1, x163_2, x163_3, x163_4, x163_5, x163_6, x163_7, x163_10, x163_12, x163_15, x163_16, x163_16i, x163_17, x163_20, x163_21, x163_22, x163_25, x163_26, x163_27, x163_30, x163_31, x163_34, x163_36, x163_39, x163_40, x163_40i, x163_41, x163_44, x163_45, x163_46, x163_49, x163_50, x163_51, x163_52, x163_54, x163_56, x163_59, x163_60, x163_63, x163_64, x163_67, x163_69, x163_72, x163_73, x163_76, x163_77, x163_78, x163_79, x163_79i, x163_80, x163_83, x163_84, x163_85, pushO, List.length_cons, List.length_nil, Nat.reduceAdd, Nat.reduceLeDiff, Nat.le_refl, Nat.zero_le, isD_i, isD_r, isD_l, isD_n, if_true, if_false, ite_true, ite_false, reduceIte, f, s, h1, h2, h4, nI_a0, atp_set]
        rw [g, e]
        rfl
theorem roM_le {p : Nat → Int32} {n : Nat} {w : Int32} {q : NR} (hq : q.1 ≤ n) : q.1 ≤ (roM p n w q).1 ∧ (roM p n w q).1 ≤ n ∧ ((roM p n w q).2.1 = true → q.2.1 = true) := by
  unfold roM
  split
  · rename_i h
    split
    · rename_i h2
      have h3 := sg_ne (x := 42) (by decide +kernel) h2
      have k := numF_le (p := p) (n := n) (a := q.1 + 1) (b := true) (by omega)
      refine ⟨?_, k.2, fun _ => h⟩
      show q.1 ≤ (numF p n (q.1 + 1) true).1
      omega
    · exact ⟨Nat.le_refl _, hq, fun _ => h⟩
  · rename_i h
    exact ⟨Nat.le_refl _, hq, fun k => absurd k h⟩
theorem roF_le {p : Nat → Int32} {n a : Nat} (ha : a ≤ n) : a ≤ (roF p n a).1 ∧ (roF p n a).1 ≤ n ∧ ((roF p n a).2.1 = true → a + 1 ≤ (roF p n a).1) := by
  unfold roF
  split
  · rename_i h
    have := sg_ne pos38 h
    exact ⟨by show a ≤ a + 1; omega, by show a + 1 ≤ n; omega, fun _ => Nat.le_refl _⟩
  · split
    · rename_i h
      have h3 := sg_ne pos37 h
      have k := tkA_le (p := p) (n := n) (a := a + 1) (lo := 48) (hi := 49) (b := true) pos48 (by omega)
      have k2 := tkA_ge (p := p) (n := n) (a := a + 1) (lo := 48) (hi := 49) (b := true)
      exact ⟨by show a ≤ tkA p n (a + 1) 48 49 true; omega, k, fun _ => k2⟩
    · split
      · rename_i h
        have h3 := sg_ne pos62 h
        obtain ⟨k1, k2, k3⟩ := nameF_le (p := p) (n := n) (a := a + 1) (b := true) (by omega)
        obtain ⟨r1, r2, r3⟩ := roM_le (p := p) (w := 1) k2
        exact ⟨by omega, r2, fun _ => by omega⟩
      · obtain ⟨k1, k2, k3⟩ := nameF_le (p := p) (n := n) (a := a) (b := true) ha
        obtain ⟨r1, r2, r3⟩ := roM_le (p := p) (w := 0) k2
        exact ⟨by omega, r2, fun h => by have := k3 (r3 h); omega⟩
def rlF (p : Nat → Int32) (n : Nat) : Nat → PS → PS
  | 0, q => q
  | d + 1, q => if q.2.1 = true then (if q.1 < n then (if inR (sgP p n q.1) 59 59 = true then rlF p n d (roS q.2.2.1 q.2.2.2 (roF p n (q.1 + 1))) else (q.1, false, q.2.2.1, q.2.2.2)) else q) else q
theorem l164x {m n : Nat} {μ : ModM} {σ : Hp} {K : Option Value → Hp → Prop} (hn : kpn μ = n) (hb : n ≤ 80) (q : PS) (hx : q.2.1 = true → ¬ q.1 < n) (hq : q.1 ≤ n) : X 164 19 [.ref m] [] (modPut m (wP μ q.1 q.2.1 q.2.2.1 q.2.2.2) σ) K = X 164 60 [.ref m] [] (modPut m (wP μ q.1 q.2.1 q.2.2.1 q.2.2.2) σ) K := by
  have f := fun a b o c => mdF (modAP (r := m) (ρ := wP μ a b o c) (σ := σ))
  simp only [kp_wP, kpn_wP, kat_wP, kw_wP, ko_wP, kon_wP, hn] at f
  obtain ⟨a, b, o, c⟩ := q
  cases b
  · simp only [x164_19, x164_20, x164_23, pushO, List.length_cons, List.length_nil, Nat.reduceAdd, Nat.reduceLeDiff, Nat.le_refl, Nat.zero_le, isD_i, isD_r, isD_l, isD_n, if_true, if_false, ite_true, ite_false, reduceIte, f, bI_f]
  · have h1 := hx rfl
    have hq' : a ≤ n := hq
    have h2 : ¬ nI a < nI n := nI_nlt (by have : ¬ a < n := h1; omega) (by omega)
    simp only [x164_19, x164_20, x164_23, x164_26, x164_27, x164_30, x164_31, x164_34, pushO, List.length_cons, List.length_nil, Nat.reduceAdd, Nat.reduceLeDiff, Nat.le_refl, Nat.zero_le, isD_i, isD_r, isD_l, isD_n, if_true, if_false, ite_true, ite_false, reduceIte, f, bI_t, i1_ne, h2]
theorem l164 {m n : Nat} {μ : ModM} {σ : Hp} {K : Option Value → Hp → Prop} (hn : kpn μ = n) (hb : n ≤ 80) : ∀ (d : Nat) (q : PS), n - q.1 ≤ d → q.1 ≤ n → (q.2.1 = true → 2 * q.2.2.2 ≤ q.1 + 1) → X 164 19 [.ref m] [] (modPut m (wP μ q.1 q.2.1 q.2.2.1 q.2.2.2) σ) K = X 164 60 [.ref m] [] (modPut m (wP μ (rlF (kp μ) n d q).1 (rlF (kp μ) n d q).2.1 (rlF (kp μ) n d q).2.2.1 (rlF (kp μ) n d q).2.2.2) σ) K := by
  have f := fun a b o c => mdF (modAP (r := m) (ρ := wP μ a b o c) (σ := σ))
  simp only [kp_wP, kpn_wP, kat_wP, kw_wP, ko_wP, kon_wP, hn] at f
  intro d
  induction d with
  | zero =>
    intro q hd hq hc
    exact l164x hn hb q (fun _ => by omega) hq
  | succ d ih =>
    intro q hd hq hc
    unfold rlF
    cases hb2 : q.2.1
    · rw [if_neg Bool.false_ne_true]
      have := l164x (m := m) (μ := μ) (σ := σ) (K := K) hn hb q (fun k => by rw [hb2] at k; cases k) hq
      rw [hb2] at this
      rw [hb2]
      exact this
    · rw [if_pos rfl]
      have hc2 := hc hb2
      by_cases h1 : q.1 < n
      · rw [if_pos h1]
        have h2 : nI q.1 < nI n := nI_lt h1 (by omega)
        have t := fun K => g160 (m := m) (n := n) (a := q.1) (μ := μ) (σ := σ) (b := true) (o := q.2.2.1) (c := q.2.2.2) (lo := 59) (hi := 59) (K := K) hn hb hq
        cases h3 : inR (sgP (kp μ) n q.1) 59 59
        · rw [if_neg Bool.false_ne_true]
          have e1 : tkB (kp μ) n q.1 59 59 true = false := (if_pos rfl).trans h3
          have e2 : tkA (kp μ) n q.1 59 59 true = q.1 := if_neg (by rw [e1]; exact Bool.false_ne_true)
          rw [e1, e2] at t
          have x := l164x (m := m) (μ := μ) (σ := σ) (K := K) hn hb (q.1, false, q.2.2.1, q.2.2.2) (fun k => by cases k) hq
          have x' : X 164 19 [.ref m] [] (modPut m (wP μ q.1 false q.2.2.1 q.2.2.2) σ) K = X 164 60 [.ref m] [] (modPut m (wP μ q.1 false q.2.2.1 q.2.2.2) σ) K := x
          rw [x164_19]
          simp only [x164_20, x164_23, x164_26, x164_27, x164_30, x164_31, x164_34, x164_37, x164_38, x164_40, x164_42, x164_45, x164_46, x164_47, x164_50, pushO, List.length_cons, List.length_nil, Nat.reduceAdd, Nat.reduceLeDiff, Nat.le_refl, Nat.zero_le, isD_i, isD_r, isD_l, isD_n, if_true, if_false, ite_true, ite_false, reduceIte, f, bI_t, i1_ne, h2, t, bI_f]
          exact x'
        · rw [if_pos rfl]
          have e1 : tkB (kp μ) n q.1 59 59 true = true := (if_pos rfl).trans h3
          have e2 : tkA (kp μ) n q.1 59 59 true = q.1 + 1 := if_pos e1
          rw [e1, e2] at t
          have g := fun K => g163 (m := m) (n := n) (a := q.1 + 1) (μ := μ) (σ := σ) (o := q.2.2.1) (c := q.2.2.2) (K := K) hn hb (by omega) (by omega)
          obtain ⟨r1, r2, r3⟩ := roF_le (p := kp μ) (n := n) (a := q.1 + 1) (by omega)
          have i := ih (roS q.2.2.1 q.2.2.2 (roF (kp μ) n (q.1 + 1))) (by show n - (roF (kp μ) n (q.1 + 1)).1 ≤ d; omega) r2 (fun hr => by
            have hr' : (roF (kp μ) n (q.1 + 1)).2.1 = true := hr
            have := r3 hr'
            show 2 * (if (roF (kp μ) n (q.1 + 1)).2.1 = true then q.2.2.2 + 1 else q.2.2.2) ≤ (roF (kp μ) n (q.1 + 1)).1 + 1
            rw [if_pos hr']
            omega)
          rw [x164_19, ← i]
          simp only [x164_20, x164_23, x164_26, x164_27, x164_30, x164_31, x164_34, x164_37, x164_38, x164_40, x164_42, x164_45, x164_46, x164_47, x164_50, x164_53, x164_54, x164_57, pushO, List.length_cons, List.length_nil, Nat.reduceAdd, Nat.reduceLeDiff, Nat.le_refl, Nat.zero_le, isD_i, isD_r, isD_l, isD_n, if_true, if_false, ite_true, ite_false, reduceIte, f, bI_t, i1_ne, h2, t, g]
      · rw [if_neg h1]
        have x := l164x (m := m) (μ := μ) (σ := σ) (K := K) hn hb q (fun _ => h1) hq
        rw [hb2] at x
        rw [hb2]
        exact x
def rdS (p : Nat → Int32) (n : Nat) (o : Nat → Int32) : PS := rlF p n n (roS o 0 (roF p n 0))
def rdA (q : PS) : Int32 := if q.2.1 = true then -6 else nI q.1
def rdM (μ : ModM) : ModM := wP μ (rdS (kp μ) (kpn μ) (ko μ)).1 (rdS (kp μ) (kpn μ) (ko μ)).2.1 (rdS (kp μ) (kpn μ) (ko μ)).2.2.1 (rdS (kp μ) (kpn μ) (ko μ)).2.2.2
theorem e164 {K : Option Value → Hp → Prop} {m : Nat} {μ : ModM} {σ : Hp} (h : modAt m μ σ) (hb : kpn μ ≤ 80) : X 164 0 [.ref m] [] σ K = K (some (.int (rdA (rdS (kp μ) (kpn μ) (ko μ))))) (modPut m (rdM μ) σ) := by
  have hn : kpn μ = kpn μ := rfl
  have z1 := mdP10z h
  have f1 := mdF (modAP (r := m) (ρ := wat μ 0) (σ := σ))
  have z2 := mdP11t (modAP (r := m) (ρ := wat μ 0) (σ := σ))
  rw [modPP] at z2
  have f2 := mdF (modAP (r := m) (ρ := ww (wat μ 0) true) (σ := σ))
  have z3 := mdP13z (modAP (r := m) (ρ := ww (wat μ 0) true) (σ := σ))
  rw [modPP] at z3
  have ea : ww (wat μ 0) true = wP μ 0 true (ko μ) (kon μ) := rfl
  have eb : won (wP μ 0 true (ko μ) (kon μ)) 0 = wP μ 0 true (ko μ) 0 := rfl
  have e3 : modPut m (won (ww (wat μ 0) true) 0) σ = modPut m (wP μ 0 true (ko μ) 0) σ := by rw [ea, eb]
  rw [e3] at z3
  have f := fun a b o c => mdF (modAP (r := m) (ρ := wP μ a b o c) (σ := σ))
  simp only [kp_wP, kpn_wP, kat_wP, kw_wP, ko_wP, kon_wP] at f
  have g := fun K => g163 (m := m) (n := kpn μ) (a := 0) (μ := μ) (σ := σ) (o := ko μ) (c := 0) (K := K) hn hb (by omega) (by omega)
  obtain ⟨r1, r2, r3⟩ := roF_le (p := kp μ) (n := kpn μ) (a := 0) (by omega)
  have i := l164 (m := m) (n := kpn μ) (μ := μ) (σ := σ) (K := K) hn hb (kpn μ) (roS (ko μ) 0 (roF (kp μ) (kpn μ) 0)) (by omega) r2 (fun hr => by
    have hr' : (roF (kp μ) (kpn μ) 0).2.1 = true := hr
    have := r3 hr'
    show 2 * (if (roF (kp μ) (kpn μ) 0).2.1 = true then 0 + 1 else 0) ≤ (roF (kp μ) (kpn μ) 0).1 + 1
    rw [if_pos hr']
    omega)
  simp only [x164_0, x164_1, x164_2, x164_5, x164_6, x164_7, x164_10, x164_11, x164_12, x164_15, x164_16, pushO, List.length_cons, List.length_nil, Nat.reduceAdd, Nat.reduceLeDiff, Nat.le_refl, Nat.zero_le, isD_i, isD_r, isD_l, isD_n, if_true, if_false, ite_true, ite_false, reduceIte, mdF h, z1, f1, z2, f2, z3, f, g, ok_1]
  rw [i]
  unfold rdM rdA rdS
  generalize rlF (kp μ) (kpn μ) (kpn μ) (roS (ko μ) 0 (roF (kp μ) (kpn μ) 0)) = q
  obtain ⟨a, b, o, c⟩ := q
  cases b
  · rw [if_neg Bool.false_ne_true]
    simp only [x164_60, x164_61, x164_64, x164_67, x164_69, x164_72, x164_73, x164_76, pushO, List.length_cons, List.length_nil, Nat.reduceAdd, Nat.reduceLeDiff, Nat.le_refl, Nat.zero_le, isD_i, isD_r, isD_l, isD_n, if_true, if_false, ite_true, ite_false, reduceIte, f, bI_f]
  · rw [if_pos rfl]
    simp only [x164_60, x164_61, x164_64, x164_67, x164_69, x164_72, x164_73, x164_76, pushO, List.length_cons, List.length_nil, Nat.reduceAdd, Nat.reduceLeDiff, Nat.le_refl, Nat.zero_le, isD_i, isD_r, isD_l, isD_n, if_true, if_false, ite_true, ite_false, reduceIte, f, bI_t, i1_ne]
theorem e165 {K : Option Value → Hp → Prop} {m : Nat} {μ : ModM} {σ : Hp} (h : modAt m μ σ) (hb : kpn μ ≤ 80) : X 165 0 [.ref m] [] σ K = K (some (.int (rdA (rdS (kp μ) (kpn μ) (ko μ))))) (modPut m (rdM μ) σ) := by
  have f := mdF (modAP (r := m) (ρ := rdM μ) (σ := σ))
  simp only [x165_0, x165_1, x165_2, x165_5, x165_6, x165_9, pushO, List.length_cons, List.length_nil, Nat.reduceAdd, Nat.reduceLeDiff, Nat.le_refl, Nat.zero_le, isD_i, isD_r, isD_l, isD_n, if_true, if_false, ite_true, ite_false, reduceIte, mdF h, mdP0s h, e164 h hb, f]
