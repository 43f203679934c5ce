/-! texts: the sign by sign reading and the reading by orders are one -/
def pth (p : Nat → Int32) : Nat → Nat → OrdM → OrdM → Prop
  | 0, _, O, O' => O = O'
  | d + 1, k, O, O' => p k ≠ 59 ∧ (rdF O (p k)).1 = true ∧ pth p d (k + 1) (rdF O (p k)).2 O'
theorem pth_app {p : Nat → Int32} : ∀ (d e k : Nat) (O O1 O2 : OrdM), pth p d k O O1 → pth p e (k + d) O1 O2 → pth p (d + e) k O O2 := by
  intro d
  induction d with
  | zero =>
    intro e k O O1 O2 h1 h2
    have h1' : O = O1 := h1
    subst h1'
    rw [Nat.zero_add]
    exact h2
  | succ d ih =>
    intro e k O O1 O2 h1 h2
    obtain ⟨a1, a2, a3⟩ := h1
    rw [show d + 1 + e = (d + e) + 1 by omega]
    exact ⟨a1, a2, ih e (k + 1) _ O1 O2 a3 (by rw [show k + 1 + d = k + (d + 1) by omega]; exact h2)⟩
theorem pth_1 {p : Nat → Int32} {k : Nat} {O O' : OrdM} (h1 : p k ≠ 59) (h2 : rdF O (p k) = (true, O')) : pth p 1 k O O' := by
  refine ⟨h1, by rw [h2], ?_⟩
  show (rdF O (p k)).2 = O'
  rw [h2]
theorem inR_b {x lo hi : Int32} (h : inR x lo hi = true) : lo.toInt ≤ x.toInt ∧ x.toInt ≤ hi.toInt := by
  unfold inR at h
  by_cases h1 : x < lo
  · rw [if_pos h1] at h; cases h
  · rw [if_neg h1] at h
    by_cases h2 : hi < x
    · rw [if_pos h2] at h; cases h
    · exact ⟨Int32.le_iff_toInt_le.mp (Int32.not_lt.mp h1), Int32.le_iff_toInt_le.mp (Int32.not_lt.mp h2)⟩
theorem ne_i {x y : Int32} (h : x.toInt ≠ y.toInt) : ¬ x = y := fun e => h (by rw [e])
theorem i97 : Int32.toInt 97 = 97 := by decide +kernel
theorem i122 : Int32.toInt 122 = 122 := by decide +kernel
theorem i59 : Int32.toInt 59 = 59 := by decide +kernel
theorem i42 : Int32.toInt 42 = 42 := by decide +kernel
theorem i48 : Int32.toInt 48 = 48 := by decide +kernel
theorem i57 : Int32.toInt 57 = 57 := by decide +kernel
theorem i49 : Int32.toInt 49 = 49 := by decide +kernel
theorem i10 : Int32.toInt 10 = 10 := by decide +kernel
theorem i999 : Int32.toInt 999 = 999 := by decide +kernel
theorem i0 : Int32.toInt 0 = 0 := by decide +kernel
theorem letF_in {O : OrdM} {x : Int32} (hx : inR x 97 122 = true) (hl : O.2.2.2.2.1 < 4) : letF O x = (true, (2, O.2.1, O.2.2.1, 27 * O.2.2.2.1 + (x - 97 + 1), O.2.2.2.2.1 + 1, O.2.2.2.2.2)) := by
  unfold inR at hx
  unfold letF
  by_cases h1 : x < 97
  · rw [if_pos h1] at hx; cases hx
  · rw [if_neg h1] at hx ⊢
    by_cases h2 : 122 < x
    · rw [if_pos h2] at hx; cases hx
    · rw [if_neg h2, if_pos hl]
theorem letF_no {O : OrdM} {x : Int32} (h : inR x 97 122 = false ∨ ¬ O.2.2.2.2.1 < 4) : (letF O x).1 = false := by
  unfold letF
  by_cases h1 : x < 97
  · rw [if_pos h1]
  · rw [if_neg h1]
    by_cases h2 : 122 < x
    · rw [if_pos h2]
    · rw [if_neg h2]
      rcases h with q | q
      · unfold inR at q
        rw [if_neg h1, if_neg h2] at q
        cases q
      · rw [if_neg q]
theorem rd_2 {kd sm gu le ti x : Int32} (h1 : ¬ x = 59) (h2 : ¬ x = 42) : rdF (2, kd, sm, gu, le, ti) x = letF (2, kd, sm, gu, le, ti) x := by
  unfold rdF
  rw [if_neg h1, if_neg (show ¬ ((2, kd, sm, gu, le, ti) : OrdM).1 = 0 from (by decide : ¬ (2 : Int32) = 0)), if_neg (show ¬ ((2, kd, sm, gu, le, ti) : OrdM).1 = 1 from (by decide : ¬ (2 : Int32) = 1)), if_pos (show ((2, kd, sm, gu, le, ti) : OrdM).1 = 2 from rfl), if_neg h2]
theorem tk_sg {p : Nat → Int32} {n a : Nat} (h : a < n) : sgP p n a = p a := if_pos h
theorem nm_path {p : Nat → Int32} {n : Nat} {sm : Int32} : ∀ (d a : Nat) (x : Int32), d ≤ 3 → a ≤ n → (nmF p n d a true x).2.1 = true ∧ ∃ le : Int32, pth p ((nmF p n d a true x).1 - a) a (2, 0, sm, x, nI (4 - d), 1) (2, 0, sm, (nmF p n d a true x).2.2, le, 1) ∧ ((nmF p n d a true x).1 < n → (letF (2, 0, sm, (nmF p n d a true x).2.2, le, 1) (p (nmF p n d a true x).1)).1 = false) := by
  intro d
  induction d with
  | zero =>
    intro a x _ ha
    unfold nmF
    have n4 : ¬ nI 4 < (4 : Int32) := by decide +kernel
    refine ⟨rfl, nI 4, ?_, fun _ => letF_no (O := (2, 0, sm, x, nI 4, 1)) (Or.inr n4)⟩
    show pth p (a - a) a _ _
    rw [Nat.sub_self]
    rfl
  | succ d ih =>
    intro a x hd ha
    cases h : tkB p n a 97 122 true
    · unfold nmF
      rw [h, if_neg Bool.false_ne_true]
      refine ⟨rfl, nI (4 - (d + 1)), ?_, fun hn => letF_no (Or.inl ?_)⟩
      · show pth p (a - a) a _ _
        rw [Nat.sub_self]
        rfl
      · unfold tkB at h
        rw [if_pos rfl, tk_sg hn] at h
        exact h
    · obtain ⟨_, h2, h3⟩ := tk_true pos97 h
      rw [tk_sg h3] at h2
      obtain ⟨b1, b2⟩ := inR_b h2
      rw [i97] at b1
      rw [i122] at b2
      have hle := nmF_le (p := p) (n := n) d (a + 1) true (27 * x + (sgP p n a - 97) + 1) (by omega)
      obtain ⟨i1, le, i2, i3⟩ := ih (a + 1) (27 * x + (sgP p n a - 97) + 1) (by omega) (by omega)
      have eu : nmF p n (d + 1) a true x = nmF p n d (a + 1) true (27 * x + (sgP p n a - 97) + 1) := by
        rw [nmF, h, if_pos rfl]
      rw [eu]
      refine ⟨i1, le, ?_, i3⟩
      have hl4 : nI (4 - (d + 1)) < 4 := by
        rw [show (4 : Int32) = nI 4 by decide +kernel]
        exact nI_lt (by omega) (by omega)
      have n59 : ¬ p a = 59 := ne_i (by rw [i59]; omega)
      have n42 : ¬ p a = 42 := ne_i (by rw [i42]; omega)
      have st : rdF (2, 0, sm, x, nI (4 - (d + 1)), 1) (p a) = (true, (2, 0, sm, 27 * x + (sgP p n a - 97) + 1, nI (4 - d), 1)) := by
        rw [rd_2 n59 n42, letF_in (O := (2, 0, sm, x, nI (4 - (d + 1)), 1)) h2 hl4, tk_sg h3]
        show (true, ((2 : Int32), (0 : Int32), sm, 27 * x + (p a - 97 + 1), nI (4 - (d + 1)) + 1, (1 : Int32))) = _
        rw [nI_a1, show 4 - (d + 1) + 1 = 4 - d by omega, Int32.add_assoc]
      have := pth_app 1 _ a _ _ _ (pth_1 n59 st) i2
      rw [show (nmF p n d (a + 1) true (27 * x + (sgP p n a - 97) + 1)).1 - a = 1 + ((nmF p n d (a + 1) true (27 * x + (sgP p n a - 97) + 1)).1 - (a + 1)) by omega]
      exact this
theorem isDg_in {x : Int32} : isDg x = inR x 48 57 := by
  unfold isDg inR
  by_cases h1 : x < 48
  · rw [if_pos h1, if_pos h1]
  · rw [if_neg h1, if_neg h1]
    by_cases h2 : 57 < x
    · rw [if_pos h2, decide_eq_true h2]
      rfl
    · rw [if_neg h2, decide_eq_false h2]
      rfl
theorem rd_4 {kd sm gu le ti x : Int32} (h1 : ¬ x = 59) : rdF (4, kd, sm, gu, le, ti) x = digF (4, kd, sm, gu, le, ti) x := by
  unfold rdF
  rw [if_neg h1, if_neg (show ¬ ((4, kd, sm, gu, le, ti) : OrdM).1 = 0 from (by decide : ¬ (4 : Int32) = 0)), if_neg (show ¬ ((4, kd, sm, gu, le, ti) : OrdM).1 = 1 from (by decide : ¬ (4 : Int32) = 1)), if_neg (show ¬ ((4, kd, sm, gu, le, ti) : OrdM).1 = 2 from (by decide : ¬ (4 : Int32) = 2)), if_neg (show ¬ ((4, kd, sm, gu, le, ti) : OrdM).1 = 3 from (by decide : ¬ (4 : Int32) = 3)), if_pos (show ((4, kd, sm, gu, le, ti) : OrdM).1 = 4 from rfl)]
theorem mul10 {x : Int32} (h1 : 0 ≤ x.toInt) (h2 : x.toInt ≤ 999) : (10 * x).toInt = 10 * x.toInt := by
  rw [Int32.toInt_mul, i10]
  exact Int.bmod_eq_of_le (by omega) (by omega)
def nuI (d : Nat) (x : Int32) : Prop := (d = 2 ∧ 0 ≤ x.toInt ∧ x.toInt ≤ 9) ∨ (d = 1 ∧ 10 ≤ x.toInt ∧ x.toInt ≤ 99) ∨ (d = 0 ∧ 100 ≤ x.toInt ∧ x.toInt ≤ 999)
theorem nu_path {p : Nat → Int32} {n : Nat} {sm gu le : Int32} : ∀ (d a : Nat) (x : Int32), nuI d x → a ≤ n → (nuF p n d a true x).2.1 = true ∧ pth p ((nuF p n d a true x).1 - a) a (4, 0, sm, gu, le, x) (4, 0, sm, gu, le, (nuF p n d a true x).2.2) ∧ ((nuF p n d a true x).1 < n → p (nuF p n d a true x).1 ≠ 59 → (digF (4, 0, sm, gu, le, (nuF p n d a true x).2.2) (p (nuF p n d a true x).1)).1 = false) := by
  intro d
  induction d with
  | zero =>
    intro a x hx ha
    have hx' : 100 ≤ x.toInt ∧ x.toInt ≤ 999 := by
      rcases hx with q | q | q <;> omega
    unfold nuF
    refine ⟨rfl, ?_, fun _ _ => ?_⟩
    · show pth p (a - a) a _ _
      rw [Nat.sub_self]
      rfl
    · show (digF (4, 0, sm, gu, le, x) (p a)).1 = false
      unfold digF
      by_cases h1 : isDg (p a) = true
      · rw [if_pos h1]
        have n0 : ¬ x = 0 := ne_i (by rw [i0]; omega)
        rw [isDg_in] at h1
        obtain ⟨b1, b2⟩ := inR_b h1
        rw [i48] at b1
        rw [i57] at b2
        have ev : (10 * x + (p a - 48)).toInt = 10 * x.toInt + ((p a).toInt - 48) := by
          have e1 := mul10 (x := x) (by omega) (by omega)
          have e2 : (p a - 48).toInt = (p a).toInt - 48 := by rw [sbv (by omega) (by rw [i48]; omega), i48]
          rw [adv (by omega) (by omega) (by omega) (by omega), e1, e2]
        have h9 : 999 < 10 * x + (p a - 48) := by
          rw [Int32.lt_iff_toInt_lt, i999, ev]
          omega
        rw [if_neg (show ¬ ((4, 0, sm, gu, le, x) : OrdM).2.2.2.2.2 = 0 from n0), if_pos (show 999 < 10 * ((4, 0, sm, gu, le, x) : OrdM).2.2.2.2.2 + (p a - 48) from h9)]
      · rw [if_neg h1]
  | succ d ih =>
    intro a x hx ha
    have stop : pth p (a - a) a (4, 0, sm, gu, le, x) (4, 0, sm, gu, le, x) := by
      rw [Nat.sub_self]
      rfl
    cases h : tkB p n a 48 57 true
    · have eu : nuF p n (d + 1) a true x = (a, true, x) := by
        rw [nuF, h, if_neg Bool.false_ne_true]
      rw [eu]
      refine ⟨rfl, stop, fun hn _ => ?_⟩
      unfold tkB at h
      rw [if_pos rfl] at h
      have hn' : a < n := hn
      rw [tk_sg hn'] at h
      unfold digF
      rw [isDg_in]
      show (if inR (p a) 48 57 = true then _ else _ : Bool × OrdM).1 = false
      rw [h, if_neg Bool.false_ne_true]
    · obtain ⟨_, h2, h3⟩ := tk_true pos48 h
      rw [tk_sg h3] at h2
      obtain ⟨b1, b2⟩ := inR_b h2
      rw [i48] at b1
      rw [i57] at b2
      by_cases h0 : 0 < x
      · have hx0 := Int32.lt_iff_toInt_lt.mp h0
        rw [i0] at hx0
        have hx9 : x.toInt ≤ 99 := by rcases hx with q | q | q <;> omega
        have e1 := mul10 (x := x) (by omega) (by omega)
        have e2 : (p a - 48).toInt = (p a).toInt - 48 := by rw [sbv (by omega) (by rw [i48]; omega), i48]
        have ev : (10 * x + (p a - 48)).toInt = 10 * x.toInt + ((p a).toInt - 48) := by
          rw [adv (by omega) (by omega) (by omega) (by omega), e1, e2]
        have hx' : nuI d (10 * x + (sgP p n a - 48)) := by
          rw [tk_sg h3]
          unfold nuI
          rw [ev]
          rcases hx with q | q | q
          · exact Or.inr (Or.inl ⟨by omega, by omega, by omega⟩)
          · exact Or.inr (Or.inr ⟨by omega, by omega, by omega⟩)
          · omega
        obtain ⟨i1, i2, i3⟩ := ih (a + 1) (10 * x + (sgP p n a - 48)) hx' (by omega)
        have hle := nuF_le (p := p) (n := n) d (a + 1) true (10 * x + (sgP p n a - 48)) (by omega)
        have eu : nuF p n (d + 1) a true x = nuF p n d (a + 1) true (10 * x + (sgP p n a - 48)) := by
          rw [nuF, h, if_pos rfl, if_pos h0]
        rw [eu]
        refine ⟨i1, ?_, i3⟩
        have n59 : ¬ p a = 59 := ne_i (by rw [i59]; omega)
        have n0 : ¬ x = 0 := ne_i (by rw [i0]; omega)
        have n9 : ¬ 999 < 10 * x + (p a - 48) := fun q => by
          have := Int32.lt_iff_toInt_lt.mp q
          rw [i999, ev] at this
          omega
        have st : rdF (4, 0, sm, gu, le, x) (p a) = (true, (4, 0, sm, gu, le, 10 * x + (sgP p n a - 48))) := by
          rw [rd_4 n59, tk_sg h3]
          unfold digF
          rw [isDg_in, if_pos h2, if_neg (show ¬ ((4, 0, sm, gu, le, x) : OrdM).2.2.2.2.2 = 0 from n0), if_neg (show ¬ 999 < 10 * ((4, 0, sm, gu, le, x) : OrdM).2.2.2.2.2 + (p a - 48) from n9)]
        have := pth_app 1 _ a _ _ _ (pth_1 n59 st) i2
        rw [show (nuF p n d (a + 1) true (10 * x + (sgP p n a - 48))).1 - a = 1 + ((nuF p n d (a + 1) true (10 * x + (sgP p n a - 48))).1 - (a + 1)) by omega]
        exact this
      · have eu : nuF p n (d + 1) a true x = (a, true, x) := by
          rw [nuF, h, if_pos rfl, if_neg h0]
        rw [eu]
        refine ⟨rfl, stop, fun _ _ => ?_⟩
        have x0 : x = 0 := by
          have := Int32.le_iff_toInt_le.mp (Int32.not_lt.mp h0)
          rw [i0] at this
          refine Int32.toInt_inj.mp ?_
          rw [i0]
          rcases hx with q | q | q <;> omega
        unfold digF
        rw [isDg_in]
        show (if inR (p a) 48 57 = true then (if x = 0 then _ else _) else _ : Bool × OrdM).1 = false
        rw [if_pos h2, if_pos x0]
