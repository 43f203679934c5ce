/-! the most and the least of a guest -/
theorem sbv {x y : Int32} (h1 : -1000000000 ≤ x.toInt) (h2 : x.toInt ≤ 1000000000) (h3 : -1000000000 ≤ y.toInt) (h4 : y.toInt ≤ 1000000000) : (x - y).toInt = x.toInt - y.toInt := by
  rw [Int32.toInt_sub]
  exact Int.bmod_eq_of_le (by omega) (by omega)
theorem mn_fold {c : Nat → Int32} : ∀ d k a, (∃ i, i < k ∧ a = c i) → (∀ i, i < k → a.toInt ≤ (c i).toInt) → (∃ i, i < k + d ∧ fold (fun a k => if c k < a then c k else a) d k a = c i) ∧ ∀ i, i < k + d → (fold (fun a k => if c k < a then c k else a) d k a).toInt ≤ (c i).toInt := by
  intro d
  induction d with
  | zero => intro k a h1 h2; exact ⟨h1, h2⟩
  | succ d ih =>
    intro k a h1 h2
    unfold fold
    rw [show k + (d + 1) = k + 1 + d by omega]
    by_cases h : c k < a
    · rw [if_pos h]
      have := Int32.lt_iff_toInt_lt.mp h
      refine ih (k + 1) (c k) ⟨k, by omega, rfl⟩ (fun i hi => ?_)
      by_cases e : i = k
      · rw [e]; exact Int.le_refl _
      · have := h2 i (by omega)
        omega
    · rw [if_neg h]
      have := Int32.le_iff_toInt_le.mp (Int32.not_lt.mp h)
      obtain ⟨j, j1, j2⟩ := h1
      refine ih (k + 1) a ⟨j, by omega, j2⟩ (fun i hi => ?_)
      by_cases e : i = k
      · rw [e]; exact this
      · exact h2 i (by omega)
theorem mws_0 {c : Nat → Int32} {s t : Nat} (h : t < s) : mwsR c s t = 0 := if_pos h
theorem mws_f {c : Nat → Int32} {s t : Nat} (h : ¬ t < s) (h0 : 0 < t) (ht : t < 2 ^ 31) : (∃ i, i < t ∧ mwsR c s t = c i) ∧ ∀ i, i < t → (mwsR c s t).toInt ≤ (c i).toInt := by
  unfold mwsR
  rw [if_neg h, at_0 h0 ht]
  have := mn_fold (c := c) (t - 1) 1 (c 0) ⟨0, by omega, rfl⟩ (fun i hi => by
    have : i = 0 := by omega
    subst this
    exact Int.le_refl _)
  rw [show 1 + (t - 1) = t by omega] at this
  exact this
theorem seat_k {g : Nat → Int32} {t k : Nat} (hd : ∀ i j, i < t → j < t → g i = g j → i = j) (hk : k < t) : seatOfR g t (g k) = nI k := by
  rcases seatR_cases (g := g) (t := t) (x := g k) with ⟨h1, h2⟩ | ⟨j, j1, j2, h1, h2⟩
  · exact absurd (seg_in (f := g) (d := t) (k := 0) (j := k) (by omega) (by omega)) (seatO_no.mp h1)
  · rw [h2, hd j k j1 hk j2]
theorem seat_x {g : Nat → Int32} {t : Nat} {x : Int32} (h : ∀ k, k < t → g k ≠ x) : seatOfR g t x = -6 := by
  rcases seatR_cases (g := g) (t := t) (x := x) with ⟨h1, h2⟩ | ⟨j, j1, j2, h1, h2⟩
  · exact h2
  · exact absurd j2 (h j j1)
theorem mos_k {k : Nat} {ρ : RowM} {tot : Int} (h : RB ρ tot) (hk : k < rT ρ) : mosR ρ (rG ρ k) = rC ρ k := by
  have := h.1
  have := h.2.2.1
  unfold mosR mostR
  rw [seat_k h.2.2.2.1 hk, if_neg (nI_n6 (by omega)), at_nI hk (by omega)]
theorem les_k {k : Nat} {ρ : RowM} {tot : Int} (h : RB ρ tot) (hk : k < rT ρ) : lesR ρ (rG ρ k) = rC ρ k - rE ρ k := by
  have := h.1
  have := h.2.2.1
  unfold lesR
  rw [seat_k h.2.2.2.1 hk, least_nI hk (by omega)]
theorem mos_x {ρ : RowM} {x : Int32} (hx : ∀ k, k < rT ρ → rG ρ k ≠ x) : mosR ρ x = mwsR (rC ρ) (rS ρ) (rT ρ) := by
  unfold mosR mostR
  rw [seat_x hx, if_pos rfl]
theorem les_x {ρ : RowM} {x : Int32} (hx : ∀ k, k < rT ρ → rG ρ k ≠ x) : lesR ρ x = 0 := by
  unfold lesR leastAtR
  rw [seat_x hx, at_n6, at_n6]
  decide +kernel
theorem seated (ρ : RowM) (x : Int32) : (∃ k, k < rT ρ ∧ rG ρ k = x) ∨ ∀ k, k < rT ρ → rG ρ k ≠ x := by
  by_cases h : ∃ k, k < rT ρ ∧ rG ρ k = x
  · exact Or.inl h
  · exact Or.inr (fun k hk e => h ⟨k, hk, e⟩)
theorem les_t {k : Nat} {ρ : RowM} {tot : Int} (h : RB ρ tot) (ht : tot ≤ 99999) (hk : k < rT ρ) : (lesR ρ (rG ρ k)).toInt = (rC ρ k).toInt - (rE ρ k).toInt := by
  have b := h.2.2.2.2 k hk
  rw [les_k h hk, sbv (by omega) (by omega) (by omega) (by omega)]
theorem mws_b {ρ : RowM} {tot : Int} (h : RB ρ tot) (h0 : 0 ≤ tot) : 0 ≤ (mwsR (rC ρ) (rS ρ) (rT ρ)).toInt ∧ (mwsR (rC ρ) (rS ρ) (rT ρ)).toInt ≤ tot ∧ ∀ i, i < rT ρ → (mwsR (rC ρ) (rS ρ) (rT ρ)).toInt ≤ (rC ρ i).toInt := by
  obtain ⟨h1, h2, h3, h4, h5⟩ := h
  by_cases hq : rT ρ < rS ρ
  · rw [mws_0 hq, z_int]
    exact ⟨Int.le_refl _, h0, fun i hi => by have := h5 i hi; omega⟩
  · obtain ⟨⟨i, i1, i2⟩, q⟩ := mws_f (c := rC ρ) hq (by omega) (by omega)
    refine ⟨?_, ?_, q⟩
    · rw [i2]
      have := h5 i i1
      omega
    · rw [i2]
      have := h5 i i1
      omega
theorem mo_all {ρ : RowM} {tot : Int} (h : RB ρ tot) (h0 : 0 ≤ tot) (ht : tot ≤ 99999) (x : Int32) : 0 ≤ (lesR ρ x).toInt ∧ (lesR ρ x).toInt ≤ (mosR ρ x).toInt ∧ (mosR ρ x).toInt ≤ tot ∧ (mwsR (rC ρ) (rS ρ) (rT ρ)).toInt ≤ (mosR ρ x).toInt ∧ ((∃ k, k < rT ρ ∧ rG ρ k = x) → 1 ≤ (mosR ρ x).toInt) := by
  obtain ⟨m1, m2, m3⟩ := mws_b h h0
  rcases seated ρ x with ⟨k, k1, k2⟩ | hx
  · subst k2
    have b := h.2.2.2.2 k k1
    rw [les_t h ht k1, mos_k h k1]
    exact ⟨by omega, by omega, by omega, m3 k k1, fun _ => by omega⟩
  · rw [les_x hx, mos_x hx, z_int]
    exact ⟨Int.le_refl _, m1, m2, Int.le_refl _, fun ⟨k, k1, k2⟩ => absurd k2 (hx k k1)⟩
theorem bt_all {tr : Int32 → Int} {ρ : RowM} {tot : Int} (h : RB ρ tot) (h0 : 0 ≤ tot) (ht : tot ≤ 99999) (hn : ∀ z, 0 ≤ tr z) (bx : BX (rG ρ) (rC ρ) (rE ρ) (rT ρ) tr) (bz : BZ (rG ρ) (rS ρ) (rT ρ) tr) (x : Int32) : (lesR ρ x).toInt ≤ tr x ∧ tr x ≤ (mosR ρ x).toInt := by
  rcases seated ρ x with ⟨k, k1, k2⟩ | hx
  · subst k2
    rw [les_t h ht k1, mos_k h k1]
    exact bx.1 k k1
  · rw [les_x hx, mos_x hx, z_int]
    refine ⟨hn x, ?_⟩
    by_cases hq : rT ρ < rS ρ
    · rw [mws_0 hq, z_int, bz hq x hx]
      exact Int.le_refl _
    · have := h.2.1
      have := h.1
      have := h.2.2.1
      obtain ⟨⟨i, i1, i2⟩, -⟩ := mws_f (c := rC ρ) hq (by omega) (by omega)
      rw [i2]
      exact bx.2 x hx i i1
