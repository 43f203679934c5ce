/-! a coming: the class's stream and the reference's go on alike -/
theorem sef_cs {ρ : RowM} {x : Int32} (hn : rT ρ ≤ rS ρ) (h1 : 1 ≤ rS ρ) : (sefN ρ x < rT ρ ∧ rG ρ (sefN ρ x) = x) ∨ (sefN ρ x = rT ρ ∧ rT ρ < rS ρ ∧ ∀ j, j < rT ρ → rG ρ j ≠ x) ∨ (sefN ρ x < rT ρ ∧ ¬ sefN ρ x = rT ρ ∧ ∀ j, j < rT ρ → rG ρ j ≠ x) := by
  unfold sefN
  cases h : seatO (rG ρ) (rT ρ) x with
  | some k => exact Or.inl (seatO_lt h)
  | none =>
    have hno : ∀ j, j < rT ρ → rG ρ j ≠ x := fun j hj e => seatO_no.mp h (by
      rw [← e]
      exact seg_in (by omega) (by omega))
    dsimp only
    by_cases h2 : rT ρ < rS ρ
    · rw [if_pos h2]
      exact Or.inr (Or.inl ⟨rfl, h2, hno⟩)
    · rw [if_neg h2]
      have := ftgN_lt (c := rC ρ) (e := rE ρ) (show 0 < rT ρ by omega)
      exact Or.inr (Or.inr ⟨this, by omega, hno⟩)
theorem RW_cg {ρ : RowM} {g c e g2 c2 e2 : Nat → Int32} {tot tot2 : Int32} (h : RW ρ g c e tot) (hg : ∀ k, k < rT ρ → g2 k = g k ∧ c2 k = c k ∧ e2 k = e k) (ht : tot2 = tot) : RW ρ g2 c2 e2 tot2 := by
  subst ht
  obtain ⟨a1, a2, a3, a4, a5, a6⟩ := h
  refine ⟨a1, a2, a3, fun k hk => ?_, fun i j hi hj e => a5 i j hi hj ?_, fun k hk => ?_⟩
  · rw [(hg k hk).1, (hg k hk).2.1, (hg k hk).2.2]
    exact a4 k hk
  · rw [← (hg i hi).1, ← (hg j hj).1]
    exact e
  · rw [(hg k hk).2.1, (hg k hk).2.2]
    exact a6 k hk
theorem gt_if {s : Nat → Int32} {t a b : Nat} {v : Int32} : gt (lt_ s t a v) t b = if b = a then v else gt s t b := by
  by_cases h : b = a
  · subst h
    rw [if_pos rfl, gt_s]
  · rw [if_neg h, gt_n h]
theorem come_row {ρ : RowM} {s : Nat → Int32} {t : Nat} {x y : Int32} (hw : RW ρ (vG s t) (vC s t) (vE s t) (gt s t 0)) (hT : gt s t 1 = nI (rT ρ)) (h0 : 0 ≤ (gt s t 0).toInt) (hy1 : 1 ≤ y.toInt) (hy2 : y.toInt ≤ 999) (htot : (gt s t 0).toInt + y.toInt ≤ 99999) : RW (srvR ρ (sefN ρ x) x y).2 (vG (cmQ (cmP s t (rT ρ) (sefN ρ x) x) t (sefN ρ x) y) t) (vC (cmQ (cmP s t (rT ρ) (sefN ρ x) x) t (sefN ρ x) y) t) (vE (cmQ (cmP s t (rT ρ) (sefN ρ x) x) t (sefN ρ x) y) t) (gt (cmQ (cmP s t (rT ρ) (sefN ρ x) x) t (sefN ρ x) y) t 0) ∧ gt (cmQ (cmP s t (rT ρ) (sefN ρ x) x) t (sefN ρ x) y) t 1 = nI (rT (srvR ρ (sefN ρ x) x y).2) ∧ gt (cmQ (cmP s t (rT ρ) (sefN ρ x) x) t (sefN ρ x) y) t 2 = (if (srvR ρ (sefN ρ x) x y).1 = true then gt s t 2 + 1 else gt s t 2) ∧ gt (cmQ (cmP s t (rT ρ) (sefN ρ x) x) t (sefN ρ x) y) t 0 = gt s t 0 + y ∧ rS (srvR ρ (sefN ρ x) x y).2 = rS ρ := by
  have hc := sef_cs (x := x) hw.1 hw.2.1
  obtain ⟨a1, a2, a3, a4, a5, a6⟩ := hw
  generalize sefN ρ x = k at *
  obtain ⟨G, C, E, Q, n⟩ := ρ
  have ev : (gt s t 0 + y).toInt = (gt s t 0).toInt + y.toInt := adv (by omega) (by omega) (by omega) (by omega)
  have a1' : n ≤ Q := a1
  have a2' : 1 ≤ Q := a2
  have a3' : Q ≤ 12 := a3
  have a4' : ∀ j, j < n → G j = gt s t (3 + 3 * j) ∧ C j = gt s t (4 + 3 * j) ∧ E j = gt s t (5 + 3 * j) := a4
  have a5' : ∀ i j, i < n → j < n → gt s t (3 + 3 * i) = gt s t (3 + 3 * j) → i = j := a5
  have a6' : ∀ j, j < n → 0 ≤ (gt s t (5 + 3 * j)).toInt ∧ (gt s t (5 + 3 * j)).toInt ≤ (gt s t (4 + 3 * j)).toInt ∧ 1 ≤ (gt s t (4 + 3 * j)).toInt ∧ (gt s t (4 + 3 * j)).toInt ≤ (gt s t 0).toInt := a6
  clear a1 a2 a3 a4 a5 a6
  have hc' : (k < n ∧ G k = x) ∨ (k = n ∧ n < Q ∧ ∀ j, j < n → G j ≠ x) ∨ (k < n ∧ ¬ k = n ∧ ∀ j, j < n → G j ≠ x) := hc
  have eq : ∀ s1, cmQ s1 t k y = lt_ (lt_ s1 t (4 + 3 * k) (gt s1 t (4 + 3 * k) + y)) t 0 (gt s1 t 0 + y) := fun s1 => by
    unfold cmQ
    rw [gt_n (show (0 : Nat) ≠ 4 + 3 * k by omega)]
  have hT' : gt s t 1 = nI n := hT
  have vv : ∀ (s1 : Nat → Int32), (∀ j, vG (cmQ s1 t k y) t j = gt s1 t (3 + 3 * j)) ∧ (∀ j, vC (cmQ s1 t k y) t j = if j = k then gt s1 t (4 + 3 * k) + y else gt s1 t (4 + 3 * j)) ∧ (∀ j, vE (cmQ s1 t k y) t j = gt s1 t (5 + 3 * j)) ∧ gt (cmQ s1 t k y) t 0 = gt s1 t 0 + y ∧ gt (cmQ s1 t k y) t 1 = gt s1 t 1 ∧ gt (cmQ s1 t k y) t 2 = gt s1 t 2 := fun s1 => by
    rw [eq]
    refine ⟨fun j => ?_, fun j => ?_, fun j => ?_, gt_s, ?_, ?_⟩
    · show gt _ t (3 + 3 * j) = _
      rw [gt_n (by omega), gt_n (by omega)]
    · show gt _ t (4 + 3 * j) = _
      rw [gt_n (by omega), gt_if]
      by_cases h : j = k
      · rw [if_pos (by omega), if_pos h]
      · rw [if_neg (by omega), if_neg h]
    · show gt _ t (5 + 3 * j) = _
      rw [gt_n (by omega), gt_n (by omega)]
    · rw [gt_n (by omega), gt_n (by omega)]
    · rw [gt_n (by omega), gt_n (by omega)]
  show RW (srvR (G, C, E, Q, n) k x y).2 (vG (cmQ (cmP s t n k x) t k y) t) (vC (cmQ (cmP s t n k x) t k y) t) (vE (cmQ (cmP s t n k x) t k y) t) (gt (cmQ (cmP s t n k x) t k y) t 0) ∧ gt (cmQ (cmP s t n k x) t k y) t 1 = nI (rT (srvR (G, C, E, Q, n) k x y).2) ∧ gt (cmQ (cmP s t n k x) t k y) t 2 = (if (srvR (G, C, E, Q, n) k x y).1 = true then gt s t 2 + 1 else gt s t 2) ∧ gt (cmQ (cmP s t n k x) t k y) t 0 = gt s t 0 + y ∧ rS (srvR (G, C, E, Q, n) k x y).2 = Q
  obtain ⟨v1, v2, v3, v4, v5, v6⟩ := vv (cmP s t n k x)
  rw [v4, v5, v6]
  rcases hc' with ⟨c1, c2⟩ | ⟨c1, c2, c3⟩ | ⟨c1, c4, c3⟩
  · have hp : cmP s t n k x = s := by
      unfold cmP
      rw [if_neg (by omega), if_pos (by rw [← (a4' k c1).1]; exact c2)]
    have hs : srvR (G, C, E, Q, n) k x y = (false, G, upd C k (C k + y), E, Q, n) := by
      unfold srvR
      show (if k < n then (if G k = x then _ else _) else _) = _
      rw [if_pos c1, if_pos c2]
    rw [hp] at v1 v2 v3 ⊢
    rw [hs]
    have b := a6' k c1
    have ec : (gt s t (4 + 3 * k) + y).toInt = (gt s t (4 + 3 * k)).toInt + y.toInt := adv (by omega) (by omega) (by omega) (by omega)
    refine ⟨⟨a1', a2', a3', fun j hj => ?_, fun i j hi hj e => ?_, fun j hj => ?_⟩, hT', (if_neg Bool.false_ne_true).symm, rfl, rfl⟩
    · have hj' : j < n := hj
      refine ⟨((a4' j hj').1).trans (v1 j).symm, ?_, ((a4' j hj').2.2).trans (v3 j).symm⟩
      show upd C k (C k + y) j = _
      rw [v2]
      by_cases h : j = k
      · subst h
        rw [upd_at, if_pos rfl, (a4' j hj').2.1]
      · rw [upd_n h, if_neg h, (a4' j hj').2.1]
    · rw [v1, v1] at e
      exact a5' i j hi hj e
    · have hj' : j < n := hj
      have := a6' j hj'
      rw [v2, v3, ev]
      by_cases h : j = k
      · subst h
        rw [if_pos rfl, ec]
        omega
      · rw [if_neg h]
        omega
  · subst c1
    have hp : cmP s t k k x = lt_ (lt_ (lt_ (lt_ s t 1 (nI (k + 1))) t (3 + 3 * k) x) t (4 + 3 * k) 0) t (5 + 3 * k) 0 := by
      unfold cmP
      rw [if_pos rfl]
    have p0 : gt (cmP s t k k x) t 0 = gt s t 0 := by rw [hp, gt_n (by omega), gt_n (by omega), gt_n (by omega), gt_n (by omega)]
    have p1 : gt (cmP s t k k x) t 1 = nI (k + 1) := by rw [hp, gt_n (by omega), gt_n (by omega), gt_n (by omega), gt_s]
    have p2 : gt (cmP s t k k x) t 2 = gt s t 2 := by rw [hp, gt_n (by omega), gt_n (by omega), gt_n (by omega), gt_n (by omega)]
    have pg : ∀ j, gt (cmP s t k k x) t (3 + 3 * j) = if j = k then x else gt s t (3 + 3 * j) := fun j => by
      rw [hp, gt_n (by omega), gt_n (by omega), gt_if]
      by_cases h : j = k
      · rw [if_pos (by omega), if_pos h]
      · rw [if_neg (by omega), if_neg h, gt_n (by omega)]
    have pc : ∀ j, gt (cmP s t k k x) t (4 + 3 * j) = if j = k then 0 else gt s t (4 + 3 * j) := fun j => by
      rw [hp, gt_n (by omega), gt_if]
      by_cases h : j = k
      · rw [if_pos (by omega), if_pos h]
      · rw [if_neg (by omega), if_neg h, gt_n (by omega), gt_n (by omega)]
    have pe : ∀ j, gt (cmP s t k k x) t (5 + 3 * j) = if j = k then 0 else gt s t (5 + 3 * j) := fun j => by
      rw [hp, gt_if]
      by_cases h : j = k
      · rw [if_pos (by omega), if_pos h]
      · rw [if_neg (by omega), if_neg h, gt_n (by omega), gt_n (by omega), gt_n (by omega)]
    have hs : srvR (G, C, E, Q, k) k x y = (false, upd G k x, upd C k y, upd E k 0, Q, k + 1) := by
      unfold srvR appR
      show (if k < k then _ else (false, if k < Q then _ else _)) = _
      rw [if_neg (Nat.lt_irrefl k), if_pos c2]
    rw [p0, p1, p2, hs]
    have z : (0 : Int32).toInt = 0 := by decide +kernel
    refine ⟨⟨by show k + 1 ≤ Q; omega, a2', a3', fun j hj => ?_, fun i j hi hj e => ?_, fun j hj => ?_⟩, rfl, (if_neg Bool.false_ne_true).symm, rfl, rfl⟩
    · have hj' : j < k + 1 := hj
      show upd G k x j = _ ∧ upd C k y j = _ ∧ upd E k 0 j = _
      rw [v1, v2, v3, pg, pc, pc, pe]
      by_cases h : j = k
      · subst h
        rw [upd_at, upd_at, upd_at, if_pos rfl, if_pos rfl, if_pos rfl, if_pos rfl, Int32.zero_add]
        exact ⟨rfl, rfl, rfl⟩
      · rw [upd_n h, upd_n h, upd_n h, if_neg h, if_neg h, if_neg h, if_neg h]
        exact a4' j (by omega)
    · have hi' : i < k + 1 := hi
      have hj' : j < k + 1 := hj
      rw [v1, v1, pg, pg] at e
      by_cases h : i = k
      · by_cases h2 : j = k
        · omega
        · rw [if_pos h, if_neg h2] at e
          exact absurd ((a4' j (by omega)).1.trans e.symm) (c3 j (by omega))
      · by_cases h2 : j = k
        · rw [if_neg h, if_pos h2] at e
          exact absurd ((a4' i (by omega)).1.trans e) (c3 i (by omega))
        · rw [if_neg h, if_neg h2] at e
          exact a5' i j (by omega) (by omega) e
    · have hj' : j < k + 1 := hj
      rw [v2, v3, pc, pc, pe, ev]
      by_cases h : j = k
      · rw [if_pos h, if_pos h, if_pos rfl, Int32.zero_add, z]
        omega
      · rw [if_neg h, if_neg h, if_neg h]
        have := a6' j (by omega)
        omega
  · have hg : ¬ gt s t (3 + 3 * k) = x := by rw [← (a4' k c1).1]; exact c3 k c1
    have hp : cmP s t n k x = lt_ (lt_ (lt_ s t (3 + 3 * k) x) t (5 + 3 * k) (gt s t (4 + 3 * k))) t 2 (gt s t 2 + 1) := by
      unfold cmP
      rw [if_neg c4, if_neg hg, gt_n (show 4 + 3 * k ≠ 3 + 3 * k by omega), gt_n (show (2 : Nat) ≠ 5 + 3 * k by omega), gt_n (show (2 : Nat) ≠ 3 + 3 * k by omega)]
    have p0 : gt (cmP s t n k x) t 0 = gt s t 0 := by rw [hp, gt_n (by omega), gt_n (by omega), gt_n (by omega)]
    have p1 : gt (cmP s t n k x) t 1 = gt s t 1 := by rw [hp, gt_n (by omega), gt_n (by omega), gt_n (by omega)]
    have p2 : gt (cmP s t n k x) t 2 = gt s t 2 + 1 := by rw [hp, gt_s]
    have pg : ∀ j, gt (cmP s t n k x) t (3 + 3 * j) = if j = k then x else gt s t (3 + 3 * j) := fun j => by
      rw [hp, gt_n (by omega), gt_n (by omega), gt_if]
      by_cases h : j = k
      · rw [if_pos (by omega), if_pos h]
      · rw [if_neg (by omega), if_neg h]
    have pc : ∀ j, gt (cmP s t n k x) t (4 + 3 * j) = gt s t (4 + 3 * j) := fun j => by
      rw [hp, gt_n (by omega), gt_n (by omega), gt_n (by omega)]
    have pe : ∀ j, gt (cmP s t n k x) t (5 + 3 * j) = if j = k then gt s t (4 + 3 * k) else gt s t (5 + 3 * j) := fun j => by
      rw [hp, gt_n (by omega), gt_if]
      by_cases h : j = k
      · rw [if_pos (by omega), if_pos h]
      · rw [if_neg (by omega), if_neg h, gt_n (by omega)]
    have hs : srvR (G, C, E, Q, n) k x y = (true, upd G k x, upd C k (C k + y), upd E k (C k), Q, n) := by
      unfold srvR
      show (if k < n then (if G k = x then _ else _) else _) = _
      rw [if_pos c1, if_neg (c3 k c1)]
    rw [p0, p1, p2, hs]
    have b := a6' k c1
    have ec : (gt s t (4 + 3 * k) + y).toInt = (gt s t (4 + 3 * k)).toInt + y.toInt := adv (by omega) (by omega) (by omega) (by omega)
    refine ⟨⟨a1', a2', a3', fun j hj => ?_, fun i j hi hj e => ?_, fun j hj => ?_⟩, hT', (if_pos rfl).symm, rfl, rfl⟩
    · have hj' : j < n := hj
      show upd G k x j = _ ∧ upd C k (C k + y) j = _ ∧ upd E k (C k) j = _
      rw [v1, v2, v3, pg, pc, pc, pe]
      by_cases h : j = k
      · subst h
        rw [upd_at, upd_at, upd_at, if_pos rfl, if_pos rfl, if_pos rfl, (a4' j hj').2.1]
        exact ⟨rfl, rfl, rfl⟩
      · rw [upd_n h, upd_n h, upd_n h, if_neg h, if_neg h, if_neg h]
        exact a4' j hj'
    · have hi' : i < n := hi
      have hj' : j < n := hj
      rw [v1, v1, pg, pg] at e
      by_cases h : i = k
      · by_cases h2 : j = k
        · omega
        · rw [if_pos h, if_neg h2] at e
          exact absurd ((a4' j hj').1.trans e.symm) (c3 j hj')
      · by_cases h2 : j = k
        · rw [if_neg h, if_pos h2] at e
          exact absurd ((a4' i hi').1.trans e) (c3 i hi')
        · rw [if_neg h, if_neg h2] at e
          exact a5' i j hi' hj' e
    · have hj' : j < n := hj
      rw [v2, v3, pc, pc, pe, ev]
      have bj := a6' j hj'
      by_cases h : j = k
      · subst h
        rw [if_pos rfl, if_pos rfl, ec]
        omega
      · rw [if_neg h, if_neg h]
        omega
theorem ctF_lo {s : Nat → Int32} {t N b : Nat} {x y : Int32} (hb : b < 39) : gt (ctF s t N x y) t b = gt s t b := by
  unfold ctF
  cases seatO (vH s t) N x with
  | some j => exact gt_n (by omega)
  | none => exact (gt_n (by omega)).trans ((gt_n (by omega)).trans ((gt_n (by omega)).trans (gt_n (by omega))))
theorem errC_in {S : StrM} {x y : Int32} (h : errC S x y = 0) : 1 ≤ y.toInt ∧ y.toInt ≤ 999 ∧ ¬ 99999 < sN S + y := by
  have e1 : Int32.toInt 1 = 1 := by decide +kernel
  have e9 : Int32.toInt 999 = 999 := by decide +kernel
  have z2 : ¬ (-2 : Int32) = 0 := by decide +kernel
  have z4 : ¬ (-4 : Int32) = 0 := by decide +kernel
  unfold errC at h
  by_cases h0 : isCd x = true
  · rw [if_pos h0] at h
    by_cases h1 : y < 1
    · rw [if_pos h1] at h
      exact absurd h z2
    · rw [if_neg h1] at h
      by_cases h2 : 999 < y
      · rw [if_pos h2] at h
        exact absurd h z2
      · rw [if_neg h2] at h
        by_cases h3 : 99999 < sN S + y
        · rw [if_pos h3] at h
          exact absurd h z4
        · have a1 := Int32.le_iff_toInt_le.mp (Int32.not_lt.mp h1)
          have a2 := Int32.le_iff_toInt_le.mp (Int32.not_lt.mp h2)
          exact ⟨by omega, by omega, h3⟩
  · rw [if_neg h0] at h
    exact absurd h z2
theorem tot_in {x y : Int32} (h0 : 0 ≤ x.toInt) (h1 : x.toInt ≤ 99999) (h2 : 0 ≤ y.toInt) (h3 : y.toInt ≤ 99999) (h : ¬ 99999 < x + y) : x.toInt + y.toInt ≤ 99999 := by
  have e9 : Int32.toInt 99999 = 99999 := by decide +kernel
  have := Int32.le_iff_toInt_le.mp (Int32.not_lt.mp h)
  rw [adv (by omega) (by omega) (by omega) (by omega)] at this
  omega
theorem come_RS {S : StrM} {s : Nat → Int32} {t : Nat} {x y : Int32} (r : RS S s t) (he : errC S x y = 0) : RS (comS S x y) (cmF s t (rT (sR S)) (tN (sT S)) (rS (sR S)) x y) t ∧ rS (sR (comS S x y)) = rS (sR S) := by
  obtain ⟨hw, hT, r3, r4, r5, r6, r7, r8, r9⟩ := r
  obtain ⟨y1, y2, y3⟩ := errC_in he
  rw [r6] at y3
  have htot := tot_in r8 r9 (by omega) (by omega) y3
  have hk : sefN (vR s t (rT (sR S)) (rS (sR S))) x = sefN (sR S) x := (w_sefN hw).symm
  obtain ⟨c1, c2, c3, c4, c5⟩ := come_row (x := x) hw r3 r8 y1 y2 htot
  have k12 : sefN (sR S) x < 12 := by
    have h1 := sef_cs (x := x) hw.1 hw.2.1
    have h2 := hw.1
    have h3 := hw.2.2.1
    rcases h1 with q | q | q <;> omega
  unfold cmF
  rw [hk]
  generalize hs2 : cmQ (cmP s t (rT (sR S)) (sefN (sR S) x) x) t (sefN (sR S) x) y = s2 at *
  have hi : ∀ b, 39 ≤ b → gt s2 t b = gt s t b := fun b hb => by rw [← hs2, cmQ_n hb k12, cmP_n hb k12]
  have eH : vH s2 t = vH s t := funext fun j => hi _ (by omega)
  have eD : vD s2 t = vD s t := funext fun j => hi _ (by omega)
  have s20 : s2 0 = s 0 := by
    rw [← hs2]
    unfold cmQ cmP
    rw [lay_0, lay_0]
    split
    · rw [lay_0, lay_0, lay_0, lay_0]
    · split
      · rfl
      · rw [lay_0, lay_0, lay_0]
  have hd : ((seg (pr2 (vH s2 t) (vD s2 t)) (tN (sT S)) 0).map Prod.fst).Nodup := by
    rw [eH, eD]
    exact t_nodup hT
  have ra := ref_add (x := x) (y := y) hd
  obtain ⟨t1, t2, t3, t4⟩ := hT
  have eN : tN (adT (sT S) x y) = ctN s2 t (tN (sT S)) x := ctN_eq rfl (by
    rw [eH]
    exact t_seatO ⟨t1, t2, t3, t4⟩)
  obtain ⟨ca, cb⟩ := cls_add (x := x) (y := y) t3 t4.1 (by omega) (by omega) (fun p hp => by have := t4.2 p hp; omega)
  have ev : (gt s t 0 + y).toInt = (gt s t 0).toInt + y.toInt := adv (by omega) (by omega) (by omega) (by omega)
  have lo := fun b (hb : b < 39) => ctF_lo (s := s2) (t := t) (N := tN (sT S)) (x := x) (y := y) hb
  have g39 : gt s2 t 39 = nI (tN (sT S)) := (hi 39 (by omega)).trans r4
  have f39 := ctF_39 (y := x) (z := y) g39
  have bN : tN (adT (sT S) x y) ≤ 60 := by
    have h1 := (errC_0 he t1).2
    unfold adT addT
    cases hq : seatO (tG (sT S)) (tN (sT S)) x with
    | none =>
      have := h1 hq
      show tN (sT S) + 1 ≤ 60
      omega
    | some k => exact t1
  have okn : okTL (tlT (adT (sT S) x y)) (gt (ctF s2 t (tN (sT S)) x y) t 0) := by
    rw [lo 0 (by omega), c4]
    refine ⟨(ca.map Prod.fst).symm.nodup (addL_nodup t4.1), fun p hp => ?_⟩
    rw [ev]
    refine addL_all (P := fun p => 1 ≤ p.2.toInt ∧ p.2.toInt ≤ (gt s t 0).toInt + y.toInt) (fun q hq _ => ?_) (fun q hq _ => ?_) ?_ p (ca.mem_iff.mp hp)
    · have := t4.2 q hq
      omega
    · have := t4.2 q hq
      show 1 ≤ (q.2 + y).toInt ∧ (q.2 + y).toInt ≤ _
      rw [adv (by omega) (by omega) (by omega) (by omega)]
      omega
    · show 1 ≤ y.toInt ∧ y.toInt ≤ _
      omega
  refine ⟨⟨?_, ⟨bN, ?_, cb, okn⟩, ?_, ?_, ?_, ?_, ?_, ?_, ?_⟩, c5⟩
  · refine RW_cg c1 (fun k hk2 => ?_) (lo 0 (by omega))
    have hk3 : k < 12 := by
      have q1 := c1.1
      have q2 := c1.2.2.1
      have q3 : k < rT (srvR (sR S) (sefN (sR S) x) x y).2 := hk2
      omega
    exact ⟨lo (3 + 3 * k) (by omega), lo (4 + 3 * k) (by omega), lo (5 + 3 * k) (by omega)⟩
  · show (seg _ (tN (adT (sT S) x y)) 0).Perm _
    rw [eN, ra, eH, eD]
    exact (addL_perm t2).trans ca.symm
  · rw [lo 1 (by omega)]
    exact c2
  · rw [f39, ← eN]
    rfl
  · rw [ctF_0, s20, r5]
    exact congrArg nI c5.symm
  · rw [lo 0 (by omega), c4, ← r6]
    rfl
  · rw [lo 2 (by omega), c3, ← r7]
    rfl
  · rw [lo 0 (by omega), c4, ev]
    omega
  · rw [lo 0 (by omega), c4, ev]
    omega
