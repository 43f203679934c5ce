/-! a coming keeps what holds -/
theorem errC_cd {S : StrM} {x y : Int32} (h : errC S x y = 0) : isCd x = true := by
  unfold errC at h
  by_cases h0 : isCd x = true
  · exact h0
  · rw [if_neg h0] at h
    exact absurd h (by decide +kernel)
/-- the seat that goes first has the least count -/
theorem gb_le {c e : Nat → Int32} {i j : Nat} : (gbN c e i j = true → (c i).toInt ≤ (c j).toInt) ∧ (¬ gbN c e i j = true → (c j).toInt ≤ (c i).toInt) := by
  unfold gbN
  by_cases h : c i = c j
  · rw [h]
    exact ⟨fun _ => Int.le_refl _, fun _ => Int.le_refl _⟩
  · rw [if_neg h]
    refine ⟨fun q => ?_, fun q => ?_⟩
    · have := Int32.lt_iff_toInt_lt.mp (of_decide_eq_true q)
      omega
    · have := Int32.le_iff_toInt_le.mp (Int32.not_lt.mp (fun r => q (decide_eq_true r)))
      omega
theorem ftg_fold {c e : Nat → Int32} : ∀ n k b, (∀ i, i < k → (c b).toInt ≤ (c i).toInt) → ∀ i, i < k + n → (c (fold (fun b k => if gbN c e k b = true then k else b) n k b)).toInt ≤ (c i).toInt := by
  intro n
  induction n with
  | zero => intro k b h i hi; exact h i (by omega)
  | succ n ih =>
    intro k b h i hi
    unfold fold
    refine ih (k + 1) _ (fun j hj => ?_) i (by omega)
    by_cases hg : gbN c e k b = true
    · rw [if_pos hg]
      have := gb_le.1 hg
      by_cases e2 : j = k
      · rw [e2]; exact Int.le_refl _
      · have := h j (by omega)
        omega
    · rw [if_neg hg]
      have := gb_le.2 hg
      by_cases e2 : j = k
      · rw [e2]; exact this
      · exact h j (by omega)
theorem ftg_le {c e : Nat → Int32} {t i : Nat} (hi : i < t) : (c (ftgN c e t)).toInt ≤ (c i).toInt := by
  unfold ftgN
  refine ftg_fold (t - 1) 1 0 (fun j hj => ?_) i (by omega)
  have : j = 0 := by omega
  subst this
  exact Int.le_refl _
theorem sef_c3 {ρ : RowM} {x : Int32} (hn : rT ρ ≤ rS ρ) (h1 : 1 ≤ rS ρ) : (sefN ρ x < rT ρ ∧ rG ρ (sefN ρ x) = x) ∨ (sefN ρ x = rT ρ ∧ rT ρ < rS ρ ∧ ∀ j, j < rT ρ → rG ρ j ≠ x) ∨ (sefN ρ x < rT ρ ∧ ¬ rT ρ < rS ρ ∧ (∀ j, j < rT ρ → rG ρ j ≠ x) ∧ ∀ i, i < rT ρ → (rC ρ (sefN ρ x)).toInt ≤ (rC ρ i).toInt) := by
  unfold sefN
  cases h : seatO (rG ρ) (rT ρ) x with
  | some k => exact Or.inl (seatO_lt h)
  | none =>
    have hno : ∀ j, j < rT ρ → rG ρ j ≠ x := fun j hj e => seatO_no.mp h (by
      rw [← e]
      exact seg_in (by omega) (by omega))
    dsimp only
    by_cases h2 : rT ρ < rS ρ
    · rw [if_pos h2]
      exact Or.inr (Or.inl ⟨rfl, h2, hno⟩)
    · rw [if_neg h2]
      have := ftgN_lt (c := rC ρ) (e := rE ρ) (show 0 < rT ρ by omega)
      exact Or.inr (Or.inr ⟨this, h2, hno, fun i hi => ftg_le hi⟩)
theorem fold_snoc {α : Type} {f : α → Nat → α} : ∀ d k x, fold f (d + 1) k x = f (fold f d k x) (k + d)
  | 0, _, _ => rfl
  | d + 1, k, x => by
    show fold f (d + 1) (k + 1) (f x k) = f (fold f d (k + 1) (f x k)) (k + (d + 1))
    rw [fold_snoc d (k + 1), show k + 1 + d = k + (d + 1) by omega]
theorem sm_upd {c : Nat → Int32} {y : Int32} {j : Nat} : ∀ t, j < t → smR (upd c j (c j + y)) t = smR c t + y := by
  intro t
  induction t with
  | zero => intro h; omega
  | succ t ih =>
    intro h
    unfold smR
    rw [fold_snoc, fold_snoc, Nat.zero_add]
    by_cases e : j = t
    · subst e
      rw [upd_at, fold_cg (g := fun a k => a + c k) j 0 0 (fun a i h1 h2 => by rw [upd_n (by omega)]), Int32.add_assoc]
    · have := ih (by omega)
      unfold smR at this
      rw [this, upd_n (by omega), Int32.add_assoc, Int32.add_comm y, ← Int32.add_assoc]
/-- a row behind a coming -/
theorem come_R {ρ : RowM} {tot : Int} {x y : Int32} {tr tr2 : Int32 → Int} (h : RB ρ tot) (h0 : 0 ≤ tot) (hx : isCd x = true) (hy1 : 1 ≤ y.toInt) (htot : tot + y.toInt ≤ 99999) (hnn : ∀ z, 0 ≤ tr z) (htr : ∀ z, tr2 z = if z = x then tr x + y.toInt else tr z) : RB (srvR ρ (sefN ρ x) x y).2 (tot + y.toInt) ∧ rS (srvR ρ (sefN ρ x) x y).2 = rS ρ ∧ smR (rC (srvR ρ (sefN ρ x) x y).2) (rT (srvR ρ (sefN ρ x) x y).2) = smR (rC ρ) (rT ρ) + y ∧ (BX (rG ρ) (rC ρ) (rE ρ) (rT ρ) tr → BZ (rG ρ) (rS ρ) (rT ρ) tr → BX (rG (srvR ρ (sefN ρ x) x y).2) (rC (srvR ρ (sefN ρ x) x y).2) (rE (srvR ρ (sefN ρ x) x y).2) (rT (srvR ρ (sefN ρ x) x y).2) tr2 ∧ BZ (rG (srvR ρ (sefN ρ x) x y).2) (rS (srvR ρ (sefN ρ x) x y).2) (rT (srvR ρ (sefN ρ x) x y).2) tr2) := by
  obtain ⟨a1, a2, a3, a4, a5⟩ := h
  have hc := sef_c3 (x := x) a1 a2
  generalize sefN ρ x = k at *
  obtain ⟨G, C, E, Q, n⟩ := ρ
  have a1' : n ≤ Q := a1
  have a2' : 1 ≤ Q := a2
  have a3' : Q ≤ 12 := a3
  have a4' : ∀ i j, i < n → j < n → G i = G j → i = j := a4
  have a5' : ∀ k, k < n → isCd (G k) = true ∧ 0 ≤ (E k).toInt ∧ (E k).toInt ≤ (C k).toInt ∧ 1 ≤ (C k).toInt ∧ (C k).toInt ≤ tot := a5
  clear a1 a2 a3 a4 a5
  have hc' : (k < n ∧ G k = x) ∨ (k = n ∧ n < Q ∧ ∀ j, j < n → G j ≠ x) ∨ (k < n ∧ ¬ n < Q ∧ (∀ j, j < n → G j ≠ x) ∧ ∀ i, i < n → (C k).toInt ≤ (C i).toInt) := hc
  clear hc
  show RB (srvR (G, C, E, Q, n) k x y).2 (tot + y.toInt) ∧ rS (srvR (G, C, E, Q, n) k x y).2 = Q ∧ smR (rC (srvR (G, C, E, Q, n) k x y).2) (rT (srvR (G, C, E, Q, n) k x y).2) = smR C n + y ∧ (BX G C E n tr → BZ G Q n tr → BX (rG (srvR (G, C, E, Q, n) k x y).2) (rC (srvR (G, C, E, Q, n) k x y).2) (rE (srvR (G, C, E, Q, n) k x y).2) (rT (srvR (G, C, E, Q, n) k x y).2) tr2 ∧ BZ (rG (srvR (G, C, E, Q, n) k x y).2) (rS (srvR (G, C, E, Q, n) k x y).2) (rT (srvR (G, C, E, Q, n) k x y).2) tr2)
  rcases hc' with ⟨c1, c2⟩ | ⟨c1, c2, c3⟩ | ⟨c1, c4, c3, c5⟩
  · have hs : srvR (G, C, E, Q, n) k x y = (false, G, upd C k (C k + y), E, Q, n) := by
      unfold srvR
      show (if k < n then (if G k = x then _ else _) else _) = _
      rw [if_pos c1, if_pos c2]
    rw [hs]
    have b := a5' k c1
    have ec : (C k + y).toInt = (C k).toInt + y.toInt := adv (by omega) (by omega) (by omega) (by omega)
    have vc : ∀ j, (upd C k (C k + y) j).toInt = if j = k then (C k).toInt + y.toInt else (C j).toInt := fun j => by
      by_cases e : j = k
      · subst e
        rw [upd_at, if_pos rfl, ec]
      · rw [upd_n e, if_neg e]
    refine ⟨⟨a1', a2', a3', a4', fun j hj => ?_⟩, rfl, sm_upd n c1, fun b1 b2 => ⟨⟨fun j hj => ?_, fun z hz j hj => ?_⟩, fun hq z hz => ?_⟩⟩
    · have hj' : j < n := hj
      have := a5' j hj'
      show isCd (G j) = true ∧ 0 ≤ (E j).toInt ∧ (E j).toInt ≤ (upd C k (C k + y) j).toInt ∧ 1 ≤ (upd C k (C k + y) j).toInt ∧ (upd C k (C k + y) j).toInt ≤ _
      rw [vc]
      by_cases e : j = k
      · subst e
        rw [if_pos rfl]
        exact ⟨this.1, by omega, by omega, by omega, by omega⟩
      · rw [if_neg e]
        exact ⟨this.1, by omega, by omega, by omega, by omega⟩
    · have hj' : j < n := hj
      have := b1.1 j hj'
      show (upd C k (C k + y) j).toInt - (E j).toInt ≤ tr2 (G j) ∧ tr2 (G j) ≤ (upd C k (C k + y) j).toInt
      rw [vc, htr]
      by_cases e : j = k
      · subst e
        rw [if_pos rfl, if_pos c2]
        rw [c2] at this
        omega
      · rw [if_neg e, if_neg (fun q => e (a4' j k hj' c1 (q.trans c2.symm)))]
        exact this
    · have hj' : j < n := hj
      have hz' : ∀ i, i < n → G i ≠ z := hz
      show tr2 z ≤ (upd C k (C k + y) j).toInt
      have := b1.2 z hz' j hj'
      rw [vc, htr, if_neg (fun q => hz' k c1 (c2.trans q.symm))]
      by_cases e : j = k
      · subst e
        rw [if_pos rfl]
        omega
      · rw [if_neg e]
        exact this
    · have hz' : ∀ i, i < n → G i ≠ z := hz
      rw [htr, if_neg (fun q => hz' k c1 (c2.trans q.symm))]
      exact b2 hq z hz'
  · subst c1
    have hs : srvR (G, C, E, Q, k) k x y = (false, upd G k x, upd C k y, upd E k 0, Q, k + 1) := by
      unfold srvR appR
      show (if k < k then _ else (false, if k < Q then _ else _)) = _
      rw [if_neg (Nat.lt_irrefl k), if_pos c2]
    rw [hs]
    have old : ∀ j, j < k + 1 → j ≠ k → j < k := fun j h1 h2 => by omega
    refine ⟨⟨by show k + 1 ≤ Q; omega, a2', a3', fun i j hi hj e => ?_, fun j hj => ?_⟩, rfl, ?_, fun b1 b2 => ⟨⟨fun j hj => ?_, fun z hz j hj => ?_⟩, fun hq z hz => ?_⟩⟩
    · have hi' : i < k + 1 := hi
      have hj' : j < k + 1 := hj
      have e' : upd G k x i = upd G k x j := e
      by_cases h1 : i = k
      · by_cases h2 : j = k
        · omega
        · rw [h1, upd_at, upd_n h2] at e'
          exact absurd e'.symm (c3 j (old j hj' h2))
      · by_cases h2 : j = k
        · rw [h2, upd_at, upd_n h1] at e'
          exact absurd e' (c3 i (old i hi' h1))
        · rw [upd_n h1, upd_n h2] at e'
          exact a4' i j (old i hi' h1) (old j hj' h2) e'
    · have hj' : j < k + 1 := hj
      show isCd (upd G k x j) = true ∧ 0 ≤ (upd E k 0 j).toInt ∧ (upd E k 0 j).toInt ≤ (upd C k y j).toInt ∧ 1 ≤ (upd C k y j).toInt ∧ (upd C k y j).toInt ≤ _
      by_cases h1 : j = k
      · rw [h1, upd_at, upd_at, upd_at, z_int]
        exact ⟨hx, by omega, by omega, by omega, by omega⟩
      · rw [upd_n h1, upd_n h1, upd_n h1]
        have := a5' j (old j hj' h1)
        exact ⟨this.1, by omega, by omega, by omega, by omega⟩
    · show smR (upd C k y) (k + 1) = _
      unfold smR
      rw [fold_snoc, Nat.zero_add, upd_at, fold_cg (g := fun a k => a + C k) k 0 0 (fun a i h1 h2 => by rw [upd_n (by omega)])]
    · have hj' : j < k + 1 := hj
      show (upd C k y j).toInt - (upd E k 0 j).toInt ≤ tr2 (upd G k x j) ∧ tr2 (upd G k x j) ≤ (upd C k y j).toInt
      have hx0 := b2 c2 x c3
      by_cases h1 : j = k
      · rw [h1, upd_at, upd_at, upd_at, htr, if_pos rfl, hx0, z_int]
        omega
      · rw [upd_n h1, upd_n h1, upd_n h1, htr, if_neg (c3 j (old j hj' h1))]
        exact b1.1 j (old j hj' h1)
    · have hj' : j < k + 1 := hj
      show tr2 z ≤ (upd C k y j).toInt
      have hzx : z ≠ x := fun q => hz k (by show k < k + 1; omega) (by show upd G k x k = z; rw [upd_at, q])
      have hz' : ∀ i, i < k → G i ≠ z := fun i hi q => hz i (by show i < k + 1; omega) (by show upd G k x i = z; rw [upd_n (by omega)]; exact q)
      rw [htr, if_neg hzx, b2 c2 z hz']
      by_cases h1 : j = k
      · rw [h1, upd_at]
        omega
      · rw [upd_n h1]
        have := a5' j (old j hj' h1)
        omega
    · have hzx : z ≠ x := fun q => hz k (by show k < k + 1; omega) (by show upd G k x k = z; rw [upd_at, q])
      have hz' : ∀ i, i < k → G i ≠ z := fun i hi q => hz i (by show i < k + 1; omega) (by show upd G k x i = z; rw [upd_n (by omega)]; exact q)
      rw [htr, if_neg hzx]
      exact b2 c2 z hz'
  · have hs : srvR (G, C, E, Q, n) k x y = (true, upd G k x, upd C k (C k + y), upd E k (C k), Q, n) := by
      unfold srvR
      show (if k < n then (if G k = x then _ else _) else _) = _
      rw [if_pos c1, if_neg (c3 k c1)]
    rw [hs]
    have b := a5' k c1
    have ec : (C k + y).toInt = (C k).toInt + y.toInt := adv (by omega) (by omega) (by omega) (by omega)
    have vc : ∀ j, (upd C k (C k + y) j).toInt = if j = k then (C k).toInt + y.toInt else (C j).toInt := fun j => by
      by_cases e : j = k
      · subst e
        rw [upd_at, if_pos rfl, ec]
      · rw [upd_n e, if_neg e]
    refine ⟨⟨a1', a2', a3', fun i j hi hj e => ?_, fun j hj => ?_⟩, rfl, sm_upd n c1, fun b1 b2 => ⟨⟨fun j hj => ?_, fun z hz j hj => ?_⟩, fun hq => absurd hq c4⟩⟩
    · have hi' : i < n := hi
      have hj' : j < n := hj
      have e' : upd G k x i = upd G k x j := e
      by_cases h1 : i = k
      · by_cases h2 : j = k
        · omega
        · rw [h1, upd_at, upd_n h2] at e'
          exact absurd e'.symm (c3 j hj')
      · by_cases h2 : j = k
        · rw [h2, upd_at, upd_n h1] at e'
          exact absurd e' (c3 i hi')
        · rw [upd_n h1, upd_n h2] at e'
          exact a4' i j hi' hj' e'
    · have hj' : j < n := hj
      have bj := a5' j hj'
      show isCd (upd G k x j) = true ∧ 0 ≤ (upd E k (C k) j).toInt ∧ (upd E k (C k) j).toInt ≤ (upd C k (C k + y) j).toInt ∧ 1 ≤ (upd C k (C k + y) j).toInt ∧ (upd C k (C k + y) j).toInt ≤ _
      rw [vc]
      by_cases h1 : j = k
      · rw [h1, upd_at, upd_at, if_pos rfl]
        exact ⟨hx, by omega, by omega, by omega, by omega⟩
      · rw [upd_n h1, upd_n h1, if_neg h1]
        exact ⟨bj.1, by omega, by omega, by omega, by omega⟩
    · have hj' : j < n := hj
      have hx1 := b1.2 x c3 k c1
      have hx2 := hnn x
      show (upd C k (C k + y) j).toInt - (upd E k (C k) j).toInt ≤ tr2 (upd G k x j) ∧ tr2 (upd G k x j) ≤ (upd C k (C k + y) j).toInt
      rw [vc]
      by_cases h1 : j = k
      · rw [h1, upd_at, upd_at, if_pos rfl, htr, if_pos rfl]
        omega
      · rw [upd_n h1, upd_n h1, if_neg h1, htr, if_neg (c3 j hj')]
        exact b1.1 j hj'
    · have hj' : j < n := hj
      have hzx : z ≠ x := fun q => hz k c1 (by show upd G k x k = z; rw [upd_at, q])
      show tr2 z ≤ (upd C k (C k + y) j).toInt
      rw [vc, htr, if_neg hzx]
      have key : tr z ≤ (C j).toInt := by
        by_cases hk : G k = z
        · have h1 := (b1.1 k c1).2
          rw [hk] at h1
          have := c5 j hj'
          omega
        · refine b1.2 z (fun i hi q => ?_) j hj'
          by_cases h1 : i = k
          · rw [h1] at q
            exact hk q
          · exact hz i hi (by show upd G k x i = z; rw [upd_n h1]; exact q)
      by_cases h1 : j = k
      · rw [if_pos h1]
        rw [h1] at key
        omega
      · rw [if_neg h1]
        exact key
/-- the true counts behind a coming -/
theorem come_T {τ : TalM} {tot : Int} {x y : Int32} (h : TB τ tot) (h0 : 0 ≤ tot) (hx : isCd x = true) (hy1 : 1 ≤ y.toInt) (htot : tot + y.toInt ≤ 99999) (hc : seatO (tG τ) (tN τ) x = none → tN τ < 60) : TB (adT τ x y) (tot + y.toInt) ∧ ∀ z, trT (adT τ x y) z = if z = x then trT τ x + y.toInt else trT τ z := by
  obtain ⟨t1, t2, t3, t4⟩ := id h
  obtain ⟨ca, cb⟩ := cls_add (x := x) (y := y) t2 t3 (by omega) (by omega) (fun p hp => by have := t4 p hp; omega)
  have hn : ((tlT (adT τ x y)).map Prod.fst).Nodup := (ca.map Prod.fst).symm.nodup (addL_nodup t3)
  refine ⟨⟨?_, cb, hn, fun p hp => ?_⟩, fun z => ?_⟩
  · unfold adT addT
    cases hq : seatO (tG τ) (tN τ) x with
    | none =>
      have := hc hq
      show tN τ + 1 ≤ 60
      omega
    | some k => exact t1
  · refine addL_all (P := fun p => isCd p.1 = true ∧ 1 ≤ p.2.toInt ∧ p.2.toInt ≤ tot + y.toInt) (fun q hq _ => ?_) (fun q hq _ => ?_) ?_ p (ca.mem_iff.mp hp)
    · have := t4 q hq
      exact ⟨this.1, by omega, by omega⟩
    · have := t4 q hq
      show isCd x = true ∧ 1 ≤ (q.2 + y).toInt ∧ (q.2 + y).toInt ≤ _
      rw [adv (by omega) (by omega) (by omega) (by omega)]
      exact ⟨hx, by omega, by omega⟩
    · show isCd x = true ∧ 1 ≤ y.toInt ∧ y.toInt ≤ _
      exact ⟨hx, by omega, by omega⟩
  · rw [tr_perm ca hn, lk_add]
    have := tr_nn h h0 x
    unfold trT at this ⊢
    by_cases e : z = x
    · rw [if_pos e, if_pos e, adv (by omega) (by omega) (by omega) (by omega)]
    · rw [if_neg e, if_neg e]
theorem come_S {S : StrM} {x y : Int32} (h : SB S) (he : errC S x y = 0) : SB (comS S x y) ∧ rS (sR (comS S x y)) = rS (sR S) ∧ (BT S → BT (comS S x y)) ∧ (SM S → SM (comS S x y)) := by
  obtain ⟨s1, s2, s3, s4⟩ := h
  obtain ⟨y1, y2, y3⟩ := errC_in he
  have hx := errC_cd he
  have htot := tot_in s1 s2 (by omega) (by omega) y3
  have ev : (sN S + y).toInt = (sN S).toInt + y.toInt := adv (by omega) (by omega) (by omega) (by omega)
  obtain ⟨q1, q2⟩ := come_T s4 s1 hx y1 htot (errC_0 he s4.1).2
  obtain ⟨r1, r2, r3, r4⟩ := come_R (tr := trT (sT S)) (tr2 := trT (adT (sT S) x y)) s3 s1 hx y1 htot (fun z => (tr_nn s4 s1 z).1) q2
  refine ⟨⟨?_, ?_, ?_, ?_⟩, r2, fun b => r4 b.1 b.2, fun m => ?_⟩
  · show 0 ≤ (sN S + y).toInt
    omega
  · show (sN S + y).toInt ≤ 99999
    omega
  · show RB _ (sN S + y).toInt
    rw [ev]
    exact r1
  · show TB _ (sN S + y).toInt
    rw [ev]
    exact q1
  · show smR _ _ = sN S + y
    refine r3.trans ?_
    rw [show smR (rC (sR S)) (rT (sR S)) = sN S from m]
