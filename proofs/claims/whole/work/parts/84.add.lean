/-! a true count more: the class's table and the reference's -/
theorem adv {x y : Int32} (h1 : -1000000000 ≤ x.toInt) (h2 : x.toInt ≤ 1000000000) (h3 : -1000000000 ≤ y.toInt) (h4 : y.toInt ≤ 1000000000) : (x + y).toInt = x.toInt + y.toInt := by
  rw [Int32.toInt_add]
  exact Int.bmod_eq_of_le (by omega) (by omega)
def bmp (x y : Int32) (p : P2) : P2 := if p.1 = x then (p.1, p.2 + y) else p
def addL (x y : Int32) (L : List P2) : List P2 := if x ∈ L.map Prod.fst then L.map (bmp x y) else L ++ [(x, y)]
theorem bmp_1 {x y : Int32} {p : P2} : (bmp x y p).1 = p.1 := by
  unfold bmp
  split <;> rfl
theorem addL_in {x y : Int32} {L : List P2} (h : x ∈ L.map Prod.fst) : addL x y L = L.map (bmp x y) := if_pos h
theorem addL_no {x y : Int32} {L : List P2} (h : x ∉ L.map Prod.fst) : addL x y L = L ++ [(x, y)] := if_neg h
theorem addL_perm {x y : Int32} {L L' : List P2} (h : L.Perm L') : (addL x y L).Perm (addL x y L') := by
  by_cases hx : x ∈ L.map Prod.fst
  · rw [addL_in hx, addL_in ((h.map Prod.fst).mem_iff.mp hx)]
    exact h.map _
  · rw [addL_no hx, addL_no (fun q => hx ((h.map Prod.fst).mem_iff.mpr q))]
    exact h.append_right _
theorem bmp_keys {x y : Int32} {L : List P2} : (L.map (bmp x y)).map Prod.fst = L.map Prod.fst := by
  rw [List.map_map]
  exact List.map_congr_left (fun p _ => bmp_1)
theorem addL_keys {x y : Int32} {L : List P2} : (addL x y L).map Prod.fst = if x ∈ L.map Prod.fst then L.map Prod.fst else L.map Prod.fst ++ [x] := by
  by_cases hx : x ∈ L.map Prod.fst
  · rw [addL_in hx, if_pos hx, bmp_keys]
  · rw [addL_no hx, if_neg hx, List.map_append]
    rfl
theorem addL_mem {x y z : Int32} {L : List P2} : z ∈ (addL x y L).map Prod.fst ↔ z = x ∨ z ∈ L.map Prod.fst := by
  rw [addL_keys]
  by_cases hx : x ∈ L.map Prod.fst
  · rw [if_pos hx]
    exact ⟨Or.inr, fun q => q.elim (fun e => (by rw [e]; exact hx)) id⟩
  · rw [if_neg hx, List.mem_append, List.mem_singleton]
    exact ⟨fun q => q.elim Or.inr Or.inl, fun q => q.elim Or.inr Or.inl⟩
theorem addL_nodup {x y : Int32} {L : List P2} (h : (L.map Prod.fst).Nodup) : ((addL x y L).map Prod.fst).Nodup := by
  rw [addL_keys]
  by_cases hx : x ∈ L.map Prod.fst
  · rw [if_pos hx]; exact h
  · rw [if_neg hx]
    refine List.nodup_append.mpr ⟨h, List.nodup_cons.mpr ⟨fun q => (by cases q), List.Pairwise.nil⟩, fun a ha b hb => ?_⟩
    rw [List.mem_singleton] at hb
    rw [hb]
    exact fun e => hx (e ▸ ha)
theorem addL_len {x y : Int32} {L : List P2} : (addL x y L).length = if x ∈ L.map Prod.fst then L.length else L.length + 1 := by
  by_cases hx : x ∈ L.map Prod.fst
  · rw [addL_in hx, if_pos hx, List.length_map]
  · rw [addL_no hx, if_neg hx, List.length_append]
    rfl
theorem addL_all {x y : Int32} {L : List P2} {P : P2 → Prop} (h1 : ∀ p, p ∈ L → p.1 ≠ x → P p) (h2 : ∀ p, p ∈ L → p.1 = x → P (x, p.2 + y)) (h3 : P (x, y)) : ∀ p, p ∈ addL x y L → P p := by
  intro p hp
  by_cases hx : x ∈ L.map Prod.fst
  · rw [addL_in hx] at hp
    obtain ⟨q, hq, e⟩ := List.mem_map.mp hp
    unfold bmp at e
    by_cases hq1 : q.1 = x
    · rw [if_pos hq1] at e
      subst e
      have := h2 q hq hq1
      rw [hq1]
      exact this
    · rw [if_neg hq1] at e
      subst e
      exact h1 q hq hq1
  · rw [addL_no hx] at hp
    rcases List.mem_append.mp hp with q | q
    · exact h1 p q (fun e => hx (List.mem_map.mpr ⟨p, q, e⟩))
    · rw [List.mem_singleton] at q
      subst q
      exact h3
theorem keys_inj {g c : Nat → Int32} {n : Nat} (h : ((seg (pr2 g c) n 0).map Prod.fst).Nodup) : ∀ i j, i < n → j < n → g i = g j → i = j := by
  rw [keys_seg] at h
  have key : ∀ d k, (seg g d k).Nodup → ∀ i j, k ≤ i → i < j → j < k + d → g i ≠ g j := by
    intro d
    induction d with
    | zero => intro k _ i j _ _ _; omega
    | succ d ih =>
      intro k hn i j h1 h2 h3 e
      unfold seg at hn
      obtain ⟨n1, n2⟩ := List.nodup_cons.mp hn
      by_cases hi : i = k
      · subst hi
        exact n1 (by rw [e]; exact seg_in (by omega) (by omega))
      · exact ih (k + 1) n2 i j (by omega) h2 (by omega) e
  intro i j hi hj e
  by_cases h1 : i = j
  · exact h1
  · exfalso
    by_cases h2 : i < j
    · exact key n 0 h i j (by omega) h2 (by omega) e
    · exact key n 0 h j i (by omega) (by omega) (by omega) e.symm
theorem bmp_seg {g c : Nat → Int32} {n k : Nat} {x y : Int32} (hd : ∀ i j, i < n → j < n → g i = g j → i = j) (hk : k < n) (hg : g k = x) : (seg (pr2 g c) n 0).map (bmp x y) = seg (pr2 g (upd c k (c k + y))) n 0 := by
  rw [seg_map]
  refine seg_congr n 0 (fun j _ h2 => ?_)
  unfold bmp pr2
  by_cases e : j = k
  · subst e
    rw [if_pos hg, upd_at]
  · rw [if_neg (fun q => e (hd j k (by omega) hk (q.trans hg.symm))), upd_n e]
theorem seat_key {g c : Nat → Int32} {n k : Nat} {x : Int32} (h : seatO g n x = some k) : x ∈ (seg (pr2 g c) n 0).map Prod.fst := by
  obtain ⟨h1, h2⟩ := seatO_lt h
  rw [keys_seg, ← h2]
  exact seg_in (by omega) (by omega)
theorem seat_nokey {g c : Nat → Int32} {n : Nat} {x : Int32} (h : seatO g n x = none) : x ∉ (seg (pr2 g c) n 0).map Prod.fst := by
  rw [keys_seg]
  exact seatO_no.mp h
/-- the reference's table -/
theorem ref_add {s : Nat → Int32} {t N : Nat} {x y : Int32} (hd : ((seg (pr2 (vH s t) (vD s t)) N 0).map Prod.fst).Nodup) : seg (pr2 (vH (ctF s t N x y) t) (vD (ctF s t N x y) t)) (ctN s t N x) 0 = addL x y (seg (pr2 (vH s t) (vD s t)) N 0) := by
  unfold ctF ctN
  cases hs : seatO (vH s t) N x with
  | some j =>
    obtain ⟨h1, h2⟩ := seatO_lt hs
    rw [addL_in (seat_key hs), bmp_seg (keys_inj hd) h1 h2]
    refine seg_congr N 0 (fun k _ hk => ?_)
    show (gt _ t (40 + 2 * k), gt _ t (41 + 2 * k)) = (gt s t (40 + 2 * k), upd (vD s t) j (vD s t j + y) k)
    rw [gt_n (by omega)]
    by_cases e : k = j
    · subst e
      rw [gt_s, upd_at]
      rfl
    · rw [gt_n (by omega), upd_n e]
      rfl
  | none =>
    rw [addL_no (seat_nokey hs)]
    show seg _ (N + 1) 0 = _
    rw [seg_snoc, Nat.zero_add]
    congr 1
    · refine seg_congr N 0 (fun k _ hk => ?_)
      show (gt _ t (40 + 2 * k), gt _ t (41 + 2 * k)) = (gt s t (40 + 2 * k), gt s t (41 + 2 * k))
      rw [gt_n (by omega), gt_n (by omega), gt_n (by omega), gt_n (by omega), gt_n (by omega), gt_n (by omega), gt_n (by omega), gt_n (by omega)]
    · show [(gt _ t (40 + 2 * N), gt _ t (41 + 2 * N))] = [(x, y)]
      rw [gt_s, gt_n (by omega), gt_n (by omega), gt_n (by omega), gt_s, gt_n (by omega), gt_s, Int32.zero_add]
/-- the class's table -/
theorem ctN_eq {τ : TalM} {s : Nat → Int32} {t N : Nat} {x y : Int32} (hN : tN τ = N) (h : (seatO (tG τ) (tN τ) x = none) = (seatO (vH s t) N x = none)) : tN (adT τ x y) = ctN s t N x := by
  unfold adT addT ctN
  cases h1 : seatO (tG τ) (tN τ) x with
  | none =>
    rw [h1] at h
    rw [h.mp rfl]
    show tN τ + 1 = _
    rw [hN]
  | some k =>
    cases h2 : seatO (vH s t) N x with
    | none =>
      rw [h1, h2] at h
      cases h.mpr rfl
    | some j => exact hN
theorem cls_add {τ : TalM} {x y : Int32} (hs : srtT (tlT τ)) (hd : ((tlT τ).map Prod.fst).Nodup) (hy : 0 < y.toInt) (hy2 : y.toInt ≤ 200000) (hb : ∀ p, p ∈ tlT τ → 0 ≤ p.2.toInt ∧ p.2.toInt ≤ 200000) : (tlT (adT τ x y)).Perm (addL x y (tlT τ)) ∧ srtT (tlT (adT τ x y)) := by
  obtain ⟨g, c, n⟩ := τ
  show (seg (pr2 (addT g c n x y).1 (addT g c n x y).2.1) (addT g c n x y).2.2 0).Perm (addL x y (seg (pr2 g c) n 0)) ∧ (seg (pr2 (addT g c n x y).1 (addT g c n x y).2.1) (addT g c n x y).2.2 0).Pairwise (fun a b => tlB a b = true)
  have hs' : (seg (pr2 g c) n 0).Pairwise (fun a b => tlB a b = true) := hs
  have hd' : ((seg (pr2 g c) n 0).map Prod.fst).Nodup := hd
  have hb' : ∀ p, p ∈ seg (pr2 g c) n 0 → 0 ≤ p.2.toInt ∧ p.2.toInt ≤ 200000 := hb
  unfold addT
  cases hk : seatO g n x with
  | none =>
    have hx := seat_nokey (c := c) hk
    rw [addL_no hx]
    show (seg (pr2 (muF x y n (upd g n x, upd c n y)).1 (muF x y n (upd g n x, upd c n y)).2) (n + 1) 0).Perm _ ∧ (seg (pr2 (muF x y n (upd g n x, upd c n y)).1 (muF x y n (upd g n x, upd c n y)).2) (n + 1) 0).Pairwise _
    rw [(muF_seg n (upd g n x, upd c n y)).1]
    have e1 : insE tlB (pr2 (upd g n x) (upd c n y)) (x, y) n = insE tlB (pr2 g c) (x, y) n := insE_congr n (fun j hj => by
      unfold pr2
      rw [upd_n (by omega), upd_n (by omega)])
    show (insE tlB (pr2 (upd g n x) (upd c n y)) (x, y) n).Perm _ ∧ _
    rw [e1]
    refine ⟨(insE_perm n).trans (List.perm_append_comm (l₁ := [(x, y)]) (l₂ := seg (pr2 g c) n 0)), insE_srt tlB_lin n hs' (fun j hj e => hx ?_)⟩
    rw [keys_seg]
    have : g j = x := congrArg (fun p : P2 => p.1) e.symm
    rw [← this]
    exact seg_in (by omega) (by omega)
  | some k =>
    obtain ⟨h1, h2⟩ := seatO_lt hk
    have inj := keys_inj hd'
    rw [addL_in (seat_key hk), bmp_seg inj h1 h2]
    dsimp only
    generalize hc' : upd c k (c k + y) = c'
    have ck : c' k = c k + y := by rw [← hc', upd_at]
    have cn : ∀ j, j ≠ k → c' j = c j := fun j hj => by rw [← hc', upd_n hj]
    have hcut : ∀ (f : Nat → P2), seg f n 0 = seg f k 0 ++ f k :: seg f (n - (k + 1)) (k + 1) := fun f => by
      rw [show n = k + ((n - (k + 1)) + 1) by omega, seg_app k _ 0, Nat.zero_add]
      congr 1
      rw [show k + (n - (k + 1) + 1) - (k + 1) = n - (k + 1) by omega]
      rfl
    obtain ⟨m1, m2⟩ := muF_seg (x := g k) (y := c k + y) k (g, c')
    have hnew : seg (pr2 (muF (g k) (c k + y) k (g, c')).1 (muF (g k) (c k + y) k (g, c')).2) n 0 = insE tlB (pr2 g c) (g k, c k + y) k ++ seg (pr2 g c) (n - (k + 1)) (k + 1) := by
      rw [show n = (k + 1) + (n - (k + 1)) by omega, seg_app (k + 1) _ 0, m1]
      congr 1
      · exact insE_congr k (fun j hj => by
          show (g j, c' j) = (g j, c j)
          rw [cn j (by omega)])
      · rw [show k + 1 + (n - (k + 1)) - (k + 1) = n - (k + 1) by omega, Nat.zero_add]
        refine seg_congr _ _ (fun j q1 q2 => ?_)
        rw [m2 j (by omega)]
        show (g j, c' j) = (g j, c j)
        rw [cn j (by omega)]
    show (seg (pr2 (muF (g k) (c k + y) k (g, c')).1 (muF (g k) (c k + y) k (g, c')).2) n 0).Perm (seg (pr2 g c') n 0) ∧ (seg (pr2 (muF (g k) (c k + y) k (g, c')).1 (muF (g k) (c k + y) k (g, c')).2) n 0).Pairwise _
    rw [hnew]
    have hold := hcut (pr2 g c)
    rw [hold] at hs'
    obtain ⟨p1, p2, p3⟩ := List.pairwise_append.mp hs'
    obtain ⟨p4, p5⟩ := List.pairwise_cons.mp p2
    constructor
    · rw [hcut (pr2 g c')]
      have e1 : seg (pr2 g c') k 0 = seg (pr2 g c) k 0 := seg_congr k 0 (fun j _ q2 => by
        show (g j, c' j) = (g j, c j)
        rw [cn j (by omega)])
      have e2 : seg (pr2 g c') (n - (k + 1)) (k + 1) = seg (pr2 g c) (n - (k + 1)) (k + 1) := seg_congr _ _ (fun j q1 q2 => by
        show (g j, c' j) = (g j, c j)
        rw [cn j (by omega)])
      have e3 : pr2 g c' k = (g k, c k + y) := by
        unfold pr2
        rw [ck]
      rw [e1, e2, e3]
      have := (insE_perm (B := tlB) (f := pr2 g c) (x := (g k, c k + y)) k).append_right (seg (pr2 g c) (n - (k + 1)) (k + 1))
      rw [List.cons_append] at this
      exact this.trans List.perm_middle.symm
    · have bk := hb' (pr2 g c k) (seg_in (by omega) (by omega))
      have bk1 : 0 ≤ (c k).toInt := bk.1
      have bk2 : (c k).toInt ≤ 200000 := bk.2
      have ev : (c k + y).toInt = (c k).toInt + y.toInt := adv (by omega) (by omega) (by omega) (by omega)
      refine List.pairwise_append.mpr ⟨insE_srt tlB_lin k p1 (fun j hj e => ?_), p5, fun a ha b hb2 => ?_⟩
      · have : g k = g j := congrArg (fun p : P2 => p.1) e
        have := inj k j h1 (by omega) this
        omega
      · rcases List.mem_cons.mp ((insE_perm k).mem_iff.mp ha) with q | q
        · subst q
          have := tlB_iff.mp (p4 b hb2)
          refine tlB_iff.mpr ?_
          show b.2.toInt < (c k + y).toInt ∨ _
          have e5 : (pr2 g c k).2 = c k := rfl
          rw [e5] at this
          rw [ev]
          omega
        · exact p3 a q b (List.mem_cons_of_mem _ hb2)
