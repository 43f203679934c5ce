/-! lists of the tables: what is used of them -/
theorem nIa (a b : Nat) : nI a + nI b = nI (a + b) := (Int32.ofNat_add a b).symm
theorem L1 : (1 : Int32) = nI 1 := by decide +kernel
theorem L2 : (2 : Int32) = nI 2 := by decide +kernel
theorem L3 : (3 : Int32) = nI 3 := by decide +kernel
theorem at_0 {f : Nat → Int32} {t : Nat} (h : 0 < t) (hb : t < 2 ^ 31) : at_ f t 0 = f 0 := by
  have := at_nI (f := f) h hb
  rwa [nI_0] at this
theorem seatR_cases {g : Nat → Int32} {t : Nat} {x : Int32} : (seatO g t x = none ∧ seatOfR g t x = -6) ∨ (∃ j, j < t ∧ g j = x ∧ seatO g t x = some j ∧ seatOfR g t x = nI j) := by
  rw [seatOf_O]
  cases h : seatO g t x with
  | none => exact Or.inl ⟨rfl, rfl⟩
  | some j => exact Or.inr ⟨j, (seatO_lt h).1, (seatO_lt h).2, rfl, rfl⟩
theorem nI_n6 {j : Nat} (h : j < 2 ^ 31) : ¬ nI j = -6 := by
  intro q
  have := congrArg Int32.toInt q
  rw [nI_toInt h, show Int32.toInt (-6) = -6 by decide +kernel] at this
  omega
theorem at_n6 {f : Nat → Int32} {t : Nat} : at_ f t (-6) = 0 := if_pos (by decide +kernel)
def tlT (τ : TalM) : List P2 := seg (pr2 (tG τ) (tC τ)) (tN τ) 0
def srtT (L : List P2) : Prop := L.Pairwise (fun a b => tlB a b = true)
theorem st_0 {A : StaM} : stOf A (nI 0) = aZ A := if_pos nI_0
theorem st_1 {A : StaM} : stOf A (nI 1) = aO A := if_neg (by decide +kernel)
theorem fold_cgI {α : Type} {f g : α → Nat → α} {I : α → Prop} : ∀ d k x, I x → (∀ a j, k ≤ j → j < k + d → I a → f a j = g a j ∧ I (f a j)) → fold f d k x = fold g d k x
  | 0, _, _, _, _ => rfl
  | d + 1, k, x, hx, h => by
    unfold fold
    obtain ⟨h1, h2⟩ := h x k (Nat.le_refl _) (by omega) hx
    rw [← h1, fold_cgI (I := I) d (k + 1) _ h2 (fun a j q1 q2 => h a j (by omega) (by omega))]
theorem gbN_cg {c e c2 e2 : Nat → Int32} {k b : Nat} (h1 : c k = c2 k) (h2 : c b = c2 b) (h3 : e k = e2 k) (h4 : e b = e2 b) : gbN c e k b = gbN c2 e2 k b := by
  unfold gbN
  rw [h1, h2, h3, h4]
theorem ftg_cg {c e c2 e2 : Nat → Int32} {t : Nat} (hc : ∀ k, k < t → c k = c2 k) (he : ∀ k, k < t → e k = e2 k) : ftgN c e t = ftgN c2 e2 t := by
  unfold ftgN
  by_cases h0 : t = 0
  · exact fold_cg _ _ _ (fun a j h1 h2 => by omega)
  · refine fold_cgI (I := fun b => b < t) _ _ _ (by omega) (fun a j h1 h2 h3 => ?_)
    have hj : j < t := by omega
    rw [gbN_cg (hc j hj) (hc a h3) (he j hj) (he a h3)]
    refine ⟨rfl, ?_⟩
    by_cases h9 : gbN c2 e2 j a = true
    · rw [if_pos h9]; exact hj
    · rw [if_neg h9]; exact h3
/-- tables: looking up, which guests -/
def lkT : List P2 → Int32 → Int32
  | [], _ => 0
  | p :: l, x => if p.1 = x then p.2 else lkT l x
theorem lk_seg {g c : Nat → Int32} {x : Int32} {n : Nat} (hn : n < 2 ^ 31) : ∀ d k, k + d = n → at_ c n (fnd (fun k => decide (g k = x)) d k) = lkT (seg (pr2 g c) d k) x := by
  intro d
  induction d with
  | zero => intro k _; exact at_n6
  | succ d ih =>
    intro k hk
    unfold fnd seg lkT
    by_cases h : g k = x
    · rw [if_pos (decide_eq_true h), if_pos (show (pr2 g c k).1 = x from h), at_nI (by omega) hn]
      rfl
    · rw [if_neg (by rw [decide_eq_false h]; exact Bool.false_ne_true), if_neg (show ¬ (pr2 g c k).1 = x from h)]
      exact ih (k + 1) (by omega)
theorem lk_at {g c : Nat → Int32} {x : Int32} {n : Nat} (hn : n < 2 ^ 31) : at_ c n (seatOfR g n x) = lkT (seg (pr2 g c) n 0) x := lk_seg hn n 0 (by omega)
theorem lk_perm {x : Int32} {L L' : List P2} (h : L.Perm L') : (L.map Prod.fst).Nodup → lkT L x = lkT L' x := by
  induction h with
  | nil => intro _; rfl
  | cons a _ ih =>
    intro hn
    unfold lkT
    rw [ih (List.nodup_cons.mp hn).2]
  | swap a b l =>
    intro hn
    have h1 := (List.nodup_cons.mp hn).1
    have hne : ¬ b.1 = a.1 := fun k => h1 (by
      rw [k]
      exact List.mem_cons_self)
    show (if b.1 = x then b.2 else if a.1 = x then a.2 else lkT l x) = (if a.1 = x then a.2 else if b.1 = x then b.2 else lkT l x)
    by_cases e1 : a.1 = x
    · have e2 : ¬ b.1 = x := fun k => hne (k.trans e1.symm)
      rw [if_neg e2, if_pos e1, if_pos e1]
    · rw [if_neg e1, if_neg e1]
  | trans h1 _ ih1 ih2 =>
    intro hn
    rw [ih1 hn, ih2 ((h1.map Prod.fst).nodup hn)]
theorem seatO_nn {g : Nat → Int32} {x : Int32} : ∀ d k, fndO (fun k => decide (g k = x)) d k = none ↔ x ∉ seg g d k := by
  intro d
  induction d with
  | zero => intro k; exact ⟨fun _ h => (by cases h), fun _ => rfl⟩
  | succ d ih =>
    intro k
    unfold fndO seg
    rw [List.mem_cons]
    by_cases h : g k = x
    · rw [if_pos (decide_eq_true h)]
      exact ⟨fun q => (by cases q), fun q => absurd (Or.inl h.symm) q⟩
    · rw [if_neg (by rw [decide_eq_false h]; exact Bool.false_ne_true), ih (k + 1)]
      exact ⟨fun q r => r.elim (fun e => h e.symm) q, fun q r => q (Or.inr r)⟩
theorem seatO_no {g : Nat → Int32} {n : Nat} {x : Int32} : seatO g n x = none ↔ x ∉ seg g n 0 := seatO_nn n 0
theorem seatR_no {g : Nat → Int32} {n : Nat} {x : Int32} (hn : n < 2 ^ 31) : seatOfR g n x = -6 ↔ x ∉ seg g n 0 := by
  rw [← seatO_no]
  rcases seatR_cases (g := g) (t := n) (x := x) with ⟨h1, h2⟩ | ⟨j, j1, _, h1, h2⟩
  · exact ⟨fun _ => h1, fun _ => h2⟩
  · rw [h1, h2]
    exact ⟨fun q => absurd q (nI_n6 (by omega)), fun q => (by cases q)⟩
theorem keys_seg {g c : Nat → Int32} {d k : Nat} : (seg (pr2 g c) d k).map Prod.fst = seg g d k := seg_map _ _ _
theorem adv {x y : Int32} (h1 : -1000000000 ≤ x.toInt) (h2 : x.toInt ≤ 1000000000) (h3 : -1000000000 ≤ y.toInt) (h4 : y.toInt ≤ 1000000000) : (x + y).toInt = x.toInt + y.toInt := by
  rw [Int32.toInt_add]
  exact Int.bmod_eq_of_le (by omega) (by omega)
def bmp (x y : Int32) (p : P2) : P2 := if p.1 = x then (p.1, p.2 + y) else p
def addL (x y : Int32) (L : List P2) : List P2 := if x ∈ L.map Prod.fst then L.map (bmp x y) else L ++ [(x, y)]
theorem bmp_1 {x y : Int32} {p : P2} : (bmp x y p).1 = p.1 := by
  unfold bmp
  split <;> rfl
theorem addL_in {x y : Int32} {L : List P2} (h : x ∈ L.map Prod.fst) : addL x y L = L.map (bmp x y) := if_pos h
theorem addL_no {x y : Int32} {L : List P2} (h : x ∉ L.map Prod.fst) : addL x y L = L ++ [(x, y)] := if_neg h
theorem addL_perm {x y : Int32} {L L' : List P2} (h : L.Perm L') : (addL x y L).Perm (addL x y L') := by
  by_cases hx : x ∈ L.map Prod.fst
  · rw [addL_in hx, addL_in ((h.map Prod.fst).mem_iff.mp hx)]
    exact h.map _
  · rw [addL_no hx, addL_no (fun q => hx ((h.map Prod.fst).mem_iff.mpr q))]
    exact h.append_right _
theorem bmp_keys {x y : Int32} {L : List P2} : (L.map (bmp x y)).map Prod.fst = L.map Prod.fst := by
  rw [List.map_map]
  exact List.map_congr_left (fun p _ => bmp_1)
theorem addL_keys {x y : Int32} {L : List P2} : (addL x y L).map Prod.fst = if x ∈ L.map Prod.fst then L.map Prod.fst else L.map Prod.fst ++ [x] := by
  by_cases hx : x ∈ L.map Prod.fst
  · rw [addL_in hx, if_pos hx, bmp_keys]
  · rw [addL_no hx, if_neg hx, List.map_append]
    rfl
theorem addL_mem {x y z : Int32} {L : List P2} : z ∈ (addL x y L).map Prod.fst ↔ z = x ∨ z ∈ L.map Prod.fst := by
  rw [addL_keys]
  by_cases hx : x ∈ L.map Prod.fst
  · rw [if_pos hx]
    exact ⟨Or.inr, fun q => q.elim (fun e => (by rw [e]; exact hx)) id⟩
  · rw [if_neg hx, List.mem_append, List.mem_singleton]
    exact ⟨fun q => q.elim Or.inr Or.inl, fun q => q.elim Or.inr Or.inl⟩
theorem addL_nodup {x y : Int32} {L : List P2} (h : (L.map Prod.fst).Nodup) : ((addL x y L).map Prod.fst).Nodup := by
  rw [addL_keys]
  by_cases hx : x ∈ L.map Prod.fst
  · rw [if_pos hx]; exact h
  · rw [if_neg hx]
    refine List.nodup_append.mpr ⟨h, List.nodup_cons.mpr ⟨fun q => (by cases q), List.Pairwise.nil⟩, fun a ha b hb => ?_⟩
    rw [List.mem_singleton] at hb
    rw [hb]
    exact fun e => hx (e ▸ ha)
theorem addL_len {x y : Int32} {L : List P2} : (addL x y L).length = if x ∈ L.map Prod.fst then L.length else L.length + 1 := by
  by_cases hx : x ∈ L.map Prod.fst
  · rw [addL_in hx, if_pos hx, List.length_map]
  · rw [addL_no hx, if_neg hx, List.length_append]
    rfl
theorem addL_all {x y : Int32} {L : List P2} {P : P2 → Prop} (h1 : ∀ p, p ∈ L → p.1 ≠ x → P p) (h2 : ∀ p, p ∈ L → p.1 = x → P (x, p.2 + y)) (h3 : P (x, y)) : ∀ p, p ∈ addL x y L → P p := by
  intro p hp
  by_cases hx : x ∈ L.map Prod.fst
  · rw [addL_in hx] at hp
    obtain ⟨q, hq, e⟩ := List.mem_map.mp hp
    unfold bmp at e
    by_cases hq1 : q.1 = x
    · rw [if_pos hq1] at e
      subst e
      have := h2 q hq hq1
      rw [hq1]
      exact this
    · rw [if_neg hq1] at e
      subst e
      exact h1 q hq hq1
  · rw [addL_no hx] at hp
    rcases List.mem_append.mp hp with q | q
    · exact h1 p q (fun e => hx (List.mem_map.mpr ⟨p, q, e⟩))
    · rw [List.mem_singleton] at q
      subst q
      exact h3
theorem keys_inj {g c : Nat → Int32} {n : Nat} (h : ((seg (pr2 g c) n 0).map Prod.fst).Nodup) : ∀ i j, i < n → j < n → g i = g j → i = j := by
  rw [keys_seg] at h
  have key : ∀ d k, (seg g d k).Nodup → ∀ i j, k ≤ i → i < j → j < k + d → g i ≠ g j := by
    intro d
    induction d with
    | zero => intro k _ i j _ _ _; omega
    | succ d ih =>
      intro k hn i j h1 h2 h3 e
      unfold seg at hn
      obtain ⟨n1, n2⟩ := List.nodup_cons.mp hn
      by_cases hi : i = k
      · subst hi
        exact n1 (by rw [e]; exact seg_in (by omega) (by omega))
      · exact ih (k + 1) n2 i j (by omega) h2 (by omega) e
  intro i j hi hj e
  by_cases h1 : i = j
  · exact h1
  · exfalso
    by_cases h2 : i < j
    · exact key n 0 h i j (by omega) h2 (by omega) e
    · exact key n 0 h j i (by omega) (by omega) (by omega) e.symm
theorem bmp_seg {g c : Nat → Int32} {n k : Nat} {x y : Int32} (hd : ∀ i j, i < n → j < n → g i = g j → i = j) (hk : k < n) (hg : g k = x) : (seg (pr2 g c) n 0).map (bmp x y) = seg (pr2 g (upd c k (c k + y))) n 0 := by
  rw [seg_map]
  refine seg_congr n 0 (fun j _ h2 => ?_)
  unfold bmp pr2
  by_cases e : j = k
  · subst e
    rw [if_pos hg, upd_at]
  · rw [if_neg (fun q => e (hd j k (by omega) hk (q.trans hg.symm))), upd_n e]
theorem seat_key {g c : Nat → Int32} {n k : Nat} {x : Int32} (h : seatO g n x = some k) : x ∈ (seg (pr2 g c) n 0).map Prod.fst := by
  obtain ⟨h1, h2⟩ := seatO_lt h
  rw [keys_seg, ← h2]
  exact seg_in (by omega) (by omega)
theorem seat_nokey {g c : Nat → Int32} {n : Nat} {x : Int32} (h : seatO g n x = none) : x ∉ (seg (pr2 g c) n 0).map Prod.fst := by
  rw [keys_seg]
  exact seatO_no.mp h
theorem cls_add {τ : TalM} {x y : Int32} (hs : srtT (tlT τ)) (hd : ((tlT τ).map Prod.fst).Nodup) (hy : 0 < y.toInt) (hy2 : y.toInt ≤ 200000) (hb : ∀ p, p ∈ tlT τ → 0 ≤ p.2.toInt ∧ p.2.toInt ≤ 200000) : (tlT (adT τ x y)).Perm (addL x y (tlT τ)) ∧ srtT (tlT (adT τ x y)) := by
  obtain ⟨g, c, n⟩ := τ
  show (seg (pr2 (addT g c n x y).1 (addT g c n x y).2.1) (addT g c n x y).2.2 0).Perm (addL x y (seg (pr2 g c) n 0)) ∧ (seg (pr2 (addT g c n x y).1 (addT g c n x y).2.1) (addT g c n x y).2.2 0).Pairwise (fun a b => tlB a b = true)
  have hs' : (seg (pr2 g c) n 0).Pairwise (fun a b => tlB a b = true) := hs
  have hd' : ((seg (pr2 g c) n 0).map Prod.fst).Nodup := hd
  have hb' : ∀ p, p ∈ seg (pr2 g c) n 0 → 0 ≤ p.2.toInt ∧ p.2.toInt ≤ 200000 := hb
  unfold addT
  cases hk : seatO g n x with
  | none =>
    have hx := seat_nokey (c := c) hk
    rw [addL_no hx]
    show (seg (pr2 (muF x y n (upd g n x, upd c n y)).1 (muF x y n (upd g n x, upd c n y)).2) (n + 1) 0).Perm _ ∧ (seg (pr2 (muF x y n (upd g n x, upd c n y)).1 (muF x y n (upd g n x, upd c n y)).2) (n + 1) 0).Pairwise _
    rw [(muF_seg n (upd g n x, upd c n y)).1]
    have e1 : insE tlB (pr2 (upd g n x) (upd c n y)) (x, y) n = insE tlB (pr2 g c) (x, y) n := insE_congr n (fun j hj => by
      unfold pr2
      rw [upd_n (by omega), upd_n (by omega)])
    show (insE tlB (pr2 (upd g n x) (upd c n y)) (x, y) n).Perm _ ∧ _
    rw [e1]
    refine ⟨(insE_perm n).trans (List.perm_append_comm (l₁ := [(x, y)]) (l₂ := seg (pr2 g c) n 0)), insE_srt tlB_lin n hs' (fun j hj e => hx ?_)⟩
    rw [keys_seg]
    have : g j = x := congrArg (fun p : P2 => p.1) e.symm
    rw [← this]
    exact seg_in (by omega) (by omega)
  | some k =>
    obtain ⟨h1, h2⟩ := seatO_lt hk
    have inj := keys_inj hd'
    rw [addL_in (seat_key hk), bmp_seg inj h1 h2]
    dsimp only
    generalize hc' : upd c k (c k + y) = c'
    have ck : c' k = c k + y := by rw [← hc', upd_at]
    have cn : ∀ j, j ≠ k → c' j = c j := fun j hj => by rw [← hc', upd_n hj]
    have hcut : ∀ (f : Nat → P2), seg f n 0 = seg f k 0 ++ f k :: seg f (n - (k + 1)) (k + 1) := fun f => by
      rw [show n = k + ((n - (k + 1)) + 1) by omega, seg_app k _ 0, Nat.zero_add]
      congr 1
      rw [show k + (n - (k + 1) + 1) - (k + 1) = n - (k + 1) by omega]
      rfl
    obtain ⟨m1, m2⟩ := muF_seg (x := g k) (y := c k + y) k (g, c')
    have hnew : seg (pr2 (muF (g k) (c k + y) k (g, c')).1 (muF (g k) (c k + y) k (g, c')).2) n 0 = insE tlB (pr2 g c) (g k, c k + y) k ++ seg (pr2 g c) (n - (k + 1)) (k + 1) := by
      rw [show n = (k + 1) + (n - (k + 1)) by omega, seg_app (k + 1) _ 0, m1]
      congr 1
      · exact insE_congr k (fun j hj => by
          show (g j, c' j) = (g j, c j)
          rw [cn j (by omega)])
      · rw [show k + 1 + (n - (k + 1)) - (k + 1) = n - (k + 1) by omega, Nat.zero_add]
        refine seg_congr _ _ (fun j q1 q2 => ?_)
        rw [m2 j (by omega)]
        show (g j, c' j) = (g j, c j)
        rw [cn j (by omega)]
    show (seg (pr2 (muF (g k) (c k + y) k (g, c')).1 (muF (g k) (c k + y) k (g, c')).2) n 0).Perm (seg (pr2 g c') n 0) ∧ (seg (pr2 (muF (g k) (c k + y) k (g, c')).1 (muF (g k) (c k + y) k (g, c')).2) n 0).Pairwise _
    rw [hnew]
    have hold := hcut (pr2 g c)
    rw [hold] at hs'
    obtain ⟨p1, p2, p3⟩ := List.pairwise_append.mp hs'
    obtain ⟨p4, p5⟩ := List.pairwise_cons.mp p2
    constructor
    · rw [hcut (pr2 g c')]
      have e1 : seg (pr2 g c') k 0 = seg (pr2 g c) k 0 := seg_congr k 0 (fun j _ q2 => by
        show (g j, c' j) = (g j, c j)
        rw [cn j (by omega)])
      have e2 : seg (pr2 g c') (n - (k + 1)) (k + 1) = seg (pr2 g c) (n - (k + 1)) (k + 1) := seg_congr _ _ (fun j q1 q2 => by
        show (g j, c' j) = (g j, c j)
        rw [cn j (by omega)])
      have e3 : pr2 g c' k = (g k, c k + y) := by
        unfold pr2
        rw [ck]
      rw [e1, e2, e3]
      have := (insE_perm (B := tlB) (f := pr2 g c) (x := (g k, c k + y)) k).append_right (seg (pr2 g c) (n - (k + 1)) (k + 1))
      rw [List.cons_append] at this
      exact this.trans List.perm_middle.symm
    · have bk := hb' (pr2 g c k) (seg_in (by omega) (by omega))
      have bk1 : 0 ≤ (c k).toInt := bk.1
      have bk2 : (c k).toInt ≤ 200000 := bk.2
      have ev : (c k + y).toInt = (c k).toInt + y.toInt := adv (by omega) (by omega) (by omega) (by omega)
      refine List.pairwise_append.mpr ⟨insE_srt tlB_lin k p1 (fun j hj e => ?_), p5, fun a ha b hb2 => ?_⟩
      · have : g k = g j := congrArg (fun p : P2 => p.1) e
        have := inj k j h1 (by omega) this
        omega
      · rcases List.mem_cons.mp ((insE_perm k).mem_iff.mp ha) with q | q
        · subst q
          have := tlB_iff.mp (p4 b hb2)
          refine tlB_iff.mpr ?_
          show b.2.toInt < (c k + y).toInt ∨ _
          have e5 : (pr2 g c k).2 = c k := rfl
          rw [e5] at this
          rw [ev]
          omega
        · exact p3 a q b (List.mem_cons_of_mem _ hb2)

theorem sef_cs {ρ : RowM} {x : Int32} (hn : rT ρ ≤ rS ρ) (h1 : 1 ≤ rS ρ) : (sefN ρ x < rT ρ ∧ rG ρ (sefN ρ x) = x) ∨ (sefN ρ x = rT ρ ∧ rT ρ < rS ρ ∧ ∀ j, j < rT ρ → rG ρ j ≠ x) ∨ (sefN ρ x < rT ρ ∧ ¬ sefN ρ x = rT ρ ∧ ∀ j, j < rT ρ → rG ρ j ≠ x) := by
  unfold sefN
  cases h : seatO (rG ρ) (rT ρ) x with
  | some k => exact Or.inl (seatO_lt h)
  | none =>
    have hno : ∀ j, j < rT ρ → rG ρ j ≠ x := fun j hj e => seatO_no.mp h (by
      rw [← e]
      exact seg_in (by omega) (by omega))
    dsimp only
    by_cases h2 : rT ρ < rS ρ
    · rw [if_pos h2]
      exact Or.inr (Or.inl ⟨rfl, h2, hno⟩)
    · rw [if_neg h2]
      have := ftgN_lt (c := rC ρ) (e := rE ρ) (show 0 < rT ρ by omega)
      exact Or.inr (Or.inr ⟨this, by omega, hno⟩)
theorem errC_in {S : StrM} {x y : Int32} (h : errC S x y = 0) : 1 ≤ y.toInt ∧ y.toInt ≤ 999 ∧ ¬ 99999 < sN S + y := by
  have e1 : Int32.toInt 1 = 1 := by decide +kernel
  have e9 : Int32.toInt 999 = 999 := by decide +kernel
  have z2 : ¬ (-2 : Int32) = 0 := by decide +kernel
  have z4 : ¬ (-4 : Int32) = 0 := by decide +kernel
  unfold errC at h
  by_cases h0 : isCd x = true
  · rw [if_pos h0] at h
    by_cases h1 : y < 1
    · rw [if_pos h1] at h
      exact absurd h z2
    · rw [if_neg h1] at h
      by_cases h2 : 999 < y
      · rw [if_pos h2] at h
        exact absurd h z2
      · rw [if_neg h2] at h
        by_cases h3 : 99999 < sN S + y
        · rw [if_pos h3] at h
          exact absurd h z4
        · have a1 := Int32.le_iff_toInt_le.mp (Int32.not_lt.mp h1)
          have a2 := Int32.le_iff_toInt_le.mp (Int32.not_lt.mp h2)
          exact ⟨by omega, by omega, h3⟩
  · rw [if_neg h0] at h
    exact absurd h z2
theorem tot_in {x y : Int32} (h0 : 0 ≤ x.toInt) (h1 : x.toInt ≤ 99999) (h2 : 0 ≤ y.toInt) (h3 : y.toInt ≤ 99999) (h : ¬ 99999 < x + y) : x.toInt + y.toInt ≤ 99999 := by
  have e9 : Int32.toInt 99999 = 99999 := by decide +kernel
  have := Int32.le_iff_toInt_le.mp (Int32.not_lt.mp h)
  rw [adv (by omega) (by omega) (by omega) (by omega)] at this
  omega
theorem stSet_z {A : StaM} {S : StrM} : stSet A (nI 0) S = (S, aO A) := if_pos nI_0
theorem stSet_o {A : StaM} {S : StrM} : stSet A (nI 1) S = (aZ A, S) := if_neg (by decide +kernel)
theorem half {x : Int32} (h : 0 ≤ x.toInt) : (x / 2).toInt = x.toInt / 2 := by
  have hz : (0 : Int32).toInt = 0 := by decide +kernel
  have h0 : ¬ x < 0 := by
    intro q
    have := Int32.lt_iff_toInt_lt.mp q
    omega
  obtain ⟨e1, e2⟩ := nn_clamp h0
  have e3 := nI_toInt e2
  rw [e1] at e3
  have : x / 2 = nI (x.toNatClampNeg / 2) := by
    have := pk_div (a := x.toNatClampNeg) (d := 2) e2 (by omega) (by omega)
    rw [← this]
    show x / 2 = nI x.toNatClampNeg / nI 2
    rw [e1, ← L2]
  rw [this, nI_toInt (by omega), e3]
  omega
theorem half_pos {x : Int32} (h : 0 ≤ x.toInt) : (0 < x / 2) = (2 ≤ x.toInt) := by
  have hz : (0 : Int32).toInt = 0 := by decide +kernel
  rw [Int32.lt_iff_toInt_lt, half h, hz]
  exact propext ⟨fun _ => by omega, fun _ => by omega⟩
def hv3 (p : P3) : Option P3 := if 0 < p.2.1 / 2 then some (p.1, p.2.1 / 2, p.2.2 / 2) else none
def hv2 (p : P2) : Option P2 := if 0 < p.2 / 2 then some (p.1, p.2 / 2) else none
theorem seg_eq {α : Type} {f g : Nat → α} {n m : Nat} (h : seg f n 0 = seg g m 0) : n = m ∧ ∀ k, k < n → f k = g k := by
  have e : n = m := by
    have := congrArg List.length h
    rwa [seg_len, seg_len] at this
  subst e
  refine ⟨rfl, fun k hk => ?_⟩
  have h1 := seg_get (f := f) n 0 k hk
  have h2 := seg_get (f := g) n 0 k hk
  rw [h, h2, Nat.zero_add] at h1
  exact (Option.some.inj h1).symm
theorem halF_seg {Q : Nat} : ∀ (n k : Nat) (g c e : Nat → Int32) (t1 : Nat), t1 ≤ k → rS (halF Q n k g c e t1) = Q ∧ seg (pr3 (rG (halF Q n k g c e t1)) (rC (halF Q n k g c e t1)) (rE (halF Q n k g c e t1))) (rT (halF Q n k g c e t1)) 0 = seg (pr3 g c e) t1 0 ++ (seg (pr3 g c e) n k).filterMap hv3 := by
  intro n
  induction n with
  | zero =>
    intro k g c e t1 _
    unfold halF
    refine ⟨rfl, ?_⟩
    show seg (pr3 g c e) t1 0 = seg (pr3 g c e) t1 0 ++ []
    rw [List.append_nil]
  | succ n ih =>
    intro k g c e t1 hk
    have es : seg (pr3 g c e) (n + 1) k = pr3 g c e k :: seg (pr3 g c e) n (k + 1) := rfl
    rw [es, List.filterMap_cons]
    unfold halF
    by_cases h : 0 < c k / 2
    · have e1 : hv3 (pr3 g c e k) = some (g k, c k / 2, e k / 2) := if_pos h
      rw [if_pos h, e1]
      obtain ⟨i1, i2⟩ := ih (k + 1) (upd g t1 (g k)) (upd c t1 (c k / 2)) (upd e t1 (e k / 2)) (t1 + 1) (by omega)
      refine ⟨i1, ?_⟩
      rw [i2, seg_snoc, Nat.zero_add]
      have s1 : seg (pr3 (upd g t1 (g k)) (upd c t1 (c k / 2)) (upd e t1 (e k / 2))) t1 0 = seg (pr3 g c e) t1 0 := seg_congr _ _ (fun j _ q => by
        unfold pr3
        rw [upd_n (by omega), upd_n (by omega), upd_n (by omega)])
      have s2 : seg (pr3 (upd g t1 (g k)) (upd c t1 (c k / 2)) (upd e t1 (e k / 2))) n (k + 1) = seg (pr3 g c e) n (k + 1) := seg_congr _ _ (fun j q _ => by
        unfold pr3
        rw [upd_n (by omega), upd_n (by omega), upd_n (by omega)])
      have s3 : pr3 (upd g t1 (g k)) (upd c t1 (c k / 2)) (upd e t1 (e k / 2)) t1 = (g k, c k / 2, e k / 2) := by
        unfold pr3
        rw [upd_at, upd_at, upd_at]
      rw [s1, s2, s3, List.append_assoc]
      rfl
    · have e1 : hv3 (pr3 g c e k) = none := if_neg h
      rw [if_neg h, e1]
      exact ih (k + 1) g c e t1 (by omega)
theorem fm_keys {α : Type} {h : α → Option α} {key : α → Int32} (hk : ∀ p q, h p = some q → key q = key p) {L : List α} {z : Int32} (hz : z ∈ (L.filterMap h).map key) : z ∈ L.map key := by
  obtain ⟨q, h1, h2⟩ := List.mem_map.mp hz
  obtain ⟨p, h3, h4⟩ := List.mem_filterMap.mp h1
  exact List.mem_map.mpr ⟨p, h3, (hk p q h4).symm.trans h2⟩
theorem fm_nodup {α : Type} {h : α → Option α} {key : α → Int32} (hk : ∀ p q, h p = some q → key q = key p) : ∀ (L : List α), (L.map key).Nodup → ((L.filterMap h).map key).Nodup := by
  intro L
  induction L with
  | nil => intro _; exact List.Pairwise.nil
  | cons p L ih =>
    intro hn
    obtain ⟨n1, n2⟩ := List.nodup_cons.mp hn
    rw [List.filterMap_cons]
    cases hp : h p with
    | none => exact ih n2
    | some q =>
      refine List.nodup_cons.mpr ⟨fun hm => n1 ?_, ih n2⟩
      rw [← hk p q hp]
      exact fm_keys hk hm
theorem hv3_k : ∀ p q : P3, hv3 p = some q → q.1 = p.1 := by
  intro p q h
  unfold hv3 at h
  split at h
  · cases h; rfl
  · cases h
theorem hv2_k : ∀ p q : P2, hv2 p = some q → q.1 = p.1 := by
  intro p q h
  unfold hv2 at h
  split at h
  · cases h; rfl
  · cases h
theorem seg_dist {g : Nat → Int32} {n : Nat} (h : (seg g n 0).Nodup) : ∀ i j, i < n → j < n → g i = g j → i = j := keys_inj (c := g) (by rw [keys_seg]; exact h)
theorem thF_seg : ∀ (m k : Nat) (g c : Nat → Int32) (n1 : Nat), n1 ≤ k → (seg (pr2 g c) n1 0).Pairwise (fun a b => tlB a b = true) → (seg g n1 0 ++ seg g m k).Nodup → (tlT (thF m k g c n1)).Perm (seg (pr2 g c) n1 0 ++ (seg (pr2 g c) m k).filterMap hv2) ∧ srtT (tlT (thF m k g c n1)) ∧ tN (thF m k g c n1) ≤ n1 + m := by
  intro m
  induction m with
  | zero =>
    intro k g c n1 _ hs _
    unfold thF
    refine ⟨?_, hs, Nat.le_refl _⟩
    show (seg (pr2 g c) n1 0).Perm (seg (pr2 g c) n1 0 ++ [])
    rw [List.append_nil]
  | succ m ih =>
    intro k g c n1 hk hs hn
    have es : seg (pr2 g c) (m + 1) k = pr2 g c k :: seg (pr2 g c) m (k + 1) := rfl
    have eg : seg g (m + 1) k = g k :: seg g m (k + 1) := rfl
    rw [es, List.filterMap_cons]
    rw [eg] at hn
    unfold thF
    by_cases h : 0 < c k / 2
    · have e1 : hv2 (pr2 g c k) = some (g k, c k / 2) := if_pos h
      rw [if_pos h, e1]
      obtain ⟨m1, m2⟩ := muF_seg (x := g k) (y := c k / 2) n1 (upd g n1 (g k), upd c n1 (c k / 2))
      generalize muF (g k) (c k / 2) n1 (upd g n1 (g k), upd c n1 (c k / 2)) = q at *
      have e2 : insE tlB (pr2 (upd g n1 (g k)) (upd c n1 (c k / 2))) (g k, c k / 2) n1 = insE tlB (pr2 g c) (g k, c k / 2) n1 := insE_congr n1 (fun j hj => by
        unfold pr2
        rw [upd_n (by omega), upd_n (by omega)])
      have m1' : seg (pr2 q.1 q.2) (n1 + 1) 0 = insE tlB (pr2 g c) (g k, c k / 2) n1 := m1.trans e2
      have m2' : seg (pr2 q.1 q.2) m (k + 1) = seg (pr2 g c) m (k + 1) := seg_congr _ _ (fun j q1 _ => by
        rw [m2 j (by omega)]
        show (upd g n1 (g k) j, upd c n1 (c k / 2) j) = (g j, c j)
        rw [upd_n (by omega), upd_n (by omega)])
      have k1 : (seg q.1 (n1 + 1) 0).Perm (g k :: seg g n1 0) := by
        have := (insE_perm (B := tlB) (f := pr2 g c) (x := (g k, c k / 2)) n1).map Prod.fst
        rw [← m1', keys_seg, List.map_cons, keys_seg] at this
        exact this
      have k2 : seg q.1 m (k + 1) = seg g m (k + 1) := by
        have := congrArg (fun L => List.map Prod.fst L) m2'
        rwa [keys_seg, keys_seg] at this
      have pm : (g k :: seg g n1 0 ++ seg g m (k + 1)).Perm (seg g n1 0 ++ g k :: seg g m (k + 1)) := by
        rw [List.cons_append]
        exact List.perm_middle.symm
      obtain ⟨i1, i2, i3⟩ := ih (k + 1) q.1 q.2 (n1 + 1) (by omega) (by
        rw [m1']
        refine insE_srt tlB_lin n1 hs (fun j hj e => ?_)
        have eg2 : g k = g j := congrArg (fun p : P2 => p.1) e
        have := (List.nodup_append.mp hn).2.2 (g j) (seg_in (by omega) (by omega)) (g k) List.mem_cons_self
        exact this eg2.symm) (by
        rw [k2]
        exact (pm.trans (List.Perm.refl _)).symm.nodup hn |> fun z => (k1.append_right (seg g m (k + 1))).symm.nodup z)
      refine ⟨?_, i2, by omega⟩
      rw [m1', m2'] at i1
      refine i1.trans ?_
      have := (insE_perm (B := tlB) (f := pr2 g c) (x := (g k, c k / 2)) n1).append_right ((seg (pr2 g c) m (k + 1)).filterMap hv2)
      rw [List.cons_append] at this
      exact this.trans List.perm_middle.symm
    · have e1 : hv2 (pr2 g c k) = none := if_neg h
      rw [if_neg h, e1]
      obtain ⟨i1, i2, i3⟩ := ih (k + 1) g c n1 (by omega) hs (by
        have := List.nodup_append.mp hn
        exact List.nodup_append.mpr ⟨this.1, (List.nodup_cons.mp this.2.1).2, fun a ha b hb => this.2.2 a ha b (List.mem_cons_of_mem _ hb)⟩)
      exact ⟨i1, i2, by omega⟩
theorem shF_v : ∀ (n b : Nat) (f : Nat → Int32) (j : Nat), shF f n b j = if b ≤ j ∧ j < b + n then f (j + 1) else f j := by
  intro n
  induction n with
  | zero =>
    intro b f j
    rw [if_neg (by omega)]
    rfl
  | succ n ih =>
    intro b f j
    unfold shF
    rw [ih]
    by_cases h : b ≤ j ∧ j < b + (n + 1)
    · rw [if_pos h]
      by_cases h2 : j = b
      · subst h2
        rw [if_neg (by omega), upd_at]
      · rw [if_pos (by omega), upd_n (by omega)]
    · rw [if_neg h, if_neg (by omega), upd_n (by omega)]
def addAll (R L : List P2) : List P2 := R.foldl (fun L p => addL p.1 p.2 L) L
theorem addAll_nil {L : List P2} : addAll [] L = L := rfl
theorem addAll_cons {p : P2} {R L : List P2} : addAll (p :: R) L = addAll R (addL p.1 p.2 L) := rfl
theorem addAll_L : ∀ (R : List P2) {L L' : List P2}, L.Perm L' → (addAll R L).Perm (addAll R L')
  | [], _, _, h => h
  | _ :: R, _, _, h => addAll_L R (addL_perm h)
/-- what holds while the table L takes up the rest R -/
def newK (L : List P2) (p : P2) : Bool := decide (p.1 ∉ L.map Prod.fst)
def JV (L R : List P2) (a b : Int) : Prop := 0 ≤ a ∧ 0 ≤ b ∧ a + b ≤ 99999 ∧ (L.map Prod.fst).Nodup ∧ (R.map Prod.fst).Nodup ∧ (∀ p, p ∈ R → 1 ≤ p.2.toInt ∧ p.2.toInt ≤ b) ∧ (∀ p, p ∈ L → 1 ≤ p.2.toInt ∧ p.2.toInt ≤ a + b ∧ (p.1 ∈ R.map Prod.fst → p.2.toInt ≤ a)) ∧ L.length + R.countP (newK L) ≤ 60
theorem newK_perm {L L' : List P2} (h : L.Perm L') (p : P2) : newK L p = newK L' p := by
  unfold newK
  exact decide_eq_decide.mpr (by rw [(h.map Prod.fst).mem_iff])
theorem JV_perm {L L' R : List P2} {a b : Int} (h : L.Perm L') (j : JV L R a b) : JV L' R a b := by
  obtain ⟨j1, j2, j3, j4, j5, j6, j7, j8⟩ := j
  refine ⟨j1, j2, j3, (h.map Prod.fst).nodup j4, j5, j6, fun p hp => j7 p (h.mem_iff.mpr hp), ?_⟩
  rw [← h.length_eq]
  have : newK L' = newK L := funext fun p => (newK_perm h p).symm
  rw [this]
  exact j8
theorem JV_len {L R : List P2} {a b : Int} (j : JV L R a b) : L.length ≤ 60 := by
  have := j.2.2.2.2.2.2.2
  omega
theorem JV_new {p : P2} {L R : List P2} {a b : Int} (j : JV L (p :: R) a b) (h : p.1 ∉ L.map Prod.fst) : L.length < 60 := by
  have := j.2.2.2.2.2.2.2
  rw [List.countP_cons, if_pos (show newK L p = true from decide_eq_true h)] at this
  omega
theorem JV_step {p : P2} {L R : List P2} {a b : Int} (j : JV L (p :: R) a b) : JV (addL p.1 p.2 L) R a b := by
  obtain ⟨j1, j2, j3, j4, j5, j6, j7, j8⟩ := j
  obtain ⟨n1, n2⟩ := List.nodup_cons.mp j5
  have bp := j6 p List.mem_cons_self
  refine ⟨j1, j2, j3, addL_nodup j4, n2, fun q hq => j6 q (List.mem_cons_of_mem _ hq), ?_, ?_⟩
  · refine addL_all (P := fun q => 1 ≤ q.2.toInt ∧ q.2.toInt ≤ a + b ∧ (q.1 ∈ R.map Prod.fst → q.2.toInt ≤ a)) (fun q hq _ => ?_) (fun q hq e => ?_) ?_
    · have := j7 q hq
      exact ⟨this.1, this.2.1, fun k => this.2.2 (List.mem_cons_of_mem _ k)⟩
    · have := j7 q hq
      have hqa := this.2.2 (by
        rw [e]
        exact List.mem_cons_self)
      show 1 ≤ (q.2 + p.2).toInt ∧ (q.2 + p.2).toInt ≤ a + b ∧ (p.1 ∈ R.map Prod.fst → _)
      rw [adv (by omega) (by omega) (by omega) (by omega)]
      exact ⟨by omega, by omega, fun k => absurd k n1⟩
    · exact ⟨bp.1, by show p.2.toInt ≤ a + b; omega, fun k => absurd k n1⟩
  · have e : R.countP (newK (addL p.1 p.2 L)) = R.countP (newK L) := List.countP_congr (fun q hq => by
      have hne : q.1 ≠ p.1 := fun e => n1 (by
        rw [← e]
        exact List.mem_map.mpr ⟨q, hq, rfl⟩)
      unfold newK
      rw [decide_eq_true_eq, decide_eq_true_eq, addL_mem]
      exact ⟨fun k r => k (Or.inr r), fun k r => r.elim hne k⟩)
    rw [e, addL_len]
    rw [List.countP_cons] at j8
    by_cases h : p.1 ∈ L.map Prod.fst
    · rw [if_pos h]
      omega
    · rw [if_neg h]
      rw [if_pos (show newK L p = true from decide_eq_true h)] at j8
      omega
theorem JV_all : ∀ (R L : List P2) {a b : Int}, JV L R a b → JV (addAll R L) [] a b
  | [], _, _, _, j => j
  | _ :: R, _, _, _, j => JV_all R _ (JV_step j)
theorem tlT_len {τ : TalM} : (tlT τ).length = tN τ := seg_len _ _
theorem seat_noT {τ : TalM} {x : Int32} (h : seatO (tG τ) (tN τ) x = none) : x ∉ (tlT τ).map Prod.fst := seat_nokey h
/-- the class's table takes up another -/
theorem cls_all {g2 c2 : Nat → Int32} {a b : Int} : ∀ (m k : Nat) (τ : TalM), srtT (tlT τ) → JV (tlT τ) (seg (pr2 g2 c2) m k) a b → aaOK g2 c2 m k τ ∧ (tlT (aaF g2 c2 m k τ)).Perm (addAll (seg (pr2 g2 c2) m k) (tlT τ)) ∧ srtT (tlT (aaF g2 c2 m k τ)) := by
  intro m
  induction m with
  | zero =>
    intro k τ hs j
    have := JV_len j
    rw [tlT_len] at this
    exact ⟨this, List.Perm.refl _, hs⟩
  | succ m ih =>
    intro k τ hs j
    have es : seg (pr2 g2 c2) (m + 1) k = (g2 k, c2 k) :: seg (pr2 g2 c2) m (k + 1) := rfl
    rw [es] at j ⊢
    have bp := j.2.2.2.2.2.1 (g2 k, c2 k) List.mem_cons_self
    have bp1 : 1 ≤ (c2 k).toInt := bp.1
    have bp2 : (c2 k).toInt ≤ b := bp.2
    have h1 := j.1
    have h2 := j.2.1
    have h3 := j.2.2.1
    obtain ⟨ca, cb⟩ := cls_add (x := g2 k) (y := c2 k) hs j.2.2.2.1 (by omega) (by omega) (fun p hp => by have := j.2.2.2.2.2.2.1 p hp; omega)
    have j2 := JV_perm ca.symm (JV_step j)
    obtain ⟨i1, i2, i3⟩ := ih (k + 1) (adT τ (g2 k) (c2 k)) cb j2
    refine ⟨⟨?_, fun hn => ?_, i1⟩, ?_, i3⟩
    · have := JV_len j
      rwa [tlT_len] at this
    · have := JV_new j (seat_noT hn)
      rwa [tlT_len] at this
    · rw [addAll_cons]
      exact i2.trans (addAll_L _ ca)
def LJ (J : RowM) : List P3 := seg (pr3 (rG J) (rC J) (rE J)) (rT J) 0
def k3 (p : P3) : Int32 := p.1
theorem LJ_ibw {J : RowM} {x y z : Int32} : LJ (ibwR J x y z) = insE stB (pr3 (rG J) (rC J) (rE J)) (x, y, z) (rT J) := by
  have h := (insF_seg (rT J) (upd (rG J) (rT J) x, upd (rC J) (rT J) y, upd (rE J) (rT J) z)).1
  have e : pr3 (upd (rG J) (rT J) x) (upd (rC J) (rT J) y) (upd (rE J) (rT J) z) (rT J) = (x, y, z) := by
    unfold pr3
    rw [upd_at, upd_at, upd_at]
  refine Eq.trans h ?_
  show insE stB (pr3 (upd (rG J) (rT J) x) (upd (rC J) (rT J) y) (upd (rE J) (rT J) z)) (pr3 (upd (rG J) (rT J) x) (upd (rC J) (rT J) y) (upd (rE J) (rT J) z) (rT J)) (rT J) = _
  rw [e]
  exact insE_congr _ (fun j hj => by
    unfold pr3
    rw [upd_n (by omega), upd_n (by omega), upd_n (by omega)])
/-- the most and the least of a guest -/
theorem mws_le {c : Nat → Int32} {Q n : Nat} {tot : Int} (h0 : 0 ≤ tot) (hn : n ≤ 12) (hc : ∀ k, k < n → (c k).toInt ≤ tot) : (mwsR c Q n).toInt ≤ tot := by
  have z : (0 : Int32).toInt = 0 := by decide +kernel
  have key : ∀ d k a, k + d = n → (Int32.toInt a) ≤ tot → (fold (fun a k => if c k < a then c k else a) d k a).toInt ≤ tot := by
    intro d
    induction d with
    | zero => intro k a _ ha; exact ha
    | succ d ih =>
      intro k a hk ha
      unfold fold
      refine ih (k + 1) _ (by omega) ?_
      by_cases h : c k < a
      · rw [if_pos h]; exact hc k (by omega)
      · rw [if_neg h]; exact ha
  unfold mwsR
  by_cases h1 : n < Q
  · rw [if_pos h1, z]
    exact h0
  · rw [if_neg h1]
    by_cases hn0 : n = 0
    · subst hn0
      show (at_ c 0 0).toInt ≤ tot
      have : at_ c 0 0 = 0 := by
        unfold at_
        rw [if_neg (by decide +kernel), if_neg (by decide +kernel)]
      rw [this, z]
      exact h0
    · refine key (n - 1) 1 _ (by omega) ?_
      rw [at_0 (by omega) (by omega)]
      exact hc 0 (by omega)
theorem cpN_v {f2 : Nat → Int32} : ∀ (n k : Nat) (f : Nat → Int32) (j : Nat), cpN f2 f n k j = if k ≤ j ∧ j < k + n then f2 j else f j := by
  intro n
  induction n with
  | zero =>
    intro k f j
    rw [if_neg (by omega)]
    rfl
  | succ n ih =>
    intro k f j
    unfold cpN
    rw [ih]
    by_cases h : k ≤ j ∧ j < k + (n + 1)
    · rw [if_pos h]
      by_cases h2 : j = k
      · subst h2
        rw [if_neg (by omega), upd_at]
      · rw [if_pos (by omega)]
    · rw [if_neg h, if_neg (by omega), upd_n (by omega)]
