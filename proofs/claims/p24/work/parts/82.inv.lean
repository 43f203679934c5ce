/-! what holds of a stream, and the bounds of its counts: lists and look-ups -/
theorem lk_no : ∀ (L : List P2) (x : Int32), x ∉ L.map Prod.fst → lkT L x = 0
  | [], _, _ => rfl
  | p :: l, x, h => by
    unfold lkT
    rw [if_neg (fun e => h (by rw [← e]; exact List.mem_cons_self)), lk_no l x (fun q => h (List.mem_cons_of_mem _ q))]
theorem lk_cs : ∀ (L : List P2) (x : Int32), (∃ p, p ∈ L ∧ p.1 = x ∧ lkT L x = p.2) ∨ (x ∉ L.map Prod.fst ∧ lkT L x = 0)
  | [], _ => Or.inr ⟨fun h => (by cases h), rfl⟩
  | p :: l, x => by
    by_cases h : p.1 = x
    · exact Or.inl ⟨p, List.mem_cons_self, h, by unfold lkT; rw [if_pos h]⟩
    · have e : lkT (p :: l) x = lkT l x := by
        show (if p.1 = x then p.2 else lkT l x) = lkT l x
        rw [if_neg h]
      rw [e]
      rcases lk_cs l x with ⟨q, q1, q2, q3⟩ | ⟨q1, q2⟩
      · exact Or.inl ⟨q, List.mem_cons_of_mem _ q1, q2, q3⟩
      · refine Or.inr ⟨fun k => ?_, q2⟩
        rcases List.mem_cons.mp k with k | k
        · exact h k.symm
        · exact q1 k
theorem lk_mem : ∀ (L : List P2), (L.map Prod.fst).Nodup → ∀ p, p ∈ L → lkT L p.1 = p.2
  | [], _, p, h => by cases h
  | q :: l, hn, p, h => by
    obtain ⟨n1, n2⟩ := List.nodup_cons.mp hn
    unfold lkT
    rcases List.mem_cons.mp h with rfl | k
    · rw [if_pos rfl]
    · have hne : ¬ q.1 = p.1 := fun e => n1 (by rw [e]; exact List.mem_map.mpr ⟨p, k, rfl⟩)
      rw [if_neg hne, lk_mem l n2 p k]
theorem lk_bmp_n {x y z : Int32} (hz : z ≠ x) : ∀ L : List P2, lkT (L.map (bmp x y)) z = lkT L z
  | [] => rfl
  | p :: l => by
    show (if (bmp x y p).1 = z then (bmp x y p).2 else lkT (l.map (bmp x y)) z) = (if p.1 = z then p.2 else lkT l z)
    rw [bmp_1, lk_bmp_n hz l]
    by_cases h : p.1 = z
    · rw [if_pos h, if_pos h]
      unfold bmp
      rw [if_neg (fun e => hz (h.symm.trans e))]
    · rw [if_neg h, if_neg h]
theorem lk_bmp_s {x y : Int32} : ∀ L : List P2, x ∈ L.map Prod.fst → lkT (L.map (bmp x y)) x = lkT L x + y
  | [], h => by cases h
  | p :: l, h => by
    show (if (bmp x y p).1 = x then (bmp x y p).2 else lkT (l.map (bmp x y)) x) = (if p.1 = x then p.2 else lkT l x) + y
    rw [bmp_1]
    by_cases h1 : p.1 = x
    · rw [if_pos h1, if_pos h1]
      unfold bmp
      rw [if_pos h1]
    · rw [if_neg h1, if_neg h1]
      refine lk_bmp_s l ?_
      rcases List.mem_cons.mp h with k | k
      · exact absurd k.symm h1
      · exact k
theorem lk_app {x y z : Int32} : ∀ L : List P2, x ∉ L.map Prod.fst → lkT (L ++ [(x, y)]) z = if z = x then y else lkT L z
  | [], _ => by
    show (if x = z then y else 0) = (if z = x then y else 0)
    by_cases h : z = x
    · rw [if_pos h, if_pos h.symm]
    · rw [if_neg h, if_neg (fun e => h e.symm)]
  | p :: l, hx => by
    have h1 : ¬ p.1 = x := fun e => hx (by rw [← e]; exact List.mem_cons_self)
    show (if p.1 = z then p.2 else lkT (l ++ [(x, y)]) z) = (if z = x then y else if p.1 = z then p.2 else lkT l z)
    rw [lk_app l (fun q => hx (List.mem_cons_of_mem _ q))]
    by_cases h : z = x
    · rw [if_pos h, if_pos h, if_neg (fun e => h1 (e.trans h))]
    · rw [if_neg h, if_neg h]
theorem lk_add {x y z : Int32} {L : List P2} : lkT (addL x y L) z = if z = x then lkT L x + y else lkT L z := by
  by_cases hx : x ∈ L.map Prod.fst
  · rw [addL_in hx]
    by_cases h : z = x
    · rw [if_pos h, h, lk_bmp_s L hx]
    · rw [if_neg h, lk_bmp_n h L]
  · rw [addL_no hx, lk_app L hx]
    by_cases h : z = x
    · rw [if_pos h, if_pos h, lk_no L x hx, Int32.zero_add]
    · rw [if_neg h, if_neg h]
theorem addAll_mem {z : Int32} : ∀ (R L : List P2), z ∈ (addAll R L).map Prod.fst ↔ z ∈ R.map Prod.fst ∨ z ∈ L.map Prod.fst
  | [], L => ⟨Or.inr, fun h => h.elim (fun q => by cases q) id⟩
  | p :: R, L => by
    rw [addAll_cons, addAll_mem R, addL_mem, List.map_cons, List.mem_cons]
    constructor
    · rintro (h | h | h)
      · exact Or.inl (Or.inr h)
      · exact Or.inl (Or.inl h)
      · exact Or.inr h
    · rintro ((h | h) | h)
      · exact Or.inr (Or.inl h)
      · exact Or.inl h
      · exact Or.inr (Or.inr h)
theorem lk_all {x : Int32} : ∀ (R L : List P2), (R.map Prod.fst).Nodup → lkT (addAll R L) x = lkT L x + lkT R x
  | [], L, _ => by
    show lkT L x = lkT L x + 0
    rw [Int32.add_zero]
  | p :: R, L, h => by
    obtain ⟨n1, n2⟩ := List.nodup_cons.mp h
    rw [addAll_cons, lk_all R _ n2, lk_add]
    show _ = lkT L x + (if p.1 = x then p.2 else lkT R x)
    by_cases e : x = p.1
    · rw [if_pos e, if_pos e.symm, ← e, lk_no R x (by rw [e]; exact n1), Int32.add_zero]
    · rw [if_neg e, if_neg (fun q => e q.symm)]
theorem seg_nd {g : Nat → Int32} : ∀ d k, (∀ i j, k ≤ i → i < k + d → k ≤ j → j < k + d → g i = g j → i = j) → (seg g d k).Nodup
  | 0, _, _ => List.Pairwise.nil
  | d + 1, k, h => by
    unfold seg
    refine List.nodup_cons.mpr ⟨fun q => ?_, seg_nd d (k + 1) (fun i j h1 h2 h3 h4 e => h i j (by omega) (by omega) (by omega) (by omega) e)⟩
    obtain ⟨j, j1, j2, j3⟩ := (seg_mem d (k + 1)).mp q
    have := h k j (Nat.le_refl _) (by omega) (by omega) (by omega) j3
    omega
theorem nd_sub {α : Type} : ∀ (L M : List α), L.Nodup → (∀ x, x ∈ L → x ∈ M) → L.length ≤ M.length
  | [], _, _, _ => Nat.zero_le _
  | a :: L, M, hn, h => by
    obtain ⟨n1, n2⟩ := List.nodup_cons.mp hn
    obtain ⟨s, t, e⟩ := List.append_of_mem (h a List.mem_cons_self)
    subst e
    have := nd_sub L (s ++ t) n2 (fun x hx => by
      have h1 := h x (List.mem_cons_of_mem _ hx)
      rcases List.mem_append.mp h1 with q | q
      · exact List.mem_append_left _ q
      · rcases List.mem_cons.mp q with r | r
        · subst r
          exact absurd hx n1
        · exact List.mem_append_right _ r)
    rw [List.length_append] at this ⊢
    rw [List.length_cons, List.length_cons]
    omega
/-! what holds of rows, of true counts, of streams -/
def trT (τ : TalM) (x : Int32) : Int := (lkT (tlT τ) x).toInt
def DR (g c e : Nat → Int32) (t : Nat) (tot : Int) : Prop := (∀ i j, i < t → j < t → g i = g j → i = j) ∧ ∀ k, k < t → isCd (g k) = true ∧ 0 ≤ (e k).toInt ∧ (e k).toInt ≤ (c k).toInt ∧ 1 ≤ (c k).toInt ∧ (c k).toInt ≤ tot
def RB (ρ : RowM) (tot : Int) : Prop := rT ρ ≤ rS ρ ∧ 1 ≤ rS ρ ∧ rS ρ ≤ 12 ∧ DR (rG ρ) (rC ρ) (rE ρ) (rT ρ) tot
def TB (τ : TalM) (tot : Int) : Prop := tN τ ≤ 60 ∧ srtT (tlT τ) ∧ ((tlT τ).map Prod.fst).Nodup ∧ ∀ p, p ∈ tlT τ → isCd p.1 = true ∧ 1 ≤ p.2.toInt ∧ p.2.toInt ≤ tot
def SB (S : StrM) : Prop := 0 ≤ (sN S).toInt ∧ (sN S).toInt ≤ 99999 ∧ RB (sR S) (sN S).toInt ∧ TB (sT S) (sN S).toInt
/-- the true counts lie between: those with seats, and those without -/
def BX (g c e : Nat → Int32) (t : Nat) (tr : Int32 → Int) : Prop := (∀ k, k < t → (c k).toInt - (e k).toInt ≤ tr (g k) ∧ tr (g k) ≤ (c k).toInt) ∧ ∀ x, (∀ k, k < t → g k ≠ x) → ∀ k, k < t → tr x ≤ (c k).toInt
def BZ (g : Nat → Int32) (s t : Nat) (tr : Int32 → Int) : Prop := t < s → ∀ x, (∀ k, k < t → g k ≠ x) → tr x = 0
def BT (S : StrM) : Prop := BX (rG (sR S)) (rC (sR S)) (rE (sR S)) (rT (sR S)) (trT (sT S)) ∧ BZ (rG (sR S)) (rS (sR S)) (rT (sR S)) (trT (sT S))
def smR (c : Nat → Int32) (t : Nat) : Int32 := fold (fun a k => a + c k) t 0 0
def SM (S : StrM) : Prop := smR (rC (sR S)) (rT (sR S)) = sN S
theorem z_int : Int32.toInt 0 = 0 := by decide +kernel
theorem tr_nn {τ : TalM} {tot : Int} (h : TB τ tot) (ht : 0 ≤ tot) (x : Int32) : 0 ≤ trT τ x ∧ trT τ x ≤ tot := by
  unfold trT
  rcases lk_cs (tlT τ) x with ⟨p, p1, p2, p3⟩ | ⟨p1, p2⟩
  · rw [p3]
    have := h.2.2.2 p p1
    omega
  · rw [p2, z_int]
    exact ⟨Int.le_refl _, ht⟩
theorem tr_perm {τ : TalM} {L : List P2} (h : (tlT τ).Perm L) (hn : ((tlT τ).map Prod.fst).Nodup) (x : Int32) : trT τ x = (lkT L x).toInt := by
  unfold trT
  rw [lk_perm h hn]
theorem tr_at {τ : TalM} {tot : Int} (h : TB τ tot) (x : Int32) : at_ (tC τ) (tN τ) (seatOfR (tG τ) (tN τ) x) = lkT (tlT τ) x := lk_at (by have := h.1; omega)
theorem tl_in {τ : TalM} {k : Nat} (hk : k < tN τ) : (tG τ k, tC τ k) ∈ tlT τ := seg_in (f := pr2 (tG τ) (tC τ)) (by omega) (by omega)
theorem RB_l {ρ : RowM} {tot : Int} (h : RB ρ tot) : ((LJ ρ).map k3).Nodup ∧ ∀ p, p ∈ LJ ρ → isCd p.1 = true ∧ 0 ≤ p.2.2.toInt ∧ p.2.2.toInt ≤ p.2.1.toInt ∧ 1 ≤ p.2.1.toInt ∧ p.2.1.toInt ≤ tot := by
  obtain ⟨h1, h2, h3, h4, h5⟩ := h
  refine ⟨?_, fun p hp => ?_⟩
  · have e : (LJ ρ).map k3 = seg (rG ρ) (rT ρ) 0 := seg_map _ _ _
    rw [e]
    exact seg_nd _ _ (fun i j _ hi _ hj q => h4 i j (by omega) (by omega) q)
  · obtain ⟨j, j1, j2, j3⟩ := (seg_mem _ _).mp hp
    subst j3
    exact h5 j (by omega)
theorem RB_of {ρ : RowM} {tot : Int} (h1 : rT ρ ≤ rS ρ) (h2 : 1 ≤ rS ρ) (h3 : rS ρ ≤ 12) (hn : ((LJ ρ).map k3).Nodup) (hb : ∀ p, p ∈ LJ ρ → isCd p.1 = true ∧ 0 ≤ p.2.2.toInt ∧ p.2.2.toInt ≤ p.2.1.toInt ∧ 1 ≤ p.2.1.toInt ∧ p.2.1.toInt ≤ tot) : RB ρ tot := by
  have e : (LJ ρ).map k3 = seg (rG ρ) (rT ρ) 0 := seg_map _ _ _
  rw [e] at hn
  exact ⟨h1, h2, h3, seg_dist hn, fun k hk => hb (pr3 (rG ρ) (rC ρ) (rE ρ) k) (seg_in (by omega) (by omega))⟩
theorem SB_ok {S : StrM} (h : SB S) : okSt S := ⟨h.2.2.1.2.2.1, h.2.2.1.2.1, h.2.2.1.1, h.2.2.2.1⟩
