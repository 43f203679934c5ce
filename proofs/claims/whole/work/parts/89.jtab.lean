/-! joining: the true counts -/
def addAll (R L : List P2) : List P2 := R.foldl (fun L p => addL p.1 p.2 L) L
theorem addAll_nil {L : List P2} : addAll [] L = L := rfl
theorem addAll_cons {p : P2} {R L : List P2} : addAll (p :: R) L = addAll R (addL p.1 p.2 L) := rfl
theorem addAll_L : ∀ (R : List P2) {L L' : List P2}, L.Perm L' → (addAll R L).Perm (addAll R L')
  | [], _, _, h => h
  | _ :: R, _, _, h => addAll_L R (addL_perm h)
theorem bmp_ne {x y : Int32} {p : P2} (h : p.1 ≠ x) : bmp x y p = p := if_neg h
theorem bmp_comm {x y x2 y2 : Int32} (h : x ≠ x2) (p : P2) : bmp x y (bmp x2 y2 p) = bmp x2 y2 (bmp x y p) := by
  by_cases h1 : p.1 = x
  · have h2 : p.1 ≠ x2 := fun e => h (h1.symm.trans e)
    rw [bmp_ne h2, bmp_ne (p := bmp x y p) (by rw [bmp_1]; exact h2)]
  · rw [bmp_ne h1, bmp_ne (p := bmp x2 y2 p) (by rw [bmp_1]; exact h1)]
theorem addL_comm {x y x2 y2 : Int32} {L : List P2} (h : x ≠ x2) : (addL x y (addL x2 y2 L)).Perm (addL x2 y2 (addL x y L)) := by
  by_cases h1 : x ∈ L.map Prod.fst
  · have a1 : x ∈ (addL x2 y2 L).map Prod.fst := addL_mem.mpr (Or.inr h1)
    by_cases h2 : x2 ∈ L.map Prod.fst
    · have a2 : x2 ∈ (addL x y L).map Prod.fst := addL_mem.mpr (Or.inr h2)
      rw [addL_in a1, addL_in a2, addL_in h1, addL_in h2, List.map_map, List.map_map]
      have e : (bmp x y ∘ bmp x2 y2) = (bmp x2 y2 ∘ bmp x y) := funext (fun p => bmp_comm h p)
      rw [e]
    · have a2 : x2 ∉ (addL x y L).map Prod.fst := fun q => (addL_mem.mp q).elim (fun e => h e.symm) h2
      rw [addL_in a1, addL_no a2, addL_in h1, addL_no h2, List.map_append, List.map_cons, List.map_nil, bmp_ne (p := (x2, y2)) (fun e => h e.symm)]
  · have a1 : x ∉ (addL x2 y2 L).map Prod.fst := fun q => (addL_mem.mp q).elim h h1
    by_cases h2 : x2 ∈ L.map Prod.fst
    · have a2 : x2 ∈ (addL x y L).map Prod.fst := addL_mem.mpr (Or.inr h2)
      rw [addL_no a1, addL_in a2, addL_no h1, addL_in h2, List.map_append, List.map_cons, List.map_nil, bmp_ne (p := (x, y)) h]
    · have a2 : x2 ∉ (addL x y L).map Prod.fst := fun q => (addL_mem.mp q).elim (fun e => h e.symm) h2
      rw [addL_no a1, addL_no a2, addL_no h1, addL_no h2, List.append_assoc, List.append_assoc]
      exact List.Perm.append_left L (List.Perm.swap _ _ _)
theorem addAll_R {R R' : List P2} (h : R.Perm R') : ∀ (L : List P2), (R.map Prod.fst).Nodup → (addAll R L).Perm (addAll R' L) := by
  induction h with
  | nil => intro L _; exact List.Perm.refl _
  | cons a _ ih =>
    intro L hn
    exact ih _ (List.nodup_cons.mp hn).2
  | swap a b l =>
    intro L hn
    have h1 := (List.nodup_cons.mp hn).1
    have hne : a.1 ≠ b.1 := fun e => h1 (by
      rw [← e]
      exact List.mem_cons_self)
    exact addAll_L l (addL_comm hne)
  | trans h1 _ ih1 ih2 =>
    intro L hn
    exact (ih1 L hn).trans (ih2 L ((h1.map Prod.fst).nodup hn))
/-- what holds while the table L takes up the rest R -/
def newK (L : List P2) (p : P2) : Bool := decide (p.1 ∉ L.map Prod.fst)
def JV (L R : List P2) (a b : Int) : Prop := 0 ≤ a ∧ 0 ≤ b ∧ a + b ≤ 99999 ∧ (L.map Prod.fst).Nodup ∧ (R.map Prod.fst).Nodup ∧ (∀ p, p ∈ R → 1 ≤ p.2.toInt ∧ p.2.toInt ≤ b) ∧ (∀ p, p ∈ L → 1 ≤ p.2.toInt ∧ p.2.toInt ≤ a + b ∧ (p.1 ∈ R.map Prod.fst → p.2.toInt ≤ a)) ∧ L.length + R.countP (newK L) ≤ 60
theorem newK_perm {L L' : List P2} (h : L.Perm L') (p : P2) : newK L p = newK L' p := by
  unfold newK
  exact decide_eq_decide.mpr (by rw [(h.map Prod.fst).mem_iff])
theorem JV_perm {L L' R : List P2} {a b : Int} (h : L.Perm L') (j : JV L R a b) : JV L' R a b := by
  obtain ⟨j1, j2, j3, j4, j5, j6, j7, j8⟩ := j
  refine ⟨j1, j2, j3, (h.map Prod.fst).nodup j4, j5, j6, fun p hp => j7 p (h.mem_iff.mpr hp), ?_⟩
  rw [← h.length_eq]
  have : newK L' = newK L := funext fun p => (newK_perm h p).symm
  rw [this]
  exact j8
theorem JV_R {L R R' : List P2} {a b : Int} (h : R.Perm R') (j : JV L R a b) : JV L R' a b := by
  obtain ⟨j1, j2, j3, j4, j5, j6, j7, j8⟩ := j
  refine ⟨j1, j2, j3, j4, (h.map Prod.fst).nodup j5, fun p hp => j6 p (h.mem_iff.mpr hp), fun p hp => ?_, ?_⟩
  · have := j7 p hp
    exact ⟨this.1, this.2.1, fun q => this.2.2 ((h.map Prod.fst).mem_iff.mpr q)⟩
  · rw [← h.countP_eq]
    exact j8
theorem JV_len {L R : List P2} {a b : Int} (j : JV L R a b) : L.length ≤ 60 := by
  have := j.2.2.2.2.2.2.2
  omega
theorem JV_new {p : P2} {L R : List P2} {a b : Int} (j : JV L (p :: R) a b) (h : p.1 ∉ L.map Prod.fst) : L.length < 60 := by
  have := j.2.2.2.2.2.2.2
  rw [List.countP_cons, if_pos (show newK L p = true from decide_eq_true h)] at this
  omega
theorem JV_step {p : P2} {L R : List P2} {a b : Int} (j : JV L (p :: R) a b) : JV (addL p.1 p.2 L) R a b := by
  obtain ⟨j1, j2, j3, j4, j5, j6, j7, j8⟩ := j
  obtain ⟨n1, n2⟩ := List.nodup_cons.mp j5
  have bp := j6 p List.mem_cons_self
  refine ⟨j1, j2, j3, addL_nodup j4, n2, fun q hq => j6 q (List.mem_cons_of_mem _ hq), ?_, ?_⟩
  · refine addL_all (P := fun q => 1 ≤ q.2.toInt ∧ q.2.toInt ≤ a + b ∧ (q.1 ∈ R.map Prod.fst → q.2.toInt ≤ a)) (fun q hq _ => ?_) (fun q hq e => ?_) ?_
    · have := j7 q hq
      exact ⟨this.1, this.2.1, fun k => this.2.2 (List.mem_cons_of_mem _ k)⟩
    · have := j7 q hq
      have hqa := this.2.2 (by
        rw [e]
        exact List.mem_cons_self)
      show 1 ≤ (q.2 + p.2).toInt ∧ (q.2 + p.2).toInt ≤ a + b ∧ (p.1 ∈ R.map Prod.fst → _)
      rw [adv (by omega) (by omega) (by omega) (by omega)]
      exact ⟨by omega, by omega, fun k => absurd k n1⟩
    · exact ⟨bp.1, by show p.2.toInt ≤ a + b; omega, fun k => absurd k n1⟩
  · have e : R.countP (newK (addL p.1 p.2 L)) = R.countP (newK L) := List.countP_congr (fun q hq => by
      have hne : q.1 ≠ p.1 := fun e => n1 (by
        rw [← e]
        exact List.mem_map.mpr ⟨q, hq, rfl⟩)
      unfold newK
      rw [decide_eq_true_eq, decide_eq_true_eq, addL_mem]
      exact ⟨fun k r => k (Or.inr r), fun k r => r.elim hne k⟩)
    rw [e, addL_len]
    rw [List.countP_cons] at j8
    by_cases h : p.1 ∈ L.map Prod.fst
    · rw [if_pos h]
      omega
    · rw [if_neg h]
      rw [if_pos (show newK L p = true from decide_eq_true h)] at j8
      omega
theorem JV_all : ∀ (R L : List P2) {a b : Int}, JV L R a b → JV (addAll R L) [] a b
  | [], _, _, _, j => j
  | _ :: R, _, _, _, j => JV_all R _ (JV_step j)
theorem tlT_len {τ : TalM} : (tlT τ).length = tN τ := seg_len _ _
theorem seat_noT {τ : TalM} {x : Int32} (h : seatO (tG τ) (tN τ) x = none) : x ∉ (tlT τ).map Prod.fst := seat_nokey h
/-- the class's table takes up another -/
theorem cls_all {g2 c2 : Nat → Int32} {a b : Int} : ∀ (m k : Nat) (τ : TalM), srtT (tlT τ) → JV (tlT τ) (seg (pr2 g2 c2) m k) a b → aaOK g2 c2 m k τ ∧ (tlT (aaF g2 c2 m k τ)).Perm (addAll (seg (pr2 g2 c2) m k) (tlT τ)) ∧ srtT (tlT (aaF g2 c2 m k τ)) := by
  intro m
  induction m with
  | zero =>
    intro k τ hs j
    have := JV_len j
    rw [tlT_len] at this
    exact ⟨this, List.Perm.refl _, hs⟩
  | succ m ih =>
    intro k τ hs j
    have es : seg (pr2 g2 c2) (m + 1) k = (g2 k, c2 k) :: seg (pr2 g2 c2) m (k + 1) := rfl
    rw [es] at j ⊢
    have bp := j.2.2.2.2.2.1 (g2 k, c2 k) List.mem_cons_self
    have bp1 : 1 ≤ (c2 k).toInt := bp.1
    have bp2 : (c2 k).toInt ≤ b := bp.2
    have h1 := j.1
    have h2 := j.2.1
    have h3 := j.2.2.1
    obtain ⟨ca, cb⟩ := cls_add (x := g2 k) (y := c2 k) hs j.2.2.2.1 (by omega) (by omega) (fun p hp => by have := j.2.2.2.2.2.2.1 p hp; omega)
    have j2 := JV_perm ca.symm (JV_step j)
    obtain ⟨i1, i2, i3⟩ := ih (k + 1) (adT τ (g2 k) (c2 k)) cb j2
    refine ⟨⟨?_, fun hn => ?_, i1⟩, ?_, i3⟩
    · have := JV_len j
      rwa [tlT_len] at this
    · have := JV_new j (seat_noT hn)
      rwa [tlT_len] at this
    · rw [addAll_cons]
      exact i2.trans (addAll_L _ ca)
/-- the reference's table takes up the other stream's -/
theorem ref_all {a b : Int} : ∀ (d k N : Nat) (s : Nat → Int32), JV (seg (pr2 (vH s 0) (vD s 0)) N 0) (seg (pr2 (vH s 1) (vD s 1)) d k) a b → k + d ≤ 60 → cnOK d k N s ∧ seg (pr2 (vH (cnA d k N s).2 0) (vD (cnA d k N s).2 0)) (cnA d k N s).1 0 = addAll (seg (pr2 (vH s 1) (vD s 1)) d k) (seg (pr2 (vH s 0) (vD s 0)) N 0) ∧ (∀ b, b < 160 → gt (cnA d k N s).2 1 b = gt s 1 b) ∧ (∀ b, b < 39 → gt (cnA d k N s).2 0 b = gt s 0 b) := by
  intro d
  induction d with
  | zero =>
    intro k N s j _
    have := JV_len j
    rw [seg_len] at this
    exact ⟨this, rfl, fun _ _ => rfl, fun _ _ => rfl⟩
  | succ d ih =>
    intro k N s j hk
    have es : seg (pr2 (vH s 1) (vD s 1)) (d + 1) k = (gt s 1 (40 + 2 * k), gt s 1 (41 + 2 * k)) :: seg (pr2 (vH s 1) (vD s 1)) d (k + 1) := rfl
    rw [es] at j ⊢
    have hN : N ≤ 60 := by
      have := JV_len j
      rwa [seg_len] at this
    have hf : seatO (vH s 0) N (gt s 1 (40 + 2 * k)) = none → N < 60 := fun hn => by
      have := JV_new j (seat_nokey hn)
      rwa [seg_len] at this
    have ra := ref_add (x := gt s 1 (40 + 2 * k)) (y := gt s 1 (41 + 2 * k)) j.2.2.2.1
    have j2 := JV_step j
    dsimp only at j2
    rw [← ra] at j2
    have o1 : ∀ b, b < 160 → gt (ctF s 0 N (gt s 1 (40 + 2 * k)) (gt s 1 (41 + 2 * k))) 1 b = gt s 1 b := fun b hb => ctF_o (by omega) hN hf hb
    have lo : ∀ b, b < 39 → gt (ctF s 0 N (gt s 1 (40 + 2 * k)) (gt s 1 (41 + 2 * k))) 0 b = gt s 0 b := fun b hb => ctF_lo hb
    have e2 : seg (pr2 (vH (ctF s 0 N (gt s 1 (40 + 2 * k)) (gt s 1 (41 + 2 * k))) 1) (vD (ctF s 0 N (gt s 1 (40 + 2 * k)) (gt s 1 (41 + 2 * k))) 1)) d (k + 1) = seg (pr2 (vH s 1) (vD s 1)) d (k + 1) := seg_congr _ _ (fun i _ q => by
      show (gt _ 1 (40 + 2 * i), gt _ 1 (41 + 2 * i)) = (gt s 1 (40 + 2 * i), gt s 1 (41 + 2 * i))
      rw [o1 _ (by omega), o1 _ (by omega)])
    obtain ⟨i1, i2, i3, i4⟩ := ih (k + 1) (ctN s 0 N (gt s 1 (40 + 2 * k))) (ctF s 0 N (gt s 1 (40 + 2 * k)) (gt s 1 (41 + 2 * k))) (by rw [e2]; exact j2) (by omega)
    refine ⟨⟨hN, hf, i1⟩, ?_, fun b hb => (i3 b hb).trans (o1 b hb), fun b hb => (i4 b hb).trans (lo b hb)⟩
    rw [addAll_cons]
    refine i2.trans ?_
    rw [e2, ra]
theorem cnA_39 : ∀ (d k N : Nat) (s : Nat → Int32), gt s 0 39 = nI N → gt (cnA d k N s).2 0 39 = nI (cnA d k N s).1 := by
  intro d
  induction d with
  | zero => intro k N s h; exact h
  | succ d ih =>
    intro k N s h
    unfold cnA
    exact ih _ _ _ (ctF_39 h)
