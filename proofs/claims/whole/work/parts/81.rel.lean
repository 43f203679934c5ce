/-! the class's stream and the reference's: the relation -/
def tlT (τ : TalM) : List P2 := seg (pr2 (tG τ) (tC τ)) (tN τ) 0
def okTL (L : List P2) (tot : Int32) : Prop := (L.map Prod.fst).Nodup ∧ ∀ p, p ∈ L → 1 ≤ p.2.toInt ∧ p.2.toInt ≤ tot.toInt
def srtT (L : List P2) : Prop := L.Pairwise (fun a b => tlB a b = true)
def RT (τ : TalM) (h d : Nat → Int32) (tot : Int32) : Prop := tN τ ≤ 60 ∧ (seg (pr2 h d) (tN τ) 0).Perm (tlT τ) ∧ srtT (tlT τ) ∧ okTL (tlT τ) tot
def RW (ρ : RowM) (g c e : Nat → Int32) (tot : Int32) : Prop := rT ρ ≤ rS ρ ∧ 1 ≤ rS ρ ∧ rS ρ ≤ 12 ∧ (∀ k, k < rT ρ → rG ρ k = g k ∧ rC ρ k = c k ∧ rE ρ k = e k) ∧ (∀ i j, i < rT ρ → j < rT ρ → g i = g j → i = j) ∧ (∀ k, k < rT ρ → 0 ≤ (e k).toInt ∧ (e k).toInt ≤ (c k).toInt ∧ 1 ≤ (c k).toInt ∧ (c k).toInt ≤ tot.toInt)
def RS (S : StrM) (s : Nat → Int32) (t : Nat) : Prop := RW (sR S) (vG s t) (vC s t) (vE s t) (gt s t 0) ∧ RT (sT S) (vH s t) (vD s t) (gt s t 0) ∧ gt s t 1 = nI (rT (sR S)) ∧ gt s t 39 = nI (tN (sT S)) ∧ s 0 = nI (rS (sR S)) ∧ sN S = gt s t 0 ∧ sV S = gt s t 2 ∧ 0 ≤ (gt s t 0).toInt ∧ (gt s t 0).toInt ≤ 99999
def RA (A : StaM) (s : Nat → Int32) : Prop := (∀ t, t < 2 → RS (stOf A (nI t)) s t) ∧ rS (sR (aO A)) = rS (sR (aZ A))
def nA (A : StaM) (t : Nat) : Nat := rT (sR (stOf A (nI t)))
def NA (A : StaM) (t : Nat) : Nat := tN (sT (stOf A (nI t)))
def QA (A : StaM) : Nat := rS (sR (aZ A))
theorem st_0 {A : StaM} : stOf A (nI 0) = aZ A := if_pos nI_0
theorem st_1 {A : StaM} : stOf A (nI 1) = aO A := if_neg (by decide +kernel)
theorem RA_z {A : StaM} {s : Nat → Int32} (h : RA A s) : RS (aZ A) s 0 := by
  have := h.1 0 (by omega)
  rwa [st_0] at this
theorem RA_o {A : StaM} {s : Nat → Int32} (h : RA A s) : RS (aO A) s 1 := by
  have := h.1 1 (by omega)
  rwa [st_1] at this
theorem RA_mk {A : StaM} {s : Nat → Int32} (h0 : RS (aZ A) s 0) (h1 : RS (aO A) s 1) (hq : rS (sR (aO A)) = rS (sR (aZ A))) : RA A s := by
  refine ⟨fun t ht => ?_, hq⟩
  have : t = 0 ∨ t = 1 := by omega
  rcases this with rfl | rfl
  · rw [st_0]; exact h0
  · rw [st_1]; exact h1
theorem RA_q {A : StaM} {s : Nat → Int32} (h : RA A s) {t : Nat} (ht : t < 2) : rS (sR (stOf A (nI t))) = QA A := by
  have : t = 0 ∨ t = 1 := by omega
  rcases this with rfl | rfl
  · rw [st_0]; rfl
  · rw [st_1]; exact h.2
theorem RS_ok {S : StrM} {s : Nat → Int32} {t : Nat} (h : RS S s t) : okSt S := ⟨h.1.2.2.1, h.1.2.1, h.1.1, h.2.1.1⟩
theorem RS_rv {S : StrM} {s : Nat → Int32} {t : Nat} (h : RS S s t) : rvOK s t (rT (sR S)) (tN (sT S)) (rS (sR S)) := ⟨h.2.2.1, h.1.1, h.1.2.1, h.1.2.2.1, h.2.2.2.2.1, h.2.2.2.1, h.2.1.1, fun k hk => by have := h.1.2.2.2.2.2 k hk; omega⟩
theorem RA_ok {A : StaM} {s : Nat → Int32} (h : RA A s) : okSa A := ⟨RS_ok (RA_z h), RS_ok (RA_o h)⟩
theorem RA_rv {A : StaM} {s : Nat → Int32} (h : RA A s) : ∀ t, t < 2 → rvOK s t (nA A t) (NA A t) (QA A) := fun t ht => by
  have := RS_rv (h.1 t ht)
  rwa [RA_q h ht] at this
theorem RS_he {S : StrM} {s : Nat → Int32} {t : Nat} (h : RS S s t) : ∀ k, k < rT (sR S) → 0 ≤ (vE s t k).toInt := fun k hk => (h.1.2.2.2.2.2 k hk).1
/-- rows: what is asked of them, is the same -/
theorem w_seat {x : Int32} {ρ : RowM} {g c e : Nat → Int32} {tot : Int32} (h : RW ρ g c e tot) : seatOfR (rG ρ) (rT ρ) x = seatOfR g (rT ρ) x := fnd_congr _ _ (fun j _ h2 => by rw [(h.2.2.2.1 j (by omega)).1])
theorem w_seatO {x : Int32} {ρ : RowM} {g c e : Nat → Int32} {tot : Int32} (h : RW ρ g c e tot) : seatO (rG ρ) (rT ρ) x = seatO g (rT ρ) x := fndO_congr _ _ (fun j _ h2 => by rw [(h.2.2.2.1 j (by omega)).1])
theorem w_g {i : Int32} {ρ : RowM} {g c e : Nat → Int32} {tot : Int32} (h : RW ρ g c e tot) : at_ (rG ρ) (rT ρ) i = at_ g (rT ρ) i := at_congr (by have := h.1; have := h.2.2.1; omega) (fun j hj => (h.2.2.2.1 j hj).1)
theorem w_c {i : Int32} {ρ : RowM} {g c e : Nat → Int32} {tot : Int32} (h : RW ρ g c e tot) : at_ (rC ρ) (rT ρ) i = at_ c (rT ρ) i := at_congr (by have := h.1; have := h.2.2.1; omega) (fun j hj => (h.2.2.2.1 j hj).2.1)
theorem w_e {i : Int32} {ρ : RowM} {g c e : Nat → Int32} {tot : Int32} (h : RW ρ g c e tot) : at_ (rE ρ) (rT ρ) i = at_ e (rT ρ) i := at_congr (by have := h.1; have := h.2.2.1; omega) (fun j hj => (h.2.2.2.1 j hj).2.2)
theorem w_mws {ρ : RowM} {g c e : Nat → Int32} {tot : Int32} (h : RW ρ g c e tot) : mwsR (rC ρ) (rS ρ) (rT ρ) = mwsR c (rS ρ) (rT ρ) := by
  unfold mwsR
  rw [w_c h, fold_cg (g := fun a k => if c k < a then c k else a) (rT ρ - 1) 1 _ (fun a j h1 h2 => by rw [(h.2.2.2.1 j (by omega)).2.1])]
theorem w_mos {x : Int32} {ρ : RowM} {g c e : Nat → Int32} {tot : Int32} (h : RW ρ g c e tot) : mosR ρ x = mostR g c (rS ρ) (rT ρ) x := by
  unfold mosR mostR
  rw [w_seat h, w_mws h, w_c h]
theorem w_lea {i : Int32} {ρ : RowM} {g c e : Nat → Int32} {tot : Int32} (h : RW ρ g c e tot) : leastAtR (rC ρ) (rE ρ) (rT ρ) i = leastAtR c e (rT ρ) i := by
  unfold leastAtR
  rw [w_c h, w_e h]
theorem w_les {x : Int32} {ρ : RowM} {g c e : Nat → Int32} {tot : Int32} (h : RW ρ g c e tot) : lesR ρ x = leastAtR c e (rT ρ) (seatOfR g (rT ρ) x) := by
  unfold lesR
  rw [w_lea h, w_seat h]
theorem w_sum {ρ : RowM} {g c e : Nat → Int32} {tot : Int32} (h : RW ρ g c e tot) : fold (fun a k => a + rC ρ k) (rT ρ) 0 0 = fold (fun a k => a + c k) (rT ρ) 0 0 := fold_cg _ _ _ (fun a j _ h2 => by rw [(h.2.2.2.1 j (by omega)).2.1])
theorem w_max {ρ : RowM} {g c e : Nat → Int32} {tot : Int32} (h : RW ρ g c e tot) : fold (fun a k => if a < rE ρ k then rE ρ k else a) (rT ρ) 0 0 = fold (fun a k => if a < e k then e k else a) (rT ρ) 0 0 := fold_cg _ _ _ (fun a j _ h2 => by rw [(h.2.2.2.1 j (by omega)).2.2])
theorem w_sur {l : Int32} {ρ : RowM} {g c e : Nat → Int32} {tot : Int32} (h : RW ρ g c e tot) : fold (fun (a : Nat) k => if l < 100 * (rC ρ k - rE ρ k) then a + 1 else a) (rT ρ) 0 0 = fold (fun (a : Nat) k => if l < 100 * (c k - e k) then a + 1 else a) (rT ρ) 0 0 := fold_cg _ _ _ (fun a j _ h2 => by rw [(h.2.2.2.1 j (by omega)).2.1, (h.2.2.2.1 j (by omega)).2.2])
theorem w_per {l : Int32} {ρ : RowM} {g c e : Nat → Int32} {tot : Int32} (h : RW ρ g c e tot) : fold (fun (a : Nat) k => if l < 100 * rC ρ k then a + 1 else a) (rT ρ) 0 0 = fold (fun (a : Nat) k => if l < 100 * c k then a + 1 else a) (rT ρ) 0 0 := fold_cg _ _ _ (fun a j _ h2 => by rw [(h.2.2.2.1 j (by omega)).2.1])
theorem fold_cgI {α : Type} {f g : α → Nat → α} {I : α → Prop} : ∀ d k x, I x → (∀ a j, k ≤ j → j < k + d → I a → f a j = g a j ∧ I (f a j)) → fold f d k x = fold g d k x
  | 0, _, _, _, _ => rfl
  | d + 1, k, x, hx, h => by
    unfold fold
    obtain ⟨h1, h2⟩ := h x k (Nat.le_refl _) (by omega) hx
    rw [← h1, fold_cgI (I := I) d (k + 1) _ h2 (fun a j q1 q2 => h a j (by omega) (by omega))]
theorem gbN_cg {c e c2 e2 : Nat → Int32} {k b : Nat} (h1 : c k = c2 k) (h2 : c b = c2 b) (h3 : e k = e2 k) (h4 : e b = e2 b) : gbN c e k b = gbN c2 e2 k b := by
  unfold gbN
  rw [h1, h2, h3, h4]
theorem ftg_cg {c e c2 e2 : Nat → Int32} {t : Nat} (hc : ∀ k, k < t → c k = c2 k) (he : ∀ k, k < t → e k = e2 k) : ftgN c e t = ftgN c2 e2 t := by
  unfold ftgN
  by_cases h0 : t = 0
  · exact fold_cg _ _ _ (fun a j h1 h2 => by omega)
  · refine fold_cgI (I := fun b => b < t) _ _ _ (by omega) (fun a j h1 h2 h3 => ?_)
    have hj : j < t := by omega
    rw [gbN_cg (hc j hj) (hc a h3) (he j hj) (he a h3)]
    refine ⟨rfl, ?_⟩
    by_cases h9 : gbN c2 e2 j a = true
    · rw [if_pos h9]; exact hj
    · rw [if_neg h9]; exact h3
theorem w_ftg {ρ : RowM} {g c e : Nat → Int32} {tot : Int32} (h : RW ρ g c e tot) : ftgN (rC ρ) (rE ρ) (rT ρ) = ftgN c e (rT ρ) := ftg_cg (fun k hk => (h.2.2.2.1 k hk).2.1) (fun k hk => (h.2.2.2.1 k hk).2.2)
theorem w_sef {x : Int32} {ρ : RowM} {g c e : Nat → Int32} {tot : Int32} (h : RW ρ g c e tot) : sefR ρ x = seatForR g c e (rS ρ) (rT ρ) x := by
  unfold sefR seatForR
  rw [w_seat h, w_ftg h]
theorem w_sefN {x : Int32} {ρ : RowM} {g c e : Nat → Int32} {tot : Int32} (h : RW ρ g c e tot) : sefN ρ x = sefN (g, c, e, rS ρ, rT ρ) x := by
  have e1 : seatO (rG ρ) (rT ρ) x = seatO g (rT ρ) x := w_seatO h
  have e2 := w_ftg h
  unfold sefN
  show (match seatO (rG ρ) (rT ρ) x with | some k => k | none => if rT ρ < rS ρ then rT ρ else ftgN (rC ρ) (rE ρ) (rT ρ)) = (match seatO g (rT ρ) x with | some k => k | none => if rT ρ < rS ρ then rT ρ else ftgN c e (rT ρ))
  rw [e1, e2]
/-- tables: looking up, which guests -/
def lkT : List P2 → Int32 → Int32
  | [], _ => 0
  | p :: l, x => if p.1 = x then p.2 else lkT l x
theorem lk_seg {g c : Nat → Int32} {x : Int32} {n : Nat} (hn : n < 2 ^ 31) : ∀ d k, k + d = n → at_ c n (fnd (fun k => decide (g k = x)) d k) = lkT (seg (pr2 g c) d k) x := by
  intro d
  induction d with
  | zero => intro k _; exact at_n6
  | succ d ih =>
    intro k hk
    unfold fnd seg lkT
    by_cases h : g k = x
    · rw [if_pos (decide_eq_true h), if_pos (show (pr2 g c k).1 = x from h), at_nI (by omega) hn]
      rfl
    · rw [if_neg (by rw [decide_eq_false h]; exact Bool.false_ne_true), if_neg (show ¬ (pr2 g c k).1 = x from h)]
      exact ih (k + 1) (by omega)
theorem lk_at {g c : Nat → Int32} {x : Int32} {n : Nat} (hn : n < 2 ^ 31) : at_ c n (seatOfR g n x) = lkT (seg (pr2 g c) n 0) x := lk_seg hn n 0 (by omega)
theorem lk_perm {x : Int32} {L L' : List P2} (h : L.Perm L') : (L.map Prod.fst).Nodup → lkT L x = lkT L' x := by
  induction h with
  | nil => intro _; rfl
  | cons a _ ih =>
    intro hn
    unfold lkT
    rw [ih (List.nodup_cons.mp hn).2]
  | swap a b l =>
    intro hn
    have h1 := (List.nodup_cons.mp hn).1
    have hne : ¬ b.1 = a.1 := fun k => h1 (by
      rw [k]
      exact List.mem_cons_self)
    show (if b.1 = x then b.2 else if a.1 = x then a.2 else lkT l x) = (if a.1 = x then a.2 else if b.1 = x then b.2 else lkT l x)
    by_cases e1 : a.1 = x
    · have e2 : ¬ b.1 = x := fun k => hne (k.trans e1.symm)
      rw [if_neg e2, if_pos e1, if_pos e1]
    · rw [if_neg e1, if_neg e1]
  | trans h1 _ ih1 ih2 =>
    intro hn
    rw [ih1 hn, ih2 ((h1.map Prod.fst).nodup hn)]
theorem seatO_nn {g : Nat → Int32} {x : Int32} : ∀ d k, fndO (fun k => decide (g k = x)) d k = none ↔ x ∉ seg g d k := by
  intro d
  induction d with
  | zero => intro k; exact ⟨fun _ h => (by cases h), fun _ => rfl⟩
  | succ d ih =>
    intro k
    unfold fndO seg
    rw [List.mem_cons]
    by_cases h : g k = x
    · rw [if_pos (decide_eq_true h)]
      exact ⟨fun q => (by cases q), fun q => absurd (Or.inl h.symm) q⟩
    · rw [if_neg (by rw [decide_eq_false h]; exact Bool.false_ne_true), ih (k + 1)]
      exact ⟨fun q r => r.elim (fun e => h e.symm) q, fun q r => q (Or.inr r)⟩
theorem seatO_no {g : Nat → Int32} {n : Nat} {x : Int32} : seatO g n x = none ↔ x ∉ seg g n 0 := seatO_nn n 0
theorem seatR_no {g : Nat → Int32} {n : Nat} {x : Int32} (hn : n < 2 ^ 31) : seatOfR g n x = -6 ↔ x ∉ seg g n 0 := by
  rw [← seatO_no]
  rcases seatR_cases (g := g) (t := n) (x := x) with ⟨h1, h2⟩ | ⟨j, j1, _, h1, h2⟩
  · exact ⟨fun _ => h1, fun _ => h2⟩
  · rw [h1, h2]
    exact ⟨fun q => absurd q (nI_n6 (by omega)), fun q => (by cases q)⟩
theorem keys_seg {g c : Nat → Int32} {d k : Nat} : (seg (pr2 g c) d k).map Prod.fst = seg g d k := seg_map _ _ _
theorem t_keys {τ : TalM} {h d : Nat → Int32} {tot : Int32} (r : RT τ h d tot) : (seg h (tN τ) 0).Perm (seg (tG τ) (tN τ) 0) := by
  have := r.2.1.map Prod.fst
  rwa [keys_seg, show (tlT τ).map Prod.fst = seg (tG τ) (tN τ) 0 from keys_seg] at this
theorem t_seat {x : Int32} {τ : TalM} {h d : Nat → Int32} {tot : Int32} (r : RT τ h d tot) : (seatOfR (tG τ) (tN τ) x = -6) = (seatOfR h (tN τ) x = -6) := by
  have hn : tN τ < 2 ^ 31 := by have := r.1; omega
  refine propext ?_
  rw [seatR_no hn, seatR_no hn, (t_keys r).mem_iff]
theorem t_seatO {x : Int32} {τ : TalM} {h d : Nat → Int32} {tot : Int32} (r : RT τ h d tot) : (seatO (tG τ) (tN τ) x = none) = (seatO h (tN τ) x = none) := by
  refine propext ?_
  rw [seatO_no, seatO_no, (t_keys r).mem_iff]
theorem t_nodup {τ : TalM} {h d : Nat → Int32} {tot : Int32} (r : RT τ h d tot) : ((seg (pr2 h d) (tN τ) 0).map Prod.fst).Nodup := (r.2.1.map Prod.fst).symm.nodup r.2.2.2.1
theorem t_lk {x : Int32} {τ : TalM} {h d : Nat → Int32} {tot : Int32} (r : RT τ h d tot) : at_ (tC τ) (tN τ) (seatOfR (tG τ) (tN τ) x) = at_ d (tN τ) (seatOfR h (tN τ) x) := by
  have hn : tN τ < 2 ^ 31 := by have := r.1; omega
  rw [lk_at hn, lk_at hn]
  exact (lk_perm r.2.1 (t_nodup r)).symm
theorem t_cnt {l : Int32} {τ : TalM} {h d : Nat → Int32} {tot : Int32} (r : RT τ h d tot) : fold (fun (a : Nat) k => if l < 100 * tC τ k then a + 1 else a) (tN τ) 0 0 = fold (fun (a : Nat) k => if l < 100 * d k then a + 1 else a) (tN τ) 0 0 := by
  rw [fold_cnt (f := pr2 (tG τ) (tC τ)) (q := fun p => decide (l < 100 * p.2)) (fun j => by show l < 100 * tC τ j ↔ decide (l < 100 * tC τ j) = true; rw [decide_eq_true_eq])]
  rw [fold_cnt (f := pr2 h d) (q := fun p => decide (l < 100 * p.2)) (fun j => by show l < 100 * d j ↔ decide (l < 100 * d j) = true; rw [decide_eq_true_eq])]
  rw [r.2.1.countP_eq]
  rfl
theorem t_unl {τ2 : TalM} {h2 d2 : Nat → Int32} {tot2 : Int32} {τ : TalM} {h d : Nat → Int32} {tot : Int32} (r : RT τ h d tot) (r2 : RT τ2 h2 d2 tot2) : unlT τ τ2 = fold (fun a k => if seatOfR h (tN τ) (h2 k) = -6 then a + 1 else a) (tN τ2) 0 (tN τ) := by
  unfold unlT
  rw [fold_cnt (f := tG τ2) (q := fun y => decide (seatOfR h (tN τ) y = -6)) (fun j => by rw [t_seat r, decide_eq_true_eq])]
  rw [fold_cnt (f := h2) (q := fun y => decide (seatOfR h (tN τ) y = -6)) (fun j => by rw [decide_eq_true_eq])]
  rw [(t_keys r2).countP_eq]
