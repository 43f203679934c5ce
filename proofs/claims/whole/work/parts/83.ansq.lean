/-! questions have the same answers: the methods -/
def VS (S : StrM) (s : Nat → Int32) (t : Nat) : StrM := vS s t (rT (sR S)) (tN (sT S)) (rS (sR S))
def VA (A : StaM) (s : Nat → Int32) : StaM := vB s (nA A) (NA A) (QA A)
theorem VA_st {A : StaM} {s : Nat → Int32} (h : RA A s) {t : Nat} (ht : t < 2) : stOf (VA A s) (nI t) = VS (stOf A (nI t)) s t := by
  unfold VA VS
  rw [stOf_vB ht, RA_q h ht]
  rfl
theorem q_gen {F : StrM → Int32} {A : StaM} {s : Nat → Int32} (h : RA A s) (hF : ∀ S t, t < 2 → RS S s t → F S = F (VS S s t)) {x d : Int32} : (if isSt x = true then F (stOf A x) else d) = (if isSt x = true then F (stOf (VA A s) x) else d) := by
  cases hs : isSt x
  · rw [if_neg Bool.false_ne_true, if_neg Bool.false_ne_true]
  · rw [if_pos rfl, if_pos rfl]
    obtain ⟨t, ht, rfl⟩ := st_cases hs
    rw [VA_st h ht, hF _ t ht (h.1 t ht)]
theorem q_genE {F : StrM → Int32} {A : StaM} {s : Nat → Int32} (h : RA A s) (hF : ∀ S t, t < 2 → RS S s t → F S = F (VS S s t)) {x y : Int32} : (if errA x y = 0 then F (stOf A x) else errA x y) = (if errA x y = 0 then F (stOf (VA A s) x) else errA x y) := by
  by_cases he : errA x y = 0
  · rw [if_pos he, if_pos he]
    obtain ⟨t, ht, rfl⟩ := st_cases (errA_0 he).1
    rw [VA_st h ht, hF _ t ht (h.1 t ht)]
  · rw [if_neg he, if_neg he]
def b85 (i w : Int32) (S : StrM) : Int32 := if in_ (rT (sR S)) i = true then (if w = 0 then at_ (rG (sR S)) (rT (sR S)) i else if w = 1 then at_ (rC (sR S)) (rT (sR S)) i else if w = 2 then at_ (rE (sR S)) (rT (sR S)) i else if w = 3 then at_ (tC (sT S)) (tN (sT S)) (seatOfR (tG (sT S)) (tN (sT S)) (at_ (rG (sR S)) (rT (sR S)) i)) else -2) else -1
theorem Q85 {x i w : Int32} {A : StaM} {s : Nat → Int32} (h : RA A s) : f85 A x i w = f85 (VA A s) x i w := by
  refine q_gen (F := b85 i w) h (fun S t ht r => ?_)
  unfold b85
  rw [t_lk r.2.1, w_g r.1, w_c r.1, w_e r.1]
  rfl
def b86 (y w : Int32) (S : StrM) : Int32 := if w = 0 then seatOfR (rG (sR S)) (rT (sR S)) y else if w = 1 then mosR (sR S) y else if w = 2 then lesR (sR S) y else if w = 3 then at_ (tC (sT S)) (tN (sT S)) (seatOfR (tG (sT S)) (tN (sT S)) y) else if w = 4 then nI (letS y) else -2
theorem Q86 {x y w : Int32} {A : StaM} {s : Nat → Int32} (h : RA A s) : f86 A x y w = f86 (VA A s) x y w := by
  refine q_genE (F := b86 y w) h (fun S t ht r => ?_)
  unfold b86
  rw [t_lk r.2.1, w_mos r.1, w_les r.1, w_seat r.1]
  rfl
def b87 (w : Int32) (S : StrM) : Int32 := if w = 0 then sN S else if w = 1 then nI (rT (sR S)) else if w = 2 then nI (tN (sT S)) else if w = 3 then mwsR (rC (sR S)) (rS (sR S)) (rT (sR S)) else if w = 4 then fold (fun a k => a + rC (sR S) k) (rT (sR S)) 0 0 else if w = 5 then fold (fun a k => if a < rE (sR S) k then rE (sR S) k else a) (rT (sR S)) 0 0 else if w = 6 then sV S else -2
theorem Q87 {x w : Int32} {A : StaM} {s : Nat → Int32} (h : RA A s) : f87 A x w = f87 (VA A s) x w := by
  refine q_gen (F := b87 w) h (fun S t ht r => ?_)
  unfold b87
  rw [r.2.2.2.2.2.1, r.2.2.2.2.2.2.1, w_mws r.1, w_sum r.1, w_max r.1]
  rfl
theorem Q88 {sz n : Nat} {P P2 : PadM} {w : Int32} {A : StaM} {s : Nat → Int32} (h : RA A s) (hz : n = sz) (hp : P2.2 = P.2) : f88 A sz P w = f88 (VA A s) n P2 w := by
  unfold f88
  rw [hz, hp]
  rfl
def b89 (y w : Int32) (S : StrM) : Int32 := if y < 0 then -2 else if 100 < y then -2 else if w = 0 then nI (fold (fun a k => if y * sN S < 100 * (rC (sR S) k - rE (sR S) k) then a + 1 else a) (rT (sR S)) 0 0) else if w = 1 then nI (fold (fun a k => if y * sN S < 100 * rC (sR S) k then a + 1 else a) (rT (sR S)) 0 0) else if w = 2 then nI (fold (fun a k => if y * sN S < 100 * tC (sT S) k then a + 1 else a) (tN (sT S)) 0 0) else -2
theorem Q89 {x y w : Int32} {A : StaM} {s : Nat → Int32} (h : RA A s) : f89 A x y w = f89 (VA A s) x y w := by
  refine q_gen (F := b89 y w) h (fun S t ht r => ?_)
  unfold b89
  rw [r.2.2.2.2.2.1, t_cnt r.2.1, w_sur r.1, w_per r.1]
  rfl
theorem Q93 {x y : Int32} {A : StaM} {s : Nat → Int32} (h : RA A s) : f93 A x y = f93 (VA A s) x y := by
  refine q_genE (F := fun S => sefR (sR S) y) h (fun S t ht r => ?_)
  show sefR (sR S) y = _
  rw [w_sef r.1]
  rfl
theorem Q94 {x y : Int32} {A : StaM} {s : Nat → Int32} (h : RA A s) : f94 A x y = f94 (VA A s) x y := by
  refine q_genE (F := fun S => mosR (sR S) y - lesR (sR S) y) h (fun S t ht r => ?_)
  show mosR (sR S) y - lesR (sR S) y = _
  rw [w_mos r.1, w_les r.1]
  rfl
theorem Q90 {t : Nat} {i : Int32} {A : StaM} {s : Nat → Int32} (h : RA A s) (ht : t < 2) : f90 A (nI t) i = hyF s t (nA A t) i (nA A t) 0 := by
  unfold f90
  rw [st_nI ht, if_pos rfl]
  exact ask90 (h.1 t ht)
theorem Q91 {t : Nat} {i : Int32} {A : StaM} {s : Nat → Int32} (h : RA A s) (ht : t < 2) : f91 A (nI t) i = tyF s t (NA A t) i (NA A t) 0 := by
  unfold f91
  rw [st_nI ht, if_pos rfl]
  exact ask91 (h.1 t ht)
theorem Q92 {t : Nat} {A : StaM} {s : Nat → Int32} (h : RA A s) (ht : t < 2) : f92 A (nI t) = soF s t (nA A t) (QA A) (mwsR (vC s t) (QA A) (nA A t)) (nA A t) 0 := by
  unfold f92
  rw [st_nI ht, if_pos rfl, ask92 (h.1 t ht), RA_q h ht]
  rfl
theorem QC {S : StrM} {s : Nat → Int32} {t : Nat} {y z : Int32} (r : RS S s t) : errC S y z = errC (VS S s t) y z := by
  have e : (seatOfR (tG (sT S)) (tN (sT S)) y = -6) = (seatOfR (vH s t) (tN (sT S)) y = -6) := t_seat r.2.1
  unfold errC
  rw [r.2.2.2.2.2.1]
  simp only [e]
  rfl
theorem QJ {A : StaM} {s : Nat → Int32} (h : RA A s) : errJ A = errJ (VA A s) := by
  have r0 := RA_z h
  have r1 := RA_o h
  have e := t_unl r0.2.1 r1.2.1
  unfold errJ
  rw [e, r0.2.2.2.2.2.1, r1.2.2.2.2.2.1]
  have n0 : NA A 0 = tN (sT (aZ A)) := by unfold NA; rw [st_0]
  have n1 : NA A 1 = tN (sT (aO A)) := by unfold NA; rw [st_1]
  show _ = (if 99999 < gt s 0 0 + gt s 1 0 then -4 else if 60 < nI (unlT (vH s 0, vD s 0, NA A 0) (vH s 1, vD s 1, NA A 1)) then -4 else 0)
  rw [n0, n1]
  rfl
