/-! the whole object: what holds of it; the law's own numbers and what a call of it does, as a pure function -/
def AB (A : StaM) : Prop := SB (aZ A) ∧ SB (aO A) ∧ rS (sR (aO A)) = rS (sR (aZ A))
def HB (h : Nat) (A : StaM) : Prop := AB A ∧ (h ≤ 1 → BT (aZ A) ∧ BT (aO A)) ∧ (h = 0 → SM (aZ A) ∧ SM (aO A))
theorem AB_ok {A : StaM} (h : AB A) : okSa A := ⟨SB_ok h.1, SB_ok h.2.1⟩
theorem AB_st {A : StaM} (h : AB A) (s : Int32) : SB (stOf A s) ∧ rS (sR (stOf A s)) = rS (sR (aZ A)) := by
  unfold stOf
  by_cases h0 : s = 0
  · rw [if_pos h0]
    exact ⟨h.1, rfl⟩
  · rw [if_neg h0]
    exact ⟨h.2.1, h.2.2⟩
theorem AB_set {A : StaM} {s : Int32} {S : StrM} (h : AB A) (hs : SB S) (hq : rS (sR S) = rS (sR (stOf A s))) : AB (stSet A s S) := by
  have h2 := (AB_st h s).2
  unfold stSet
  unfold stOf at hq h2
  by_cases h0 : s = 0
  · rw [if_pos h0]
    rw [if_pos h0] at hq
    exact ⟨hs, h.2.1, h.2.2.trans hq.symm⟩
  · rw [if_neg h0]
    rw [if_neg h0] at hq h2
    exact ⟨h.1, hs, hq.trans h.2.2⟩
theorem HB_st {h : Nat} {A : StaM} (hb : HB h A) (s : Int32) : (h ≤ 1 → BT (stOf A s)) ∧ (h = 0 → SM (stOf A s)) := by
  unfold stOf
  by_cases h0 : s = 0
  · rw [if_pos h0]
    exact ⟨fun q => (hb.2.1 q).1, fun q => (hb.2.2 q).1⟩
  · rw [if_neg h0]
    exact ⟨fun q => (hb.2.1 q).2, fun q => (hb.2.2 q).2⟩
theorem set_sz {A : StaM} {s : Int32} {S : StrM} (hq : rS (sR S) = rS (sR (stOf A s))) (h : rS (sR (stOf A s)) = rS (sR (aZ A))) : rS (sR (aZ (stSet A s S))) = rS (sR (aZ A)) := by
  unfold stSet
  by_cases h0 : s = 0
  · rw [if_pos h0]
    exact hq.trans h
  · rw [if_neg h0]
/-- the law's numbers -/
def lowV (v n : Int32) : Int32 := (v &&& 2147483647) - (v &&& 2147483647) / n * n
def gstV (v : Int32) : Int32 := if (v >>> ((20 : Int32) &&& 31)) &&& 7 = 0 then 28 + lowV v 40 else 1 + lowV v 14
def strV (v : Int32) : Int32 := (v >>> ((4 : Int32) &&& 31)) &&& 1
def stmV (v : Int32) : Int32 := if (v >>> ((4 : Int32) &&& 31)) &&& 15 = 0 then 2 else strV v
def tmsV (w : Int32) : Int32 := lowV (w >>> ((6 : Int32) &&& 31)) (if (w >>> ((18 : Int32) &&& 31)) &&& 3 = 0 then 1001 else 9)
def zJ : RowM := zR 24
def acR (A L0 : StaM) (y : Int32) : Int32 × Option StaM := if y = 0 then (sN (aZ L0), some L0) else if isSl y = true then (-5, none) else (-2, none)
def acC (A : StaM) (s g t : Int32) : Int32 × Option StaM := if isSt s = true then (if errC (stOf A s) g t = 0 then (nI (sefN (sR (stOf A s)) g), some (stSet A s (comS (stOf A s) g t))) else (errC (stOf A s) g t, none)) else (-1, none)
def acS (A : StaM) (y : Int32) : Int32 × Option StaM := if bdS y = true then (-2, none) else (nI (rS (sR (aZ A))), some (chgS (aZ A) y.toNatClampNeg, chgS (aO A) y.toNatClampNeg))
def acA (A : StaM) (s : Int32) : Int32 × Option StaM := if isSt s = true then (sN (stOf A s) / 2, some (stSet A s (halS (stOf A s)))) else (-1, none)
def acJ (A : StaM) : Int32 × Option StaM := if errJ A = 0 then (nI (rT (sR (aZ (jnS A zJ)))), some (jnS A zJ)) else (errJ A, none)
def actF (A L0 : StaM) (v w : Int32) : Int32 × Option StaM := if v &&& 15 = 0 then acS A (lowV w 14) else if v &&& 15 = 1 then acA A (lowV w 3) else if v &&& 15 = 2 then acJ A else if v &&& 15 = 3 then acR A L0 (w &&& 1) else acC A (stmV v) (gstV w) (tmsV w)
/-- a call fails with a negative number and changes nothing, or answers a number that isn't negative -/
def okA2 (q : Int32 × Option StaM) : Prop := (q.1 < 0 ∧ q.2 = none) ∨ (¬ q.1 < 0 ∧ ∃ B, q.2 = some B)
theorem nn_t {x : Int32} (h : 0 ≤ x.toInt) : ¬ x < 0 := fun q => by
  have := Int32.lt_iff_toInt_lt.mp q
  rw [z_int] at this
  omega
theorem errC_neg {S : StrM} {x y : Int32} (h : ¬ errC S x y = 0) : errC S x y < 0 := by
  have n2 : (-2 : Int32) < 0 := by decide +kernel
  have n4 : (-4 : Int32) < 0 := by decide +kernel
  unfold errC at h ⊢
  by_cases h0 : isCd x = true
  · rw [if_pos h0] at h ⊢
    by_cases h1 : y < 1
    · rw [if_pos h1]; exact n2
    · rw [if_neg h1] at h ⊢
      by_cases h2 : 999 < y
      · rw [if_pos h2]; exact n2
      · rw [if_neg h2] at h ⊢
        by_cases h3 : 99999 < sN S + y
        · rw [if_pos h3]; exact n4
        · rw [if_neg h3] at h ⊢
          by_cases h4 : seatOfR (tG (sT S)) (tN (sT S)) x = -6
          · rw [if_pos h4] at h ⊢
            by_cases h5 : nI (tN (sT S)) < 60
            · rw [if_pos h5] at h
              exact absurd rfl h
            · rw [if_neg h5]; exact n4
          · rw [if_neg h4] at h
            exact absurd rfl h
  · rw [if_neg h0]; exact n2
theorem errJ_neg {A : StaM} (h : ¬ errJ A = 0) : errJ A < 0 := by
  have n4 : (-4 : Int32) < 0 := by decide +kernel
  unfold errJ at h ⊢
  by_cases h1 : 99999 < sN (aZ A) + sN (aO A)
  · rw [if_pos h1]; exact n4
  · rw [if_neg h1] at h ⊢
    by_cases h2 : 60 < nI (unlT (sT (aZ A)) (sT (aO A)))
    · rw [if_pos h2]; exact n4
    · rw [if_neg h2] at h
      exact absurd rfl h
theorem sef_lt {A : StaM} (h : AB A) (s x : Int32) : sefN (sR (stOf A s)) x ≤ 12 := by
  have hb := (AB_st h s).1.2.2.1
  have := (sef_N (ρ := sR (stOf A s)) (x := x) hb.2.1 (by have := hb.1; have := hb.2.2.1; omega)).2
  have := hb.1
  have := hb.2.2.1
  omega
theorem join_AB {A : StaM} (h : AB A) (he : errJ A = 0) : AB (jnS A zJ) ∧ rS (sR (aZ (jnS A zJ))) = rS (sR (aZ A)) ∧ (BT (aZ A) → BT (aO A) → BT (aZ (jnS A zJ)) ∧ BT (aO (jnS A zJ))) := by
  obtain ⟨j1, j2, j3⟩ := join_S (J := zJ) h.1 h.2.1 h.2.2 he
  obtain ⟨n1, n2⟩ := new_S h.2.1
  exact ⟨⟨j1, n1, h.2.2.trans j2.symm⟩, j2, fun a b => ⟨j3 a b, n2⟩⟩
theorem act_ok {A L0 : StaM} {v w : Int32} (h : AB A) (hl : AB L0) : okA2 (actF A L0 v w) := by
  have n1 : (-1 : Int32) < 0 := by decide +kernel
  have n2 : (-2 : Int32) < 0 := by decide +kernel
  have n5 : (-5 : Int32) < 0 := by decide +kernel
  unfold actF
  by_cases c0 : v &&& 15 = 0
  · rw [if_pos c0]
    unfold acS
    by_cases hb : bdS (lowV w 14) = true
    · rw [if_pos hb]
      exact Or.inl ⟨n2, rfl⟩
    · rw [if_neg hb]
      have := h.1.2.2.1.2.2.1
      exact Or.inr ⟨nI_pos (by omega), _, rfl⟩
  · rw [if_neg c0]
    by_cases c1 : v &&& 15 = 1
    · rw [if_pos c1]
      unfold acA
      by_cases hs : isSt (lowV w 3) = true
      · rw [if_pos hs]
        have hb := (AB_st h (lowV w 3)).1
        have := half hb.1
        have := hb.1
        exact Or.inr ⟨nn_t (by show 0 ≤ (sN (stOf A (lowV w 3)) / 2).toInt; omega), _, rfl⟩
      · rw [if_neg hs]
        exact Or.inl ⟨n1, rfl⟩
    · rw [if_neg c1]
      by_cases c2 : v &&& 15 = 2
      · rw [if_pos c2]
        unfold acJ
        by_cases he : errJ A = 0
        · rw [if_pos he]
          have hj := (join_AB h he).1.1.2.2.1
          have := hj.1
          have := hj.2.2.1
          exact Or.inr ⟨nI_pos (by show rT (sR (aZ (jnS A zJ))) < 2 ^ 31; omega), _, rfl⟩
        · rw [if_neg he]
          exact Or.inl ⟨errJ_neg he, rfl⟩
      · rw [if_neg c2]
        by_cases c3 : v &&& 15 = 3
        · rw [if_pos c3]
          unfold acR
          by_cases hy : w &&& 1 = 0
          · rw [if_pos hy]
            exact Or.inr ⟨nn_t hl.1.1, _, rfl⟩
          · rw [if_neg hy]
            by_cases hs : isSl (w &&& 1) = true
            · rw [if_pos hs]
              exact Or.inl ⟨n5, rfl⟩
            · rw [if_neg hs]
              exact Or.inl ⟨n2, rfl⟩
        · rw [if_neg c3]
          unfold acC
          by_cases hs : isSt (stmV v) = true
          · rw [if_pos hs]
            by_cases he : errC (stOf A (stmV v)) (gstV w) (tmsV w) = 0
            · rw [if_pos he]
              have := sef_lt h (stmV v) (gstV w)
              exact Or.inr ⟨nI_pos (by omega), _, rfl⟩
            · rw [if_neg he]
              exact Or.inl ⟨errC_neg he, rfl⟩
          · rw [if_neg hs]
            exact Or.inl ⟨n1, rfl⟩
/-- how a state came about, behind a call that didn't fail: 0 guests alone came, 1 streams were joined or SEATS made less, 2 the like of ageing -/
def howF (A B : StaM) (v : Int32) (h hs : Nat) : Nat := if v &&& 15 = 3 then hs else if v &&& 15 = 1 then 2 else if v &&& 15 = 0 then (if rS (sR (aZ A)) < rS (sR (aZ B)) then 2 else if rS (sR (aZ B)) < rS (sR (aZ A)) then (if 1 < h then h else 1) else h) else if v &&& 15 = 2 then (if 1 < h then h else 1) else h
theorem nn_bd {y : Int32} (hb : ¬ bdS y = true) : ∃ m, 1 ≤ m ∧ m ≤ 12 ∧ y = nI m ∧ y.toNatClampNeg = m := by
  obtain ⟨m, h1, h2, h3⟩ := bd_nn (Bool.eq_false_iff.mpr hb)
  exact ⟨m, h1, h2, h3, by rw [h3]; exact nI_clamp (by omega)⟩
theorem act_HB {A L0 B : StaM} {v w r : Int32} {h hs : Nat} (hb : HB h A) (hl : HB hs L0) (e : actF A L0 v w = (r, some B)) : HB (howF A B v h hs) B ∧ (howF A B v h hs ≤ 2 ∨ ¬ (h ≤ 2 ∧ hs ≤ 2)) := by
  have mx : ∀ n, (if 1 < h then h else 1) = n → 1 ≤ n ∧ (n ≤ 1 → h ≤ 1) := fun n hn => by
    by_cases q : 1 < h
    · rw [if_pos q] at hn; omega
    · rw [if_neg q] at hn; omega
  have m2 : (if 1 < h then h else 1) ≤ 2 ∨ ¬ (h ≤ 2 ∧ hs ≤ 2) := by
    by_cases q : 1 < h
    · rw [if_pos q]; omega
    · rw [if_neg q]; omega
  unfold actF at e
  unfold howF
  by_cases c0 : v &&& 15 = 0
  · rw [if_pos c0] at e
    have k3 : ¬ v &&& 15 = 3 := by rw [c0]; decide
    have k1 : ¬ v &&& 15 = 1 := by rw [c0]; decide
    rw [if_neg k3, if_neg k1, if_pos c0]
    unfold acS at e
    by_cases hbd : bdS (lowV w 14) = true
    · rw [if_pos hbd] at e
      cases e
    · rw [if_neg hbd] at e
      obtain ⟨m, m1, m2', m3, m4⟩ := nn_bd hbd
      rw [m4] at e
      cases e
      obtain ⟨z1, z2, z3, z4⟩ := chg_S hb.1.1 m1 m2'
      obtain ⟨o1, o2, o3, o4⟩ := chg_S hb.1.2.1 m1 m2'
      have hq := hb.1.2.2
      have ab : AB (chgS (aZ A) m, chgS (aO A) m) := ⟨z1, o1, o2.trans z2.symm⟩
      have eq : rS (sR (aZ (chgS (aZ A) m, chgS (aO A) m))) = m := rfl
      rw [eq]
      by_cases q1 : rS (sR (aZ A)) < m
      · rw [if_pos q1]
        exact ⟨⟨ab, fun q => by omega, fun q => by omega⟩, by omega⟩
      · rw [if_neg q1]
        by_cases q2 : m < rS (sR (aZ A))
        · rw [if_pos q2]
          obtain ⟨x1, x2⟩ := mx _ rfl
          exact ⟨⟨ab, fun q => ⟨z3 (by omega) (hb.2.1 (x2 q)).1, o3 (by omega) (hb.2.1 (x2 q)).2⟩, fun q => by omega⟩, m2⟩
        · rw [if_neg q2]
          exact ⟨⟨ab, fun q => ⟨z3 (by omega) (hb.2.1 q).1, o3 (by omega) (hb.2.1 q).2⟩, fun q => ⟨z4 (by omega) (hb.2.2 q).1, o4 (by omega) (hb.2.2 q).2⟩⟩, by omega⟩
  · rw [if_neg c0] at e
    by_cases c1 : v &&& 15 = 1
    · rw [if_pos c1] at e
      have k3 : ¬ v &&& 15 = 3 := by rw [c1]; decide
      rw [if_neg k3, if_pos c1]
      unfold acA at e
      by_cases hst : isSt (lowV w 3) = true
      · rw [if_pos hst] at e
        cases e
        obtain ⟨a1, a2⟩ := hal_S (AB_st hb.1 (lowV w 3)).1
        exact ⟨⟨AB_set hb.1 a1 a2, fun q => by omega, fun q => by omega⟩, by omega⟩
      · rw [if_neg hst] at e
        cases e
    · rw [if_neg c1] at e
      by_cases c2 : v &&& 15 = 2
      · rw [if_pos c2] at e
        have k3 : ¬ v &&& 15 = 3 := by rw [c2]; decide
        rw [if_neg k3, if_neg c1, if_neg c0, if_pos c2]
        unfold acJ at e
        by_cases he : errJ A = 0
        · rw [if_pos he] at e
          cases e
          obtain ⟨j1, j2, j3⟩ := join_AB hb.1 he
          obtain ⟨x1, x2⟩ := mx _ rfl
          exact ⟨⟨j1, fun q => j3 (hb.2.1 (x2 q)).1 (hb.2.1 (x2 q)).2, fun q => by omega⟩, m2⟩
        · rw [if_neg he] at e
          cases e
      · rw [if_neg c2] at e
        by_cases c3 : v &&& 15 = 3
        · rw [if_pos c3] at e
          rw [if_pos c3]
          unfold acR at e
          by_cases hy : w &&& 1 = 0
          · rw [if_pos hy] at e
            cases e
            exact ⟨hl, by omega⟩
          · rw [if_neg hy] at e
            by_cases hsl : isSl (w &&& 1) = true
            · rw [if_pos hsl] at e
              cases e
            · rw [if_neg hsl] at e
              cases e
        · rw [if_neg c3] at e
          rw [if_neg c3, if_neg c1, if_neg c0, if_neg c2]
          unfold acC at e
          by_cases hst : isSt (stmV v) = true
          · rw [if_pos hst] at e
            by_cases he : errC (stOf A (stmV v)) (gstV w) (tmsV w) = 0
            · rw [if_pos he] at e
              cases e
              obtain ⟨s1, s2, s3, s4⟩ := come_S (AB_st hb.1 (stmV v)).1 he
              have ab := AB_set hb.1 s1 s2
              have h1 := HB_st hb (stmV v)
              generalize hS : comS (stOf A (stmV v)) (gstV w) (tmsV w) = S2 at *
              refine ⟨⟨ab, fun q => ?_, fun q => ?_⟩, by omega⟩
              · have b := hb.2.1 q
                have b2 := s3 (h1.1 q)
                unfold stSet
                by_cases h0 : stmV v = 0
                · rw [if_pos h0]; exact ⟨b2, b.2⟩
                · rw [if_neg h0]; exact ⟨b.1, b2⟩
              · have b := hb.2.2 q
                have b2 := s4 (h1.2 q)
                unfold stSet
                by_cases h0 : stmV v = 0
                · rw [if_pos h0]; exact ⟨b2, b.2⟩
                · rw [if_neg h0]; exact ⟨b.1, b2⟩
            · rw [if_neg he] at e
              cases e
          · rw [if_neg hst] at e
            cases e
/-- the seat that would be taken -/
theorem act_would {A L0 B : StaM} {v w r : Int32} (h : AB A) (hc : 3 < v &&& 15) (e : actF A L0 v w = (r, some B)) : r = f93 A (strV v) (gstV w) := by
  have k0 : ¬ v &&& 15 = 0 := fun q => by rw [q] at hc; exact absurd hc (by decide)
  have k1 : ¬ v &&& 15 = 1 := fun q => by rw [q] at hc; exact absurd hc (by decide)
  have k2 : ¬ v &&& 15 = 2 := fun q => by rw [q] at hc; exact absurd hc (by decide)
  have k3 : ¬ v &&& 15 = 3 := fun q => by rw [q] at hc; exact absurd hc (by decide)
  unfold actF at e
  rw [if_neg k0, if_neg k1, if_neg k2, if_neg k3] at e
  unfold acC at e
  by_cases hst : isSt (stmV v) = true
  · rw [if_pos hst] at e
    by_cases he : errC (stOf A (stmV v)) (gstV w) (tmsV w) = 0
    · rw [if_pos he] at e
      cases e
      have es : stmV v = strV v := by
        unfold stmV at hst ⊢
        by_cases q : (v >>> ((4 : Int32) &&& 31)) &&& 15 = 0
        · rw [if_pos q] at hst
          exact absurd hst (by decide)
        · rw [if_neg q]
      rw [es] at hst he ⊢
      have hb := (AB_st h (strV v)).1.2.2.1
      have hcd := errC_cd he
      unfold f93 errA
      rw [if_pos hst, if_pos hcd, if_pos rfl]
      exact (sef_N (ρ := sR (stOf A (strV v))) (x := gstV w) hb.2.1 (by have := hb.1; have := hb.2.2.1; omega)).1.symm
    · rw [if_neg he] at e
      cases e
  · rw [if_neg hst] at e
    cases e
theorem zS_B : SB zS ∧ BT zS ∧ SM zS := by
  refine ⟨⟨?_, ?_, ⟨Nat.zero_le _, by show 1 ≤ 4; omega, by show 4 ≤ 12; omega, fun i j hi => absurd hi (Nat.not_lt_zero _), fun k hk => absurd hk (Nat.not_lt_zero _)⟩, ⟨Nat.zero_le _, List.Pairwise.nil, List.Pairwise.nil, fun p hp => by cases hp⟩⟩, ⟨⟨fun k hk => absurd hk (Nat.not_lt_zero _), fun x _ k hk => absurd hk (Nat.not_lt_zero _)⟩, fun _ x _ => z_int⟩, rfl⟩
  · show 0 ≤ (0 : Int32).toInt
    rw [z_int]
    exact Int.le_refl _
  · show (0 : Int32).toInt ≤ 99999
    rw [z_int]
    omega
theorem zA_H : HB 0 zA := ⟨⟨zS_B.1, zS_B.1, rfl⟩, fun _ => ⟨zS_B.2.1, zS_B.2.1⟩, fun _ => ⟨zS_B.2.2, zS_B.2.2⟩⟩
