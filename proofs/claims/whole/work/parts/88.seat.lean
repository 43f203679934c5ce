/-! changing the seats keeps the relation -/
theorem shF_v : ∀ (n b : Nat) (f : Nat → Int32) (j : Nat), shF f n b j = if b ≤ j ∧ j < b + n then f (j + 1) else f j := by
  intro n
  induction n with
  | zero =>
    intro b f j
    rw [if_neg (by omega)]
    rfl
  | succ n ih =>
    intro b f j
    unfold shF
    rw [ih]
    by_cases h : b ≤ j ∧ j < b + (n + 1)
    · rw [if_pos h]
      by_cases h2 : j = b
      · subst h2
        rw [if_neg (by omega), upd_at]
      · rw [if_pos (by omega), upd_n (by omega)]
    · rw [if_neg h, if_neg (by omega), upd_n (by omega)]
def RX (n : Nat) (G C E : Nat → Int32) (s : Nat → Int32) (t : Nat) (tot : Int32) : Prop := (∀ k, k < n → pr3 G C E k = v3 s t k) ∧ (∀ i j, i < n → j < n → vG s t i = vG s t j → i = j) ∧ (∀ k, k < n → 0 ≤ (vE s t k).toInt ∧ (vE s t k).toInt ≤ (vC s t k).toInt ∧ 1 ≤ (vC s t k).toInt ∧ (vC s t k).toInt ≤ tot.toInt)
theorem chg_X {t : Nat} {tot : Int32} : ∀ (d n : Nat) (G C E s : Nat → Int32), d ≤ n → n ≤ 12 → gt s t 1 = nI n → RX n G C E s t tot → RX (n - d) (chgF d G C E n).1 (chgF d G C E n).2.1 (chgF d G C E n).2.2 (guN t d n s) t tot ∧ gt (guN t d n s) t 1 = nI (n - d) ∧ (∀ b, b ≠ 1 → b < 3 ∨ 39 ≤ b → gt (guN t d n s) t b = gt s t b) := by
  intro d
  induction d with
  | zero =>
    intro n G C E s _ _ h1 hx
    exact ⟨hx, h1, fun b _ _ => rfl⟩
  | succ d ih =>
    intro n G C E s hd hn h1 hx
    obtain ⟨x1, x2, x3⟩ := hx
    have ek : ftgN C E n = wk (vC s t) (vE s t) n := by
      rw [wk_ftg (fun k hk => by have := x3 k hk; omega)]
      exact ftg_cg (fun k hk => congrArg (fun p : P3 => p.2.1) (x1 k hk)) (fun k hk => congrArg (fun p : P3 => p.2.2) (x1 k hk))
    have klt := wk_lt (c := vC s t) (e := vE s t) (n := n) (by omega)
    unfold chgF guN
    rw [ek]
    generalize wk (vC s t) (vE s t) n = k at *
    have vv : ∀ j, j < n - 1 → v3 (guF s t n k) t j = if j < k then v3 s t j else v3 s t (j + 1) := fun j hj => guF_v3 hj
    have hs : ∀ (f : Nat → Int32) j, j < n - 1 → shF f (n - (k + 1)) k j = if j < k then f j else f (j + 1) := fun f j hj => by
      rw [shF_v]
      by_cases h : j < k
      · rw [if_neg (by omega), if_pos h]
      · rw [if_pos (by omega), if_neg h]
    have hx2 : RX (n - 1) (shF G (n - (k + 1)) k) (shF C (n - (k + 1)) k) (shF E (n - (k + 1)) k) (guF s t n k) t tot := by
      have pick : ∀ j, j < n - 1 → ∃ i, i < n ∧ (i = if j < k then j else j + 1) ∧ v3 (guF s t n k) t j = v3 s t i := fun j hj => by
        by_cases h : j < k
        · exact ⟨j, by omega, (if_pos h).symm, (vv j hj).trans (if_pos h)⟩
        · exact ⟨j + 1, by omega, (if_neg h).symm, (vv j hj).trans (if_neg h)⟩
      refine ⟨fun j hj => ?_, fun i j hi hj e => ?_, fun j hj => ?_⟩
      · rw [vv j hj]
        show (shF G (n - (k + 1)) k j, shF C (n - (k + 1)) k j, shF E (n - (k + 1)) k j) = _
        rw [hs G j hj, hs C j hj, hs E j hj]
        by_cases h : j < k
        · rw [if_pos h, if_pos h, if_pos h, if_pos h]
          exact x1 j (by omega)
        · rw [if_neg h, if_neg h, if_neg h, if_neg h]
          exact x1 (j + 1) (by omega)
      · obtain ⟨a, a1, a2, a3⟩ := pick i hi
        obtain ⟨b, b1, b2, b3⟩ := pick j hj
        have e1 : vG (guF s t n k) t i = vG s t a := congrArg (fun p : P3 => p.1) a3
        have e2 : vG (guF s t n k) t j = vG s t b := congrArg (fun p : P3 => p.1) b3
        rw [e1, e2] at e
        have hab := x2 a b a1 b1 e
        by_cases h : i < k <;> by_cases h2 : j < k
        · rw [if_pos h] at a2; rw [if_pos h2] at b2; omega
        · rw [if_pos h] at a2; rw [if_neg h2] at b2; omega
        · rw [if_neg h] at a2; rw [if_pos h2] at b2; omega
        · rw [if_neg h] at a2; rw [if_neg h2] at b2; omega
      · obtain ⟨a, a1, a2, a3⟩ := pick j hj
        have e1 : vC (guF s t n k) t j = vC s t a := congrArg (fun p : P3 => p.2.1) a3
        have e2 : vE (guF s t n k) t j = vE s t a := congrArg (fun p : P3 => p.2.2) a3
        rw [e1, e2]
        exact x3 a a1
    obtain ⟨i1, i2, i3⟩ := ih (n - 1) _ _ _ (guF s t n k) (by omega) (by omega) guF_1 hx2
    rw [show n - 1 - d = n - (d + 1) by omega] at i1 i2
    refine ⟨i1, i2, fun b hb1 hb2 => ?_⟩
    rw [i3 b hb1 hb2]
    rcases hb2 with q | q
    · exact guF_0 hb1 q klt
    · exact guF_n q hn klt
theorem guN_0 {t : Nat} : ∀ (d n : Nat) (s : Nat → Int32), guN t d n s 0 = s 0 := by
  intro d
  induction d with
  | zero => intro n s; rfl
  | succ d ih =>
    intro n s
    unfold guN
    rw [ih, guF_00]
theorem chg_RS {S : StrM} {s s1 : Nat → Int32} {t m : Nat} (r : RS S s t) (hs : ∀ b, b < 160 → gt s1 t b = gt s t b) (h0 : s1 0 = nI m) (m1 : 1 ≤ m) (m2 : m ≤ 12) : RS (chgS S m) (guN t (rT (sR S) - m) (rT (sR S)) s1) t := by
  obtain ⟨hw, hT, r3, r4, r5, r6, r7, r8, r9⟩ := r
  have n12 := RW_n hw
  have v1 : ∀ k, k < 12 → v3 s1 t k = v3 s t k := fun k hk => by
    show (gt s1 t _, gt s1 t _, gt s1 t _) = (gt s t _, gt s t _, gt s t _)
    rw [hs _ (by omega), hs _ (by omega), hs _ (by omega)]
  have vg : ∀ k, k < 12 → vG s1 t k = vG s t k := fun k hk => congrArg (fun p : P3 => p.1) (v1 k hk)
  have vc : ∀ k, k < 12 → vC s1 t k = vC s t k := fun k hk => congrArg (fun p : P3 => p.2.1) (v1 k hk)
  have ve : ∀ k, k < 12 → vE s1 t k = vE s t k := fun k hk => congrArg (fun p : P3 => p.2.2) (v1 k hk)
  obtain ⟨w1, w2, w3, w4, w5, w6⟩ := hw
  have hx : RX (rT (sR S)) (rG (sR S)) (rC (sR S)) (rE (sR S)) s1 t (gt s t 0) := by
    refine ⟨fun k hk => ?_, fun i j hi hj e => ?_, fun k hk => ?_⟩
    · rw [v1 k (by omega)]
      obtain ⟨x1, x2, x3⟩ := w4 k hk
      show (rG (sR S) k, rC (sR S) k, rE (sR S) k) = (vG s t k, vC s t k, vE s t k)
      rw [x1, x2, x3]
    · rw [vg i (by omega), vg j (by omega)] at e
      exact w5 i j hi hj e
    · rw [vc k (by omega), ve k (by omega)]
      exact w6 k hk
  obtain ⟨i1, i2, i3⟩ := chg_X (rT (sR S) - m) (rT (sR S)) (rG (sR S)) (rC (sR S)) (rE (sR S)) s1 (by omega) n12 ((hs 1 (by omega)).trans r3) hx
  have et : rT (sR (chgS S m)) = rT (sR S) - (rT (sR S) - m) := rfl
  have g00 : guN t (rT (sR S) - m) (rT (sR S)) s1 0 = nI m := (guN_0 _ _ _).trans h0
  generalize guN t (rT (sR S) - m) (rT (sR S)) s1 = s2 at *
  have lo : ∀ b, b ≠ 1 → b < 3 ∨ 39 ≤ b → b < 160 → gt s2 t b = gt s t b := fun b q1 q2 q3 => (i3 b q1 q2).trans (hs b q3)
  have l0 := lo 0 (by omega) (by omega) (by omega)
  obtain ⟨y1, y2, y3⟩ := i1
  refine ⟨⟨by rw [et]; show _ ≤ m; omega, m1, m2, fun k hk => ?_, fun i j hi hj e => ?_, fun k hk => ?_⟩, ?_, ?_, ?_, ?_, ?_, ?_, ?_, ?_⟩
  · rw [et] at hk
    have e := y1 k hk
    exact ⟨congrArg (fun p : P3 => p.1) e, congrArg (fun p : P3 => p.2.1) e, congrArg (fun p : P3 => p.2.2) e⟩
  · rw [et] at hi hj
    exact y2 i j hi hj e
  · rw [et] at hk
    rw [l0]
    exact y3 k hk
  · obtain ⟨t1, t2, t3, t4⟩ := hT
    rw [l0]
    refine ⟨t1, ?_, t3, t4⟩
    have e : seg (pr2 (vH s2 t) (vD s2 t)) (tN (sT S)) 0 = seg (pr2 (vH s t) (vD s t)) (tN (sT S)) 0 := seg_congr _ _ (fun j _ q => by
      show (gt s2 t (40 + 2 * j), gt s2 t (41 + 2 * j)) = (gt s t (40 + 2 * j), gt s t (41 + 2 * j))
      rw [lo _ (by omega) (by omega) (by omega), lo _ (by omega) (by omega) (by omega)])
    show (seg (pr2 (vH s2 t) (vD s2 t)) (tN (sT S)) 0).Perm _
    rw [e]
    exact t2
  · rw [i2, et]
  · exact (lo 39 (by omega) (by omega) (by omega)).trans r4
  · exact g00
  · exact r6.trans l0.symm
  · exact r7.trans (lo 2 (by omega) (by omega) (by omega)).symm
  · rw [l0]; exact r8
  · rw [l0]; exact r9
theorem RA_seats {A : StaM} {s : Nat → Int32} {m : Nat} (h : RA A s) (m1 : 1 ≤ m) (m2 : m ≤ 12) : RA (chgS (aZ A) m, chgS (aO A) m) (stF s m (nA A 0) (nA A 1)) := by
  have z := RA_z h
  have o := RA_o h
  have n0 : nA A 0 = rT (sR (aZ A)) := by unfold nA; rw [st_0]
  have n1 : nA A 1 = rT (sR (aO A)) := by unfold nA; rw [st_1]
  have b0 := RW_n z.1
  have b1 := RW_n o.1
  have c0 := chg_RS (s1 := upd s 0 (nI m)) z (fun b _ => gt_u0) upd_at m1 m2
  have f0 : ∀ b, b < 160 → gt (guN 0 (rT (sR (aZ A)) - m) (rT (sR (aZ A))) (upd s 0 (nI m))) 1 b = gt s 1 b := fun b hb => (guN_o (c := m) (by omega) hb _ _ _ rfl b0).trans gt_u0
  have c1 := chg_RS (s1 := guN 0 (rT (sR (aZ A)) - m) (rT (sR (aZ A))) (upd s 0 (nI m))) o f0 ((guN_0 _ _ _).trans upd_at) m1 m2
  unfold stF
  rw [n0, n1]
  exact RA_mk (A := (chgS (aZ A) m, chgS (aO A) m)) (RS_fr c0 (fun b hb => guN_o (c := m) (by omega) hb _ _ _ rfl b1) (guN_0 _ _ _)) c1 rfl
