/-! texts: an order, the fault -/
theorem rd_59 {O : OrdM} : rdF O 59 = if ordE O.1 = true then (true, ordB) else (false, O) := by
  unfold rdF
  rw [if_pos rfl]
theorem rd_59n {O : OrdM} (h : ordE O.1 = false) : (rdF O 59).1 = false := by
  rw [rd_59, h, if_neg Bool.false_ne_true]
theorem rd_2s {kd sm gu le ti : Int32} : rdF (2, kd, sm, gu, le, ti) 42 = (true, (3, kd, sm, gu, le, ti)) := by
  unfold rdF
  rw [if_neg (by decide : ¬ (42 : Int32) = 59), if_neg (show ¬ ((2, kd, sm, gu, le, ti) : OrdM).1 = 0 from (by decide : ¬ (2 : Int32) = 0)), if_neg (show ¬ ((2, kd, sm, gu, le, ti) : OrdM).1 = 1 from (by decide : ¬ (2 : Int32) = 1)), if_pos (show ((2, kd, sm, gu, le, ti) : OrdM).1 = 2 from rfl), if_pos rfl]
theorem rd_0 {kd sm gu le ti x : Int32} (h1 : ¬ x = 59) : rdF (0, kd, sm, gu, le, ti) x = staF (0, kd, sm, gu, le, ti) x := by
  unfold rdF
  rw [if_neg h1, if_pos (show ((0, kd, sm, gu, le, ti) : OrdM).1 = 0 from rfl)]
theorem rd_1 {kd sm gu le ti x : Int32} (h1 : ¬ x = 59) : rdF (1, kd, sm, gu, le, ti) x = letF (1, kd, sm, gu, le, ti) x := by
  unfold rdF
  rw [if_neg h1, if_neg (show ¬ ((1, kd, sm, gu, le, ti) : OrdM).1 = 0 from (by decide : ¬ (1 : Int32) = 0)), if_pos (show ((1, kd, sm, gu, le, ti) : OrdM).1 = 1 from rfl)]
theorem rd_3 {kd sm gu le ti x : Int32} (h1 : ¬ x = 59) : rdF (3, kd, sm, gu, le, ti) x = fdgF (3, kd, sm, gu, le, ti) x := by
  unfold rdF
  rw [if_neg h1, if_neg (show ¬ ((3, kd, sm, gu, le, ti) : OrdM).1 = 0 from (by decide : ¬ (3 : Int32) = 0)), if_neg (show ¬ ((3, kd, sm, gu, le, ti) : OrdM).1 = 1 from (by decide : ¬ (3 : Int32) = 1)), if_neg (show ¬ ((3, kd, sm, gu, le, ti) : OrdM).1 = 2 from (by decide : ¬ (3 : Int32) = 2)), if_pos (show ((3, kd, sm, gu, le, ti) : OrdM).1 = 3 from rfl)]
theorem rd_5 {kd sm gu le ti x : Int32} (h1 : ¬ x = 59) : rdF (5, kd, sm, gu, le, ti) x = ageF (5, kd, sm, gu, le, ti) x := by
  unfold rdF
  rw [if_neg h1, if_neg (show ¬ ((5, kd, sm, gu, le, ti) : OrdM).1 = 0 from (by decide : ¬ (5 : Int32) = 0)), if_neg (show ¬ ((5, kd, sm, gu, le, ti) : OrdM).1 = 1 from (by decide : ¬ (5 : Int32) = 1)), if_neg (show ¬ ((5, kd, sm, gu, le, ti) : OrdM).1 = 2 from (by decide : ¬ (5 : Int32) = 2)), if_neg (show ¬ ((5, kd, sm, gu, le, ti) : OrdM).1 = 3 from (by decide : ¬ (5 : Int32) = 3)), if_neg (show ¬ ((5, kd, sm, gu, le, ti) : OrdM).1 = 4 from (by decide : ¬ (5 : Int32) = 4)), if_pos (show ((5, kd, sm, gu, le, ti) : OrdM).1 = 5 from rfl)]
theorem rd_6 {kd sm gu le ti x : Int32} (h1 : ¬ x = 59) : (rdF (6, kd, sm, gu, le, ti) x).1 = false := by
  unfold rdF
  rw [if_neg h1, if_neg (show ¬ ((6, kd, sm, gu, le, ti) : OrdM).1 = 0 from (by decide : ¬ (6 : Int32) = 0)), if_neg (show ¬ ((6, kd, sm, gu, le, ti) : OrdM).1 = 1 from (by decide : ¬ (6 : Int32) = 1)), if_neg (show ¬ ((6, kd, sm, gu, le, ti) : OrdM).1 = 2 from (by decide : ¬ (6 : Int32) = 2)), if_neg (show ¬ ((6, kd, sm, gu, le, ti) : OrdM).1 = 3 from (by decide : ¬ (6 : Int32) = 3)), if_neg (show ¬ ((6, kd, sm, gu, le, ti) : OrdM).1 = 4 from (by decide : ¬ (6 : Int32) = 4)), if_neg (show ¬ ((6, kd, sm, gu, le, ti) : OrdM).1 = 5 from (by decide : ¬ (6 : Int32) = 5))]
theorem oe_0 : ordE 0 = false := by decide +kernel
theorem oe_1 : ordE 1 = false := by decide +kernel
theorem oe_2 : ordE 2 = true := by decide +kernel
theorem oe_3 : ordE 3 = false := by decide +kernel
theorem oe_4 : ordE 4 = true := by decide +kernel
theorem oe_5 : ordE 5 = false := by decide +kernel
theorem oe_6 : ordE 6 = true := by decide +kernel
/-- an order as the one reads it, as the other does -/
def mtO (O : OrdM) (w f z : Int32) : Prop := (w = 3 ∧ O.2.1 = 2) ∨ (w = 2 ∧ O.2.1 = 1 ∧ O.2.2.1 = f ∧ isSt f = true) ∨ (isSt w = true ∧ O.2.1 = 0 ∧ O.2.2.1 = w ∧ O.2.2.2.1 = f ∧ O.2.2.2.2.2 = z)
def EndO (p : Nat → Int32) (n : Nat) (r : RO) (O : OrdM) : Prop := (r.2.1 = true → ordE O.1 = true ∧ mtO O r.2.2.1 r.2.2.2.1 r.2.2.2.2 ∧ (r.1 < n → p r.1 ≠ 59 → (rdF O (p r.1)).1 = false)) ∧ (r.2.1 = false → ordE O.1 = false ∧ (r.1 < n → (rdF O (p r.1)).1 = false))
theorem pth_0 {p : Nat → Int32} {a : Nat} {O : OrdM} : pth p (a - a) a O O := by
  rw [Nat.sub_self]
  rfl
theorem pth_cons {p : Nat → Int32} {a b : Nat} {O O1 O2 : OrdM} (hb : a + 1 ≤ b) (h1 : p a ≠ 59) (h2 : rdF O (p a) = (true, O1)) (h3 : pth p (b - (a + 1)) (a + 1) O1 O2) : pth p (b - a) a O O2 := by
  rw [show b - a = 1 + (b - (a + 1)) by omega]
  exact pth_app 1 _ a _ _ _ (pth_1 h1 h2) h3
theorem pth_trans {p : Nat → Int32} {a b c : Nat} {O O1 O2 : OrdM} (hb : a ≤ b) (hc : b ≤ c) (h1 : pth p (b - a) a O O1) (h2 : pth p (c - b) b O1 O2) : pth p (c - a) a O O2 := by
  rw [show c - a = (b - a) + (c - b) by omega]
  exact pth_app _ _ a _ _ _ h1 (by rw [show a + (b - a) = b by omega]; exact h2)
theorem name_ro {p : Nat → Int32} {n a : Nat} {O0 : OrdM} {w : Int32} (ha : a ≤ n) (hw : isSt w = true) (h1 : ∀ x, inR x 97 122 = true → rdF O0 x = (true, (2, 0, w, x - 97 + 1, 1, 1))) (h2 : a < n → inR (p a) 97 122 = false → (rdF O0 (p a)).1 = false) (h3 : ordE O0.1 = false) : ∃ O', pth p ((roM p n w (nameF p n a true)).1 - a) a O0 O' ∧ EndO p n (roM p n w (nameF p n a true)) O' := by
  unfold nameF
  cases h : tkB p n a 97 122 true
  · have e4 : tkA p n a 97 122 true = a := if_neg (by rw [h]; exact Bool.false_ne_true)
    rw [e4, nmF_f]
    unfold roM
    rw [if_neg Bool.false_ne_true]
    refine ⟨O0, pth_0, fun q => (by cases q), fun _ => ⟨h3, fun hn => h2 hn ?_⟩⟩
    have hn' : a < n := hn
    unfold tkB at h
    rwa [if_pos rfl, tk_sg hn'] at h
  · obtain ⟨_, b1, b2⟩ := tk_true pos97 h
    have e4 : tkA p n a 97 122 true = a + 1 := if_pos h
    rw [e4]
    have b1' := b1
    rw [tk_sg b2] at b1'
    obtain ⟨c1, c2⟩ := inR_b b1'
    rw [i97] at c1
    rw [i122] at c2
    have n59 : p a ≠ 59 := ne_i (by rw [i59]; omega)
    obtain ⟨k1, le, k2, k3⟩ := nm_path (p := p) (n := n) (sm := w) 3 (a + 1) (sgP p n a - 97 + 1) (by omega) (by omega)
    have kle := nmF_le (p := p) (n := n) 3 (a + 1) true (sgP p n a - 97 + 1) (by omega)
    have st0 : rdF O0 (p a) = (true, (2, 0, w, sgP p n a - 97 + 1, 1, 1)) := by
      rw [tk_sg b2]
      exact h1 _ b1'
    have e1 : nI (4 - 3) = 1 := by decide +kernel
    rw [e1] at k2
    generalize nmF p n 3 (a + 1) true (sgP p n a - 97 + 1) = q at *
    obtain ⟨a2, b, x⟩ := q
    have hb : b = true := k1
    subst hb
    have ka : a + 1 ≤ a2 := kle.1
    have kn : a2 ≤ n := kle.2
    have k2' : pth p (a2 - (a + 1)) (a + 1) (2, 0, w, sgP p n a - 97 + 1, 1, 1) (2, 0, w, x, le, 1) := k2
    have k3' : a2 < n → (letF (2, 0, w, x, le, 1) (p a2)).1 = false := k3
    have path2 := pth_cons ka n59 st0 k2'
    unfold roM
    rw [if_pos rfl]
    by_cases h42 : sgP p n a2 = 42
    · have l2 := sg_ne (x := 42) (by decide +kernel) h42
      rw [if_pos h42]
      rw [tk_sg l2] at h42
      have s59 : p a2 ≠ 59 := ne_i (by rw [h42, i42, i59]; omega)
      have st2 : rdF (2, 0, w, x, le, 1) (p a2) = (true, (3, 0, w, x, le, 1)) := by rw [h42]; exact rd_2s
      unfold roK numF
      cases hd : tkB p n (a2 + 1) 48 57 true
      · have e5 : tkA p n (a2 + 1) 48 57 true = a2 + 1 := if_neg (by rw [hd]; exact Bool.false_ne_true)
        rw [e5, nuF_f]
        refine ⟨(3, 0, w, x, le, 1), pth_trans (b := a2) (by omega) (by show a2 ≤ a2 + 1; omega) path2 (pth_cons (by show a2 + 1 ≤ a2 + 1; omega) s59 st2 pth_0), fun q => (by cases q), fun _ => ⟨oe_3, fun hn => ?_⟩⟩
        have hn' : a2 + 1 < n := hn
        unfold tkB at hd
        rw [if_pos rfl, tk_sg hn'] at hd
        show (rdF (3, 0, w, x, le, 1) (p (a2 + 1))).1 = false
        by_cases c59 : p (a2 + 1) = 59
        · rw [c59]
          exact rd_59n oe_3
        · rw [rd_3 c59]
          unfold fdgF
          rw [isDg_in, hd, if_neg Bool.false_ne_true]
      · obtain ⟨_, d1, d2⟩ := tk_true pos48 hd
        have e5 : tkA p n (a2 + 1) 48 57 true = a2 + 2 := if_pos hd
        rw [e5]
        have d1' := d1
        rw [tk_sg d2] at d1'
        obtain ⟨f1, f2⟩ := inR_b d1'
        rw [i48] at f1
        rw [i57] at f2
        have m59 : p (a2 + 1) ≠ 59 := ne_i (by rw [i59]; omega)
        have ev : (sgP p n (a2 + 1) - 48).toInt = (p (a2 + 1)).toInt - 48 := by rw [tk_sg d2, sbv (by omega) (by rw [i48]; omega), i48]
        obtain ⟨u1, u2, u3⟩ := nu_path (p := p) (n := n) (sm := w) (gu := x) (le := le) 2 (a2 + 2) (sgP p n (a2 + 1) - 48) (Or.inl ⟨rfl, by omega, by omega⟩) (by omega)
        have ule := nuF_le (p := p) (n := n) 2 (a2 + 2) true (sgP p n (a2 + 1) - 48) (by omega)
        have st3 : rdF (3, 0, w, x, le, 1) (p (a2 + 1)) = (true, (4, 0, w, x, le, sgP p n (a2 + 1) - 48)) := by
          rw [rd_3 m59, tk_sg d2]
          unfold fdgF
          rw [isDg_in, if_pos d1']
        generalize nuF p n 2 (a2 + 2) true (sgP p n (a2 + 1) - 48) = v at *
        obtain ⟨a3, b3, z⟩ := v
        have hb3 : b3 = true := u1
        subst hb3
        have va : a2 + 2 ≤ a3 := ule.1
        have u2' : pth p (a3 - (a2 + 1 + 1)) (a2 + 1 + 1) (4, 0, w, x, le, sgP p n (a2 + 1) - 48) (4, 0, w, x, le, z) := u2
        refine ⟨(4, 0, w, x, le, z), pth_trans (b := a2) (by omega) (by show a2 ≤ a3; omega) path2 (pth_cons (by show a2 + 1 ≤ a3; omega) s59 st2 (pth_cons (by show a2 + 1 + 1 ≤ a3; omega) m59 st3 u2')), fun _ => ⟨oe_4, Or.inr (Or.inr ⟨hw, rfl, rfl, rfl, rfl⟩), fun hn c59 => ?_⟩, fun q => (by cases q)⟩
        show (rdF (4, 0, w, x, le, z) (p a3)).1 = false
        rw [rd_4 c59]
        exact u3 hn c59
    · rw [if_neg h42]
      refine ⟨(2, 0, w, x, le, 1), path2, fun _ => ⟨oe_2, Or.inr (Or.inr ⟨hw, rfl, rfl, rfl, rfl⟩), fun hn c59 => ?_⟩, fun q => (by cases q)⟩
      have hn' : a2 < n := hn
      rw [tk_sg hn'] at h42
      show (rdF (2, 0, w, x, le, 1) (p a2)).1 = false
      rw [rd_2 c59 h42]
      exact k3' hn'
theorem i37 : Int32.toInt 37 = 37 := by decide +kernel
theorem i38 : Int32.toInt 38 = 38 := by decide +kernel
theorem i62 : Int32.toInt 62 = 62 := by decide +kernel
theorem ro_path {p : Nat → Int32} {n a : Nat} (ha : a ≤ n) : ∃ O', pth p ((roF p n a).1 - a) a ordB O' ∧ EndO p n (roF p n a) O' := by
  unfold roF
  by_cases h38 : sgP p n a = 38
  · rw [if_pos h38]
    have l := sg_ne pos38 h38
    rw [tk_sg l] at h38
    have n59 : p a ≠ 59 := ne_i (by rw [h38, i38, i59]; omega)
    have st : rdF ordB (p a) = (true, (6, 2, 0, 0, 0, 1)) := by
      unfold ordB
      rw [rd_0 n59, h38]
      unfold staF
      rw [if_neg (by decide : ¬ (38 : Int32) = 37), if_pos rfl]
    refine ⟨(6, 2, 0, 0, 0, 1), pth_cons (by show a + 1 ≤ a + 1; omega) n59 st pth_0, fun _ => ⟨oe_6, Or.inl ⟨rfl, rfl⟩, fun _ c59 => rd_6 c59⟩, fun q => (by cases q)⟩
  · rw [if_neg h38]
    by_cases h37 : sgP p n a = 37
    · rw [if_pos h37]
      have l := sg_ne pos37 h37
      rw [tk_sg l] at h37
      have n59 : p a ≠ 59 := ne_i (by rw [h37, i37, i59]; omega)
      have st : rdF ordB (p a) = (true, (5, 1, 0, 0, 0, 1)) := by
        unfold ordB
        rw [rd_0 n59, h37]
        unfold staF
        rw [if_pos rfl]
      cases hd : tkB p n (a + 1) 48 49 true
      · have e5 : tkA p n (a + 1) 48 49 true = a + 1 := if_neg (by rw [hd]; exact Bool.false_ne_true)
        rw [e5]
        refine ⟨(5, 1, 0, 0, 0, 1), pth_cons (by show a + 1 ≤ a + 1; omega) n59 st pth_0, fun q => (by cases q), fun _ => ⟨oe_5, fun hn => ?_⟩⟩
        have hn' : a + 1 < n := hn
        unfold tkB at hd
        rw [if_pos rfl, tk_sg hn'] at hd
        show (rdF (5, 1, 0, 0, 0, 1) (p (a + 1))).1 = false
        by_cases c59 : p (a + 1) = 59
        · rw [c59]
          exact rd_59n oe_5
        · rw [rd_5 c59]
          unfold ageF
          by_cases c48 : p (a + 1) = 48
          · rw [c48] at hd
            exact absurd hd (by decide +kernel)
          · rw [if_neg c48]
            by_cases c49 : p (a + 1) = 49
            · rw [c49] at hd
              exact absurd hd (by decide +kernel)
            · rw [if_neg c49]
      · obtain ⟨_, d1, d2⟩ := tk_true pos48 hd
        have e5 : tkA p n (a + 1) 48 49 true = a + 2 := if_pos hd
        rw [e5]
        rw [tk_sg d2] at d1 ⊢
        obtain ⟨f1, f2⟩ := inR_b d1
        rw [i48] at f1
        rw [i49] at f2
        have m59 : p (a + 1) ≠ 59 := ne_i (by rw [i59]; omega)
        have st2 : rdF (5, 1, 0, 0, 0, 1) (p (a + 1)) = (true, (6, 1, p (a + 1) - 48, 0, 0, 1)) := by
          rw [rd_5 m59]
          unfold ageF
          by_cases c48 : p (a + 1) = 48
          · rw [if_pos c48]
          · rw [if_neg c48]
            have c49 : p (a + 1) = 49 := Int32.toInt_inj.mp (by
              have : (p (a + 1)).toInt ≠ 48 := fun q => c48 (Int32.toInt_inj.mp (by rw [i48]; exact q))
              rw [i49]
              omega)
            rw [if_pos c49]
        have hst : isSt (p (a + 1) - 48) = true := by
          by_cases c48 : p (a + 1) = 48
          · rw [c48]
            decide +kernel
          · have c49 : p (a + 1) = 49 := Int32.toInt_inj.mp (by
              have : (p (a + 1)).toInt ≠ 48 := fun q => c48 (Int32.toInt_inj.mp (by rw [i48]; exact q))
              rw [i49]
              omega)
            rw [c49]
            decide +kernel
        exact ⟨(6, 1, p (a + 1) - 48, 0, 0, 1), pth_cons (by show a + 1 ≤ a + 2; omega) n59 st (pth_cons (by show a + 1 + 1 ≤ a + 2; omega) m59 st2 pth_0), fun _ => ⟨oe_6, Or.inr (Or.inl ⟨rfl, rfl, rfl, hst⟩), fun _ c59 => rd_6 c59⟩, fun q => (by cases q)⟩
    · rw [if_neg h37]
      by_cases h62 : sgP p n a = 62
      · rw [if_pos h62]
        have l := sg_ne pos62 h62
        rw [tk_sg l] at h62
        have n59 : p a ≠ 59 := ne_i (by rw [h62, i62, i59]; omega)
        have st : rdF ordB (p a) = (true, (1, 0, 1, 0, 0, 1)) := by
          unfold ordB
          rw [rd_0 n59, h62]
          unfold staF
          rw [if_neg (by decide : ¬ (62 : Int32) = 37), if_neg (by decide : ¬ (62 : Int32) = 38), if_pos rfl]
        obtain ⟨O', q1, q2⟩ := name_ro (p := p) (n := n) (a := a + 1) (O0 := (1, 0, 1, 0, 0, 1)) (w := 1) (by omega) (by decide +kernel) (fun x hx => by
          obtain ⟨b1, b2⟩ := inR_b hx
          rw [i97] at b1
          rw [i122] at b2
          rw [rd_1 (ne_i (by rw [i59]; omega)), letF_in (O := (1, 0, 1, 0, 0, 1)) hx (by decide : (0 : Int32) < 4)]
          show (true, ((2 : Int32), (0 : Int32), (1 : Int32), 27 * 0 + (x - 97 + 1), (0 : Int32) + 1, (1 : Int32))) = _
          rw [Int32.mul_zero, Int32.zero_add, Int32.zero_add]) (fun hn hx => by
          by_cases c59 : p (a + 1) = 59
          · rw [c59]
            exact rd_59n oe_1
          · rw [rd_1 c59]
            exact letF_no (Or.inl hx)) oe_1
        have hle := (nameF_le (p := p) (n := n) (a := a + 1) (b := true) (by omega))
        have hle2 := roM_le (p := p) (w := 1) hle.2.1
        exact ⟨O', pth_cons (by omega) n59 st q1, q2⟩
      · rw [if_neg h62]
        exact name_ro (p := p) (n := n) (a := a) (O0 := ordB) (w := 0) ha (by decide +kernel) (fun x hx => by
          obtain ⟨b1, b2⟩ := inR_b hx
          rw [i97] at b1
          rw [i122] at b2
          unfold ordB
          rw [rd_0 (ne_i (by rw [i59]; omega))]
          unfold staF
          rw [if_neg (ne_i (by rw [i37]; omega)), if_neg (ne_i (by rw [i38]; omega)), if_neg (ne_i (by rw [i62]; omega)), letF_in (O := (0, 0, 0, 0, 0, 1)) hx (by decide : (0 : Int32) < 4)]
          show (true, ((2 : Int32), (0 : Int32), (0 : Int32), 27 * 0 + (x - 97 + 1), (0 : Int32) + 1, (1 : Int32))) = _
          rw [Int32.mul_zero, Int32.zero_add, Int32.zero_add]) (fun hn hx => by
          rw [tk_sg hn] at h38 h37 h62
          by_cases c59 : p a = 59
          · rw [c59]
            exact rd_59n oe_0
          · unfold ordB
            rw [rd_0 c59]
            unfold staF
            rw [if_neg h37, if_neg h38, if_neg h62]
            exact letF_no (Or.inl hx)) oe_0
/-- the fault -/
theorem flt_pth {p : Nat → Int32} {n : Nat} : ∀ (d k : Nat) (O O' : OrdM), k + d ≤ n → pth p d k O O' → fltF p (n - k) k O = fltF p (n - (k + d)) (k + d) O' := by
  intro d
  induction d with
  | zero =>
    intro k O O' _ h
    have h' : O = O' := h
    rw [h', Nat.add_zero]
  | succ d ih =>
    intro k O O' hk h
    obtain ⟨_, h2, h3⟩ := h
    rw [show n - k = (n - (k + 1)) + 1 by omega, fltF, if_pos h2, ih (k + 1) _ O' (by omega) h3, show k + 1 + d = k + (d + 1) by omega]
theorem sg59 {p : Nat → Int32} {n a : Nat} (h : a < n) : (inR (sgP p n a) 59 59 = true) = (p a = 59) := by
  rw [tk_sg h]
  refine propext ⟨fun q => ?_, fun q => by rw [q]; decide +kernel⟩
  obtain ⟨b1, b2⟩ := inR_b q
  rw [i59] at b1 b2
  exact Int32.toInt_inj.mp (by rw [i59]; omega)
theorem flt_rl {p : Nat → Int32} {n : Nat} : ∀ (d : Nat) (r : RO) (o : Nat → Int32) (c : Nat) (O : OrdM), n - r.1 ≤ d → r.1 ≤ n → EndO p n r O → (fltF p (n - r.1) r.1 O).1 = rdA (rlF p n d (roS o c r)) := by
  have fin : ∀ (r : RO) (o : Nat → Int32) (c : Nat) (O : OrdM), r.1 ≤ n → EndO p n r O → r.2.1 = false → (fltF p (n - r.1) r.1 O).1 = nI r.1 := fun r o c O hr he hb => by
    obtain ⟨e1, e2⟩ := he.2 hb
    by_cases h : r.1 < n
    · rw [show n - r.1 = (n - (r.1 + 1)) + 1 by omega, fltF, if_neg (by rw [e2 h]; exact Bool.false_ne_true)]
    · rw [show n - r.1 = 0 by omega, fltF, e1, if_neg Bool.false_ne_true]
  intro d
  induction d with
  | zero =>
    intro r o c O hd hr he
    unfold rlF rdA roS
    cases hb : r.2.1
    · rw [if_neg Bool.false_ne_true]
      exact fin r o c O hr he hb
    · rw [if_pos rfl, show n - r.1 = 0 by omega, fltF, (he.1 hb).1, if_pos rfl]
  | succ d ih =>
    intro r o c O hd hr he
    cases hb : r.2.1
    · have e : rlF p n (d + 1) (roS o c r) = roS o c r := by
        unfold rlF
        rw [if_neg (show ¬ (roS o c r).2.1 = true from (by show ¬ r.2.1 = true; rw [hb]; exact Bool.false_ne_true))]
      rw [e]
      unfold rdA
      rw [if_neg (show ¬ (roS o c r).2.1 = true from (by show ¬ r.2.1 = true; rw [hb]; exact Bool.false_ne_true))]
      exact fin r o c O hr he hb
    · obtain ⟨e1, e2, e3⟩ := he.1 hb
      unfold rlF
      rw [if_pos (show (roS o c r).2.1 = true from hb)]
      by_cases h : r.1 < n
      · rw [if_pos (show (roS o c r).1 < n from h)]
        by_cases h59 : p r.1 = 59
        · rw [if_pos (show inR (sgP p n (roS o c r).1) 59 59 = true from by rw [show (roS o c r).1 = r.1 from rfl, sg59 h]; exact h59)]
          obtain ⟨O', q1, q2⟩ := ro_path (p := p) (n := n) (a := r.1 + 1) (by omega)
          obtain ⟨r1, r2, r3⟩ := roF_le (p := p) (n := n) (a := r.1 + 1) (by omega)
          have i := ih (roF p n (r.1 + 1)) (roS o c r).2.2.1 (roS o c r).2.2.2 O' (by omega) r2 q2
          rw [show (roS o c r).1 = r.1 from rfl, ← i]
          rw [show n - r.1 = (n - (r.1 + 1)) + 1 by omega, fltF, h59, rd_59, e1, if_pos rfl]
          show (fltF p (n - (r.1 + 1)) (r.1 + 1) ordB).1 = _
          rw [flt_pth _ _ _ _ (by omega) q1, show r.1 + 1 + ((roF p n (r.1 + 1)).1 - (r.1 + 1)) = (roF p n (r.1 + 1)).1 by omega]
        · rw [if_neg (show ¬ inR (sgP p n (roS o c r).1) 59 59 = true from by rw [show (roS o c r).1 = r.1 from rfl, sg59 h]; exact h59)]
          rw [show n - r.1 = (n - (r.1 + 1)) + 1 by omega, fltF, if_neg (by rw [e3 h h59]; exact Bool.false_ne_true)]
          unfold rdA
          rw [if_neg Bool.false_ne_true]
          rfl
      · rw [if_neg (show ¬ (roS o c r).1 < n from h)]
        unfold rdA
        rw [if_pos (show (roS o c r).2.1 = true from hb), show n - r.1 = 0 by omega, fltF, e1, if_pos rfl]
theorem flt_rd {p : Nat → Int32} {n : Nat} {o : Nat → Int32} : (fltF p n 0 ordB).1 = rdA (rdS p n o) := by
  obtain ⟨O', q1, q2⟩ := ro_path (p := p) (n := n) (a := 0) (by omega)
  obtain ⟨r1, r2, r3⟩ := roF_le (p := p) (n := n) (a := 0) (by omega)
  have h := flt_rl n (roF p n 0) o 0 O' (by omega) r2 q2
  unfold rdS
  rw [← h]
  have := flt_pth (n := n) _ 0 ordB O' (by omega) q1
  rw [Nat.sub_zero] at this
  rw [this, Nat.sub_zero, Nat.zero_add]
