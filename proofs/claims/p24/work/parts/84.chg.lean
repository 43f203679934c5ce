/-! changing the seats, ageing: what is kept -/
theorem sh_pick {f : Nat → Int32} {t b j : Nat} (hj : j < t - 1) : shF f (t - (b + 1)) b j = f (if j < b then j else j + 1) := by
  rw [shF_v]
  by_cases h : j < b
  · rw [if_neg (by omega), if_pos h]
  · rw [if_pos (by omega), if_neg h]
theorem one_less {g c e : Nat → Int32} {t b : Nat} {tot : Int} {tr : Int32 → Int} (hb : b < t) (h : DR g c e t tot) : DR (shF g (t - (b + 1)) b) (shF c (t - (b + 1)) b) (shF e (t - (b + 1)) b) (t - 1) tot ∧ ((∀ i, i < t → (c b).toInt ≤ (c i).toInt) → BX g c e t tr → BX (shF g (t - (b + 1)) b) (shF c (t - (b + 1)) b) (shF e (t - (b + 1)) b) (t - 1) tr) := by
  have pl : ∀ j, j < t - 1 → (if j < b then j else j + 1) < t := fun j hj => by
    by_cases h : j < b
    · rw [if_pos h]; omega
    · rw [if_neg h]; omega
  refine ⟨⟨fun i j hi hj q => ?_, fun j hj => ?_⟩, fun hm hx => ⟨fun j hj => ?_, fun z hz j hj => ?_⟩⟩
  · rw [sh_pick hi, sh_pick hj] at q
    have := h.1 _ _ (pl i hi) (pl j hj) q
    by_cases h1 : i < b <;> by_cases h2 : j < b
    · rw [if_pos h1, if_pos h2] at this; omega
    · rw [if_pos h1, if_neg h2] at this; omega
    · rw [if_neg h1, if_pos h2] at this; omega
    · rw [if_neg h1, if_neg h2] at this; omega
  · rw [sh_pick hj, sh_pick hj, sh_pick hj]
    exact h.2 _ (pl j hj)
  · rw [sh_pick hj, sh_pick hj, sh_pick hj]
    exact hx.1 _ (pl j hj)
  · rw [sh_pick hj]
    have key : ∀ i, i < t → i ≠ b → g i ≠ z := fun i hi hne q => by
      by_cases h1 : i < b
      · refine hz i (by omega) ?_
        rw [sh_pick (by omega), if_pos h1]
        exact q
      · refine hz (i - 1) (by omega) ?_
        rw [sh_pick (by omega), if_neg (by omega), show i - 1 + 1 = i by omega]
        exact q
    by_cases hgb : g b = z
    · have h1 := (hx.1 b hb).2
      rw [hgb] at h1
      have := hm _ (pl j hj)
      omega
    · refine hx.2 z (fun i hi q => ?_) _ (pl j hj)
      by_cases h1 : i = b
      · rw [h1] at q; exact hgb q
      · exact key i hi h1 q
theorem chg_less {tot : Int} {tr : Int32 → Int} : ∀ (n t : Nat) (g c e : Nat → Int32), n ≤ t → DR g c e t tot → DR (chgF n g c e t).1 (chgF n g c e t).2.1 (chgF n g c e t).2.2 (t - n) tot ∧ (BX g c e t tr → BX (chgF n g c e t).1 (chgF n g c e t).2.1 (chgF n g c e t).2.2 (t - n) tr) := by
  intro n
  induction n with
  | zero =>
    intro t g c e _ h
    exact ⟨h, fun b => b⟩
  | succ n ih =>
    intro t g c e hn h
    have hb := ftgN_lt (c := c) (e := e) (t := t) (by omega)
    obtain ⟨o1, o2⟩ := one_less (tr := tr) hb h
    obtain ⟨i1, i2⟩ := ih (t - 1) _ _ _ (by omega) o1
    have et : t - 1 - n = t - (n + 1) := by omega
    rw [et] at i1 i2
    exact ⟨i1, fun b => i2 (o2 (fun i hi => ftg_le hi) b)⟩
theorem chg_S {S : StrM} {m : Nat} (h : SB S) (hm1 : 1 ≤ m) (hm2 : m ≤ 12) : SB (chgS S m) ∧ rS (sR (chgS S m)) = m ∧ (m ≤ rS (sR S) → BT S → BT (chgS S m)) ∧ (m = rS (sR S) → SM S → SM (chgS S m)) := by
  obtain ⟨s1, s2, ⟨r1, r2, r3, r4⟩, s4⟩ := h
  obtain ⟨c1, c2⟩ := chg_less (tr := trT (sT S)) (rT (sR S) - m) (rT (sR S)) (rG (sR S)) (rC (sR S)) (rE (sR S)) (by omega) r4
  refine ⟨⟨s1, s2, ⟨?_, hm1, hm2, c1⟩, s4⟩, rfl, fun hm b => ⟨c2 b.1, ?_⟩, fun hm q => ?_⟩
  · show rT (sR S) - (rT (sR S) - m) ≤ m
    omega
  · by_cases ht : rT (sR S) ≤ m
    · have e0 : rT (sR S) - m = 0 := by omega
      have es : sR (chgS S m) = (rG (sR S), rC (sR S), rE (sR S), m, rT (sR S)) := by
        show chgR (sR S) m = _
        unfold chgR
        rw [e0]
        rfl
      rw [es]
      intro hq z hz
      refine b.2 ?_ z hz
      have hq' : rT (sR S) < m := hq
      omega
    · intro hq
      have hq' : rT (sR S) - (rT (sR S) - m) < m := hq
      omega
  · have e0 : rT (sR S) - m = 0 := by omega
    have es : sR (chgS S m) = (rG (sR S), rC (sR S), rE (sR S), m, rT (sR S)) := by
      show chgR (sR S) m = _
      unfold chgR
      rw [e0]
      rfl
    show smR (rC (sR (chgS S m))) (rT (sR (chgS S m))) = sN S
    rw [es]
    exact q
theorem hal_S {S : StrM} (h : SB S) : SB (halS S) ∧ rS (sR (halS S)) = rS (sR S) := by
  obtain ⟨s1, s2, s3, s4⟩ := h
  obtain ⟨l1, l2⟩ := RB_l s3
  obtain ⟨r1, r2, r3, r4⟩ := s3
  obtain ⟨t1, t2, t3, t4⟩ := s4
  have et : (sN S / 2).toInt = (sN S).toInt / 2 := half s1
  obtain ⟨g1, g2⟩ := halF_seg (Q := rS (sR S)) (rT (sR S)) 0 (rG (sR S)) (rC (sR S)) (rE (sR S)) 0 (Nat.le_refl _)
  have gL : LJ (sR (halS S)) = (LJ (sR S)).filterMap hv3 := g2
  have gS : rS (sR (halS S)) = rS (sR S) := g1
  have gl : rT (sR (halS S)) ≤ rT (sR S) := by
    have e1 : (LJ (sR (halS S))).length = rT (sR (halS S)) := seg_len _ _
    have e2 : (LJ (sR S)).length = rT (sR S) := seg_len _ _
    have := List.length_filterMap_le hv3 (LJ (sR S))
    rw [← gL, e1, e2] at this
    exact this
  obtain ⟨h1, h2, h3⟩ := thF_seg (tN (sT S)) 0 (tG (sT S)) (tC (sT S)) 0 (Nat.le_refl _) List.Pairwise.nil (by
    have e : (tlT (sT S)).map Prod.fst = seg (tG (sT S)) (tN (sT S)) 0 := keys_seg
    rw [e] at t3
    exact t3)
  have hp : (tlT (sT (halS S))).Perm ((tlT (sT S)).filterMap hv2) := h1
  refine ⟨⟨?_, ?_, RB_of ?_ ?_ ?_ ?_ (fun p hp => ?_), ⟨?_, h2, ?_, fun p hp2 => ?_⟩⟩, gS⟩
  · show 0 ≤ (sN S / 2).toInt
    omega
  · show (sN S / 2).toInt ≤ 99999
    omega
  · rw [gS]; omega
  · rw [gS]; exact r2
  · rw [gS]; exact r3
  · rw [gL]
    exact fm_nodup hv3_k _ l1
  · rw [gL] at hp
    obtain ⟨q, q1, q2⟩ := List.mem_filterMap.mp hp
    have b := l2 q q1
    unfold hv3 at q2
    by_cases hc : 0 < q.2.1 / 2
    · rw [if_pos hc] at q2
      cases q2
      have e1 := half (x := q.2.1) (by omega)
      have e2 := half (x := q.2.2) (by omega)
      have e3 := half_pos (x := q.2.1) (by omega)
      rw [e3] at hc
      show isCd q.1 = true ∧ 0 ≤ (q.2.2 / 2).toInt ∧ (q.2.2 / 2).toInt ≤ (q.2.1 / 2).toInt ∧ 1 ≤ (q.2.1 / 2).toInt ∧ (q.2.1 / 2).toInt ≤ (sN S / 2).toInt
      rw [e1, e2, et]
      exact ⟨b.1, by omega, by omega, by omega, by omega⟩
    · rw [if_neg hc] at q2
      cases q2
  · show tN (halT (sT S)) ≤ 60
    have e1 : (tlT (halT (sT S))).length = tN (halT (sT S)) := seg_len _ _
    have e2 : (tlT (sT S)).length = tN (sT S) := seg_len _ _
    have := List.length_filterMap_le hv2 (tlT (sT S))
    have e3 := hp.length_eq
    rw [← e3, e2] at this
    have e4 : (tlT (sT (halS S))).length = tN (halT (sT S)) := e1
    omega
  · exact (hp.map Prod.fst).symm.nodup (fm_nodup hv2_k _ t3)
  · obtain ⟨q, q1, q2⟩ := List.mem_filterMap.mp (hp.mem_iff.mp hp2)
    have b := t4 q q1
    unfold hv2 at q2
    by_cases hc : 0 < q.2 / 2
    · rw [if_pos hc] at q2
      cases q2
      have e1 := half (x := q.2) (by omega)
      have e3 := half_pos (x := q.2) (by omega)
      rw [e3] at hc
      show isCd q.1 = true ∧ 1 ≤ (q.2 / 2).toInt ∧ (q.2 / 2).toInt ≤ (sN S / 2).toInt
      rw [e1, et]
      exact ⟨b.1, by omega, by omega⟩
    · rw [if_neg hc] at q2
      cases q2
