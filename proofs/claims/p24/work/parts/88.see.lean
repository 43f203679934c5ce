/-! what the law's check sees -/
theorem mlv {x y : Int32} (h1 : 0 ≤ x.toInt) (h2 : x.toInt ≤ 1000) (h3 : -100000 ≤ y.toInt) (h4 : y.toInt ≤ 100000) : (x * y).toInt = x.toInt * y.toInt := by
  rw [Int32.toInt_mul]
  have a1 : x.toInt * y.toInt ≤ 1000 * 100000 := by
    by_cases h : 0 ≤ y.toInt
    · exact Int.mul_le_mul h2 h4 h (by omega)
    · have := Int.mul_nonpos_of_nonneg_of_nonpos h1 (show y.toInt ≤ 0 by omega)
      omega
  have a2 : -(1000 * 100000) ≤ x.toInt * y.toInt := by
    by_cases h : 0 ≤ y.toInt
    · have := Int.mul_nonneg h1 h
      omega
    · have := Int.mul_le_mul h2 (show -y.toInt ≤ 100000 by omega) (by omega) (by omega)
      rw [Int.mul_neg] at this
      omega
  exact Int.bmod_eq_of_le (by omega) (by omega)
theorem t10 : Int32.toInt 10 = 10 := by decide +kernel
theorem t100 : Int32.toInt 100 = 100 := by decide +kernel
theorem t1 : Int32.toInt 1 = 1 := by decide +kernel
theorem v870 {A : StaM} {s : Int32} (hs : isSt s = true) : f87 A s 0 = sN (stOf A s) := by
  unfold f87
  rw [if_pos hs, if_pos rfl]
theorem v871 {A : StaM} {s : Int32} (hs : isSt s = true) : f87 A s 1 = nI (rT (sR (stOf A s))) := by
  unfold f87
  rw [if_pos hs, if_neg (by decide), if_pos rfl]
theorem v872 {A : StaM} {s : Int32} (hs : isSt s = true) : f87 A s 2 = nI (tN (sT (stOf A s))) := by
  unfold f87
  rw [if_pos hs, if_neg (by decide), if_neg (by decide), if_pos rfl]
theorem v874 {A : StaM} {s : Int32} (hs : isSt s = true) : f87 A s 4 = smR (rC (sR (stOf A s))) (rT (sR (stOf A s))) := by
  unfold f87
  rw [if_pos hs, if_neg (by decide), if_neg (by decide), if_neg (by decide), if_neg (by decide), if_pos rfl]
  rfl
theorem v880 {A : StaM} {sz : Nat} {P : PadM} : f88 A sz P 0 = nI (rS (sR (aZ A))) := if_pos rfl
theorem v882 {A : StaM} {sz : Nat} {P : PadM} : f88 A sz P 2 = nI sz := by
  unfold f88
  rw [if_neg (by decide), if_neg (by decide), if_pos rfl]
theorem v85 {k : Nat} {A : StaM} {s : Int32} (hs : isSt s = true) (hb : SB (stOf A s)) (hk : k < rT (sR (stOf A s))) : f85 A s (nI k) 0 = rG (sR (stOf A s)) k ∧ f85 A s (nI k) 1 = rC (sR (stOf A s)) k ∧ f85 A s (nI k) 2 = rE (sR (stOf A s)) k := by
  have h1 := hb.2.2.1.1
  have h2 := hb.2.2.1.2.2.1
  have hi : in_ (rT (sR (stOf A s))) (nI k) = true := by rw [in_nI (by omega) (by omega)]; exact decide_eq_true hk
  unfold f85
  rw [if_pos hs, if_pos hi, if_pos hs, if_pos hi, if_pos hs, if_pos hi, if_pos rfl, if_neg (by decide), if_pos rfl, if_neg (by decide), if_neg (by decide), if_pos rfl, at_nI hk (by omega), at_nI hk (by omega), at_nI hk (by omega)]
  exact ⟨rfl, rfl, rfl⟩
theorem errA_s {s y : Int32} (hs : isSt s = true) (hy : isCd y = true) : errA s y = 0 := by
  unfold errA
  rw [if_pos hs, if_pos hy]
theorem v86 {y : Int32} {A : StaM} {s : Int32} (hs : isSt s = true) (hb : SB (stOf A s)) (hy : isCd y = true) : f86 A s y 0 = seatOfR (rG (sR (stOf A s))) (rT (sR (stOf A s))) y ∧ f86 A s y 1 = mosR (sR (stOf A s)) y ∧ f86 A s y 2 = lesR (sR (stOf A s)) y ∧ f86 A s y 3 = lkT (tlT (sT (stOf A s))) y := by
  have he := errA_s hs hy
  unfold f86
  rw [if_pos he, if_pos he, if_pos he, if_pos he, if_pos rfl, if_neg (by decide), if_pos rfl, if_neg (by decide), if_neg (by decide), if_pos rfl, if_neg (by decide), if_neg (by decide), if_neg (by decide), if_pos rfl]
  exact ⟨rfl, rfl, rfl, tr_at hb.2.2.2 y⟩
theorem v91 {k : Nat} {A : StaM} {s : Int32} (hs : isSt s = true) (hb : SB (stOf A s)) (hk : k < tN (sT (stOf A s))) : f91 A s (nI k) = tG (sT (stOf A s)) k := by
  have h1 := hb.2.2.2.1
  have hi : in_ (tN (sT (stOf A s))) (nI k) = true := by rw [in_nI (by omega) (by omega)]; exact decide_eq_true hk
  unfold f91
  rw [if_pos hs, if_pos hi, at_nI hk (by omega)]
/-- rows -/
theorem see_row {k : Nat} {A : StaM} {s : Int32} (hs : isSt s = true) (hb : SB (stOf A s)) (hk : k < rT (sR (stOf A s))) : ¬ f85 A s (nI k) 1 < f85 A s (nI k) 2 ∧ ¬ f85 A s (nI k) 1 < 1 ∧ f86 A s (f85 A s (nI k) 0) 0 = nI k := by
  obtain ⟨e0, e1, e2⟩ := v85 hs hb hk
  have b := hb.2.2.1.2.2.2.2 k hk
  rw [e0, e1, e2]
  refine ⟨fun q => ?_, fun q => ?_, ?_⟩
  · have := Int32.lt_iff_toInt_lt.mp q
    omega
  · have := Int32.lt_iff_toInt_lt.mp q
    rw [t1] at this
    omega
  · rw [(v86 hs hb b.1).1]
    exact seat_k hb.2.2.1.2.2.2.1 hk
/-- guests -/
def btV (A : StaM) (s y : Int32) : Bool := if f86 A s y 3 < f86 A s y 2 then false else if f86 A s y 1 < f86 A s y 3 then false else true
def hqV (A : StaM) (s y : Int32) : Bool := if f87 A s 0 < f86 A s y 3 * nI (rS (sR (aZ A))) then (if f86 A s y 0 < 0 then false else true) else true
theorem tal_cd {k : Nat} {A : StaM} {s : Int32} (hs : isSt s = true) (hb : SB (stOf A s)) (hk : k < tN (sT (stOf A s))) : isCd (tG (sT (stOf A s)) k) = true := (hb.2.2.2.2.2.2 _ (tl_in hk)).1
theorem see_bt {k : Nat} {A : StaM} {s : Int32} (hs : isSt s = true) (hb : SB (stOf A s)) (bt : BT (stOf A s)) (hk : k < tN (sT (stOf A s))) : btV A s (f91 A s (nI k)) = true := by
  rw [v91 hs hb hk]
  obtain ⟨e0, e1, e2, e3⟩ := v86 hs hb (tal_cd hs hb hk)
  have q := bt_all hb.2.2.1 hb.1 hb.2.1 (fun z => (tr_nn hb.2.2.2 hb.1 z).1) bt.1 bt.2 (tG (sT (stOf A s)) k)
  unfold trT at q
  unfold btV
  rw [e1, e2, e3, if_neg (fun r => by have := Int32.lt_iff_toInt_lt.mp r; omega), if_neg (fun r => by have := Int32.lt_iff_toInt_lt.mp r; omega)]
theorem sm_ge {c : Nat → Int32} {m : Int} (h0 : 0 ≤ m) : ∀ t, t ≤ 12 → (∀ i, i < t → m ≤ (c i).toInt ∧ (c i).toInt ≤ 99999) → (t : Int) * m ≤ (smR c t).toInt ∧ 0 ≤ (smR c t).toInt ∧ (smR c t).toInt ≤ t * 99999 := by
  intro t
  induction t with
  | zero =>
    intro _ _
    have : (smR c 0).toInt = 0 := z_int
    rw [this]
    omega
  | succ t ih =>
    intro ht h
    obtain ⟨i1, i2, i3⟩ := ih (by omega) (fun i hi => h i (by omega))
    have b := h t (by omega)
    have e : smR c (t + 1) = smR c t + c t := by
      unfold smR
      rw [fold_snoc, Nat.zero_add]
    have e2 : ((t + 1 : Nat) : Int) * m = (t : Int) * m + m := by
      rw [show ((t + 1 : Nat) : Int) = (t : Int) + 1 by omega, Int.add_mul, Int.one_mul]
    rw [e, adv (by omega) (by omega) (by omega) (by omega), e2]
    omega
theorem see_hq {k : Nat} {A : StaM} {s : Int32} (hs : isSt s = true) (hb : SB (stOf A s)) (hz : rS (sR (stOf A s)) = rS (sR (aZ A))) (bt : BT (stOf A s)) (sm : SM (stOf A s)) (hk : k < tN (sT (stOf A s))) : hqV A s (f91 A s (nI k)) = true := by
  rw [v91 hs hb hk]
  obtain ⟨e0, e1, e2, e3⟩ := v86 hs hb (tal_cd hs hb hk)
  have tn := tr_nn hb.2.2.2 hb.1 (tG (sT (stOf A s)) k)
  obtain ⟨r1, r2, r3, r4, r5⟩ := hb.2.2.1
  have hn := hb.1
  have hx := hb.2.1
  unfold hqV
  rw [e0, e3, v870 hs, ← hz]
  rcases seated (sR (stOf A s)) (tG (sT (stOf A s)) k) with ⟨j, j1, j2⟩ | hno
  · rw [← j2, seat_k r4 j1, if_neg (nI_pos (by omega : j < 2 ^ 31))]
    by_cases q : sN (stOf A s) < lkT (tlT (sT (stOf A s))) (rG (sR (stOf A s)) j) * nI (rS (sR (stOf A s)))
    · rw [if_pos q]
    · rw [if_neg q]
  · rw [if_neg (fun r => ?_)]
    have h1 := Int32.lt_iff_toInt_lt.mp r
    have hmul : (lkT (tlT (sT (stOf A s))) (tG (sT (stOf A s)) k) * nI (rS (sR (stOf A s)))).toInt = (rS (sR (stOf A s)) : Int) * trT (sT (stOf A s)) (tG (sT (stOf A s)) k) := by
      unfold trT at tn ⊢
      rw [Int32.mul_comm, mlv (by rw [nI_toInt (by omega)]; omega) (by rw [nI_toInt (by omega)]; omega) (by omega) (by omega), nI_toInt (by omega)]
    rw [hmul] at h1
    by_cases hq : rT (sR (stOf A s)) < rS (sR (stOf A s))
    · have := bt.2 hq _ hno
      rw [this, Int.mul_zero] at h1
      omega
    · have et : rT (sR (stOf A s)) = rS (sR (stOf A s)) := by omega
      have := sm_ge (c := rC (sR (stOf A s))) (m := trT (sT (stOf A s)) (tG (sT (stOf A s)) k)) tn.1 (rT (sR (stOf A s))) (by omega) (fun i hi => ⟨bt.1.2 _ hno i hi, by have := r5 i hi; omega⟩)
      rw [show smR (rC (sR (stOf A s))) (rT (sR (stOf A s))) = sN (stOf A s) from sm, et] at this
      omega
/-- shares -/
theorem v890 {A : StaM} {s : Int32} (hs : isSt s = true) : f89 A s 10 0 = nI (fold (fun a k => if 10 * sN (stOf A s) < 100 * (rC (sR (stOf A s)) k - rE (sR (stOf A s)) k) then a + 1 else a) (rT (sR (stOf A s))) 0 0) := by
  unfold f89
  rw [if_pos hs, if_neg (by decide), if_neg (by decide), if_pos rfl]
theorem v892 {A : StaM} {s : Int32} (hs : isSt s = true) : f89 A s 10 2 = nI (fold (fun a k => if 10 * sN (stOf A s) < 100 * tC (sT (stOf A s)) k then a + 1 else a) (tN (sT (stOf A s))) 0 0) := by
  unfold f89
  rw [if_pos hs, if_neg (by decide), if_neg (by decide), if_neg (by decide), if_neg (by decide), if_pos rfl]
theorem see_sure {A : StaM} {s : Int32} (hs : isSt s = true) (hb : SB (stOf A s)) (bt : BT (stOf A s)) : ¬ f89 A s 10 2 < f89 A s 10 0 := by
  have c0 : fold (fun (a : Nat) k => if 10 * sN (stOf A s) < 100 * (rC (sR (stOf A s)) k - rE (sR (stOf A s)) k) then a + 1 else a) (rT (sR (stOf A s))) 0 0 = 0 + (LJ (sR (stOf A s))).countP (fun p => decide (10 * sN (stOf A s) < 100 * (p.2.1 - p.2.2))) := fold_cnt (p := fun k => 10 * sN (stOf A s) < 100 * (rC (sR (stOf A s)) k - rE (sR (stOf A s)) k)) (f := pr3 (rG (sR (stOf A s))) (rC (sR (stOf A s))) (rE (sR (stOf A s)))) (q := fun p => decide (10 * sN (stOf A s) < 100 * (p.2.1 - p.2.2))) (fun j => ⟨fun h => decide_eq_true h, fun h => of_decide_eq_true h⟩) _ _ _
  have c2 : fold (fun (a : Nat) k => if 10 * sN (stOf A s) < 100 * tC (sT (stOf A s)) k then a + 1 else a) (tN (sT (stOf A s))) 0 0 = 0 + (tlT (sT (stOf A s))).countP (fun p => decide (10 * sN (stOf A s) < 100 * p.2)) := fold_cnt (p := fun k => 10 * sN (stOf A s) < 100 * tC (sT (stOf A s)) k) (f := pr2 (tG (sT (stOf A s))) (tC (sT (stOf A s)))) (q := fun p => decide (10 * sN (stOf A s) < 100 * p.2)) (fun j => ⟨fun h => decide_eq_true h, fun h => of_decide_eq_true h⟩) _ _ _
  rw [v890 hs, v892 hs, c0, c2]
  have hn := hb.1
  have hx := hb.2.1
  have e10 : (10 * sN (stOf A s)).toInt = 10 * (sN (stOf A s)).toInt := by rw [mlv (by rw [t10]; omega) (by rw [t10]; omega) (by omega) (by omega), t10]
  have key : (LJ (sR (stOf A s))).countP (fun p => decide (10 * sN (stOf A s) < 100 * (p.2.1 - p.2.2))) ≤ (tlT (sT (stOf A s))).countP (fun p => decide (10 * sN (stOf A s) < 100 * p.2)) := by
    rw [List.countP_eq_length_filter, List.countP_eq_length_filter, ← List.length_map (f := k3), ← List.length_map (f := Prod.fst) (as := List.filter _ (tlT (sT (stOf A s))))]
    refine nd_sub _ _ ?_ (fun x hx2 => ?_)
    · exact List.Pairwise.sublist (List.Sublist.map k3 List.filter_sublist) (RB_l hb.2.2.1).1
    · obtain ⟨p, p1, p2⟩ := List.mem_map.mp hx2
      obtain ⟨p3, p4⟩ := List.mem_filter.mp p1
      obtain ⟨j, j1, j2, j3⟩ := (seg_mem _ _).mp p3
      have hj : j < rT (sR (stOf A s)) := by omega
      have b := hb.2.2.1.2.2.2.2 j hj
      have c := bt.1.1 j hj
      have lt := Int32.lt_iff_toInt_lt.mp (of_decide_eq_true p4)
      rw [j3] at lt p2
      have lt2 : (10 * sN (stOf A s)).toInt < (100 * (rC (sR (stOf A s)) j - rE (sR (stOf A s)) j)).toInt := lt
      have ed : (rC (sR (stOf A s)) j - rE (sR (stOf A s)) j).toInt = (rC (sR (stOf A s)) j).toInt - (rE (sR (stOf A s)) j).toInt := sbv (by omega) (by omega) (by omega) (by omega)
      rw [e10, mlv (by rw [t100]; omega) (by rw [t100]; omega) (by omega) (by omega), t100, ed] at lt2
      have px : rG (sR (stOf A s)) j = x := p2
      rw [px] at c
      unfold trT at c
      rcases lk_cs (tlT (sT (stOf A s))) x with ⟨q, q1, q2, q3⟩ | ⟨q1, q2⟩
      · refine List.mem_map.mpr ⟨q, List.mem_filter.mpr ⟨q1, decide_eq_true (Int32.lt_iff_toInt_lt.mpr ?_)⟩, q2⟩
        have bq := hb.2.2.2.2.2.2 q q1
        rw [q3] at c
        rw [e10, mlv (by rw [t100]; omega) (by rw [t100]; omega) (by omega) (by omega), t100]
        omega
      · rw [q2, z_int] at c
        omega
  have l2 : (tlT (sT (stOf A s))).countP (fun p => decide (10 * sN (stOf A s) < 100 * p.2)) ≤ 60 := by
    have := List.countP_le_length (p := fun p : P2 => decide (10 * sN (stOf A s) < 100 * p.2)) (l := tlT (sT (stOf A s)))
    rw [tlT_len] at this
    have := hb.2.2.2.1
    omega
  exact nI_nlt (by omega) (by omega)
