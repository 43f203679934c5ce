/-! questions have the same answers: places, the sure order -/
theorem seg_nodup {α : Type} {f : Nat → α} : ∀ d k, (∀ i j, k ≤ i → i < k + d → k ≤ j → j < k + d → f i = f j → i = j) → (seg f d k).Nodup := by
  intro d
  induction d with
  | zero => intro k _; exact List.Pairwise.nil
  | succ d ih =>
    intro k h
    unfold seg
    refine List.nodup_cons.mpr ⟨fun hm => ?_, ih (k + 1) (fun i j h1 h2 h3 h4 => h i j (by omega) (by omega) (by omega) (by omega))⟩
    obtain ⟨j, j1, j2, j3⟩ := (seg_mem d (k + 1)).mp hm
    have := h k j (Nat.le_refl _) (by omega) (by omega) (by omega) j3
    omega
theorem pr3_g {g c e : Nat → Int32} {i j : Nat} (h : pr3 g c e i = pr3 g c e j) : g i = g j := congrArg (fun p : P3 => p.1) h
theorem s3_nodup {g c e : Nat → Int32} {n : Nat} (hd : ∀ i j, i < n → j < n → g i = g j → i = j) : (seg (pr3 g c e) n 0).Nodup := seg_nodup n 0 (fun i j _ h2 _ h4 h5 => hd i j (by omega) (by omega) (pr3_g h5))
def rk3 (g c e : Nat → Int32) (n i : Nat) : Nat := rnk stB (seg (pr3 g c e) n 0) (pr3 g c e i)
theorem rk3_lt {g c e : Nat → Int32} {n : Nat} (hd : ∀ i j, i < n → j < n → g i = g j → i = j) {k : Nat} (hk : k < n) : rk3 g c e n k < n := by
  have := rank_lt stB_lin (s3_nodup (c := c) (e := e) hd) (seg_in (f := pr3 g c e) (d := n) (k := 0) (j := k) (by omega) (by omega))
  rwa [seg_len] at this
theorem rk3_inj {g c e : Nat → Int32} {n : Nat} (hd : ∀ i j, i < n → j < n → g i = g j → i = j) {i j : Nat} (hi : i < n) (hj : j < n) (h : rk3 g c e n i = rk3 g c e n j) : i = j := by
  have := rank_inj stB_lin (s3_nodup (c := c) (e := e) hd) (seg_in (f := pr3 g c e) (d := n) (k := 0) (j := i) (by omega) (by omega)) (seg_in (f := pr3 g c e) (d := n) (k := 0) (j := j) (by omega) (by omega)) h
  exact hd i j hi hj (pr3_g this)
theorem rk3_ex {g c e : Nat → Int32} {n : Nat} (hd : ∀ i j, i < n → j < n → g i = g j → i = j) {r : Nat} (hr : r < n) : ∃ k, k < n ∧ rk3 g c e n k = r := by
  obtain ⟨a, ha, hb⟩ := rank_ex stB_lin (s3_nodup (c := c) (e := e) hd) (i := r) (by rw [seg_len]; exact hr)
  obtain ⟨k, _, k2, k3⟩ := (seg_mem n 0).mp ha
  subst k3
  exact ⟨k, by omega, hb⟩
theorem rkN_r {s : Nat → Int32} {t n i : Nat} : rkN s t n i = rk3 (vG s t) (vC s t) (vE s t) n i := by
  unfold rkN rk3 rnk
  rw [fold_cnt (p := fun j => ihN (vG s t) (vC s t) (vE s t) j i = true) (f := pr3 (vG s t) (vC s t) (vE s t)) (q := fun b => stB b (pr3 (vG s t) (vC s t) (vE s t) i)) (fun j => Iff.rfl), Nat.zero_add]
theorem hvR_r {g c e : Nat → Int32} {n i : Nat} (hn : n < 2 ^ 31) (hi : i < n) : hvR g c e n (nI i) = rk3 g c e n i := by
  unfold hvR rk3 rnk
  rw [fold_cg (g := fun a k => if ihN g c e k i = true then a + 1 else a) n 0 0 (fun a j _ h2 => by rw [ih_nI (show j < n by omega) hi hn])]
  rw [fold_cnt (p := fun j => ihN g c e j i = true) (f := pr3 g c e) (q := fun b => stB b (pr3 g c e i)) (fun j => Iff.rfl), Nat.zero_add]
theorem fnd_hit {p : Nat → Bool} {j : Nat} (hj : p j = true) : ∀ d k, k ≤ j → j < k + d → (∀ i, k ≤ i → i < k + d → p i = true → i = j) → fnd p d k = nI j := by
  intro d
  induction d with
  | zero => intro k _ _ _; omega
  | succ d ih =>
    intro k h1 h2 h3
    unfold fnd
    by_cases h : p k = true
    · rw [if_pos h, h3 k (Nat.le_refl _) (by omega) h]
    · rw [if_neg h]
      have : k ≠ j := fun q => h (by rw [q]; exact hj)
      exact ih (k + 1) (by omega) (by omega) (fun i q1 q2 => h3 i (by omega) (by omega))
theorem fnd_miss {p : Nat → Bool} : ∀ d k, (∀ i, k ≤ i → i < k + d → p i = false) → fnd p d k = -6 := by
  intro d
  induction d with
  | zero => intro k _; rfl
  | succ d ih =>
    intro k h
    unfold fnd
    rw [h k (Nat.le_refl _) (by omega), if_neg Bool.false_ne_true]
    exact ih (k + 1) (fun i q1 q2 => h i (by omega) (by omega))
theorem sap_hit {g c e : Nat → Int32} {n : Nat} (hd : ∀ i j, i < n → j < n → g i = g j → i = j) (hn : n < 2 ^ 31) {k : Nat} (hk : k < n) : sapR g c e n (nI (rk3 g c e n k)) = nI k := by
  have lt := fun i hi => rk3_lt (c := c) (e := e) hd (k := i) hi
  unfold sapR
  refine fnd_hit ?_ n 0 (by omega) (by omega) (fun i _ h2 h3 => ?_)
  · rw [hvR_r hn hk]
    exact decide_eq_true rfl
  · have hi : i < n := by omega
    rw [hvR_r hn hi] at h3
    have h4 := of_decide_eq_true h3
    have := lt i hi
    have := lt k hk
    rw [nI_eq_iff (by omega) (by omega)] at h4
    exact rk3_inj hd hi hk h4
theorem sap_miss {g c e : Nat → Int32} {n : Nat} (hd : ∀ i j, i < n → j < n → g i = g j → i = j) (hn : n < 2 ^ 31) {x : Int32} (hx : ∀ r, r < n → ¬ nI r = x) : sapR g c e n x = -6 := by
  unfold sapR
  refine fnd_miss n 0 (fun i _ h2 => ?_)
  have hi : i < n := by omega
  rw [hvR_r hn hi]
  exact decide_eq_false (hx _ (rk3_lt hd hi))
theorem sap_cg {g c e g2 c2 e2 : Nat → Int32} {n : Nat} {x : Int32} (hn : n < 2 ^ 31) (h : ∀ k, k < n → g k = g2 k ∧ c k = c2 k ∧ e k = e2 k) : sapR g c e n x = sapR g2 c2 e2 n x := by
  have e1 : ∀ j, j < n → pr3 g c e j = pr3 g2 c2 e2 j := fun j hj => by
    unfold pr3
    rw [(h j hj).1, (h j hj).2.1, (h j hj).2.2]
  unfold sapR
  refine fnd_congr n 0 (fun j _ h2 => ?_)
  rw [hvR_r hn (show j < n by omega), hvR_r hn (show j < n by omega)]
  unfold rk3
  rw [e1 j (by omega), seg_congr n 0 (fun i _ q => e1 i (by omega))]
theorem hyF_hit {s : Nat → Int32} {t n : Nat} (hd : ∀ i j, i < n → j < n → vG s t i = vG s t j → i = j) (hn : n < 2 ^ 31) {k : Nat} (hk : k < n) : hyF s t n (nI (rk3 (vG s t) (vC s t) (vE s t) n k)) n 0 = vG s t k := by
  have key : ∀ d i, i + d = n → i ≤ k → hyF s t n (nI (rk3 (vG s t) (vC s t) (vE s t) n k)) d i = vG s t k := by
    intro d
    induction d with
    | zero => intro i _ _; omega
    | succ d ih =>
      intro i hi hik
      unfold hyF
      rw [rkN_r]
      have a1 := rk3_lt (c := vC s t) (e := vE s t) hd (k := i) (by omega)
      have a2 := rk3_lt (c := vC s t) (e := vE s t) hd hk
      by_cases h : i = k
      · subst h
        rw [if_pos rfl]
      · rw [if_neg (fun q => h (by
          rw [nI_eq_iff (by omega) (by omega)] at q
          exact rk3_inj hd (by omega) hk q))]
        exact ih (i + 1) (by omega) (by omega)
  exact key n 0 (by omega) (by omega)
theorem hyF_miss {s : Nat → Int32} {t n : Nat} {x : Int32} (hd : ∀ i j, i < n → j < n → vG s t i = vG s t j → i = j) (hx : ∀ r, r < n → ¬ nI r = x) : ∀ d i, i + d = n → hyF s t n x d i = -1 := by
  intro d
  induction d with
  | zero => intro i _; rfl
  | succ d ih =>
    intro i hi
    unfold hyF
    rw [rkN_r, if_neg (hx _ (rk3_lt hd (by omega)))]
    exact ih (i + 1) (by omega)
theorem in_no {n : Nat} {i : Int32} (hn : n < 2 ^ 31) (h : in_ n i = false) : ∀ r, r < n → ¬ nI r = i := fun r hr q => by
  subst q
  rw [in_nI hn (by omega), decide_eq_true hr] at h
  cases h
theorem RW_n {ρ : RowM} {g c e : Nat → Int32} {tot : Int32} (h : RW ρ g c e tot) : rT ρ ≤ 12 := by
  have := h.1
  have := h.2.2.1
  omega
theorem ask90 {S : StrM} {s : Nat → Int32} {t : Nat} {i : Int32} (h : RS S s t) : (if in_ (rT (sR S)) i = true then at_ (rG (sR S)) (rT (sR S)) (sapR (rG (sR S)) (rC (sR S)) (rE (sR S)) (rT (sR S)) i) else -1) = hyF s t (rT (sR S)) i (rT (sR S)) 0 := by
  have hw := h.1
  have hd := hw.2.2.2.2.1
  have hn := RW_n hw
  rw [w_g hw, sap_cg (by omega) hw.2.2.2.1]
  cases hi : in_ (rT (sR S)) i
  · rw [if_neg Bool.false_ne_true, hyF_miss hd (in_no (by omega) hi) _ _ (by omega)]
  · rw [if_pos rfl]
    obtain ⟨r, hr, rfl⟩ := in_k hi (by omega)
    obtain ⟨k, hk, rfl⟩ := rk3_ex (c := vC s t) (e := vE s t) hd hr
    rw [sap_hit hd (by omega) hk, hyF_hit hd (by omega) hk, at_nI hk (by omega)]
theorem seat_own {g : Nat → Int32} {n k : Nat} (hd : ∀ i j, i < n → j < n → g i = g j → i = j) (hk : k < n) : seatOfR g n (g k) = nI k := by
  unfold seatOfR
  refine fnd_hit (decide_eq_true rfl) n 0 (by omega) (by omega) (fun i _ h2 h3 => hd i k (by omega) hk (of_decide_eq_true h3))
theorem mws_nn {c : Nat → Int32} {Q n : Nat} (hn : n ≤ 12) (hc : ∀ k, k < n → 0 ≤ (c k).toInt) : 0 ≤ (mwsR c Q n).toInt := by
  have z : (0 : Int32).toInt = 0 := by decide +kernel
  have key : ∀ d k a, k + d = n → 0 ≤ (Int32.toInt a) → 0 ≤ (fold (fun a k => if c k < a then c k else a) d k a).toInt := by
    intro d
    induction d with
    | zero => intro k a _ ha; exact ha
    | succ d ih =>
      intro k a hk ha
      unfold fold
      refine ih (k + 1) _ (by omega) ?_
      by_cases h : c k < a
      · rw [if_pos h]; exact hc k (by omega)
      · rw [if_neg h]; exact ha
  unfold mwsR
  by_cases h1 : n < Q
  · rw [if_pos h1, z]
    exact Int.le_refl 0
  · rw [if_neg h1]
    by_cases h0 : n = 0
    · subst h0
      show 0 ≤ (at_ c 0 0).toInt
      have : at_ c 0 0 = 0 := by
        unfold at_
        rw [if_neg (by decide +kernel), if_neg (by decide +kernel)]
      rw [this, z]
      exact Int.le_refl 0
    · refine key (n - 1) 1 _ (by omega) ?_
      rw [at_0 (by omega) (by omega)]
      exact hc 0 (by omega)
theorem sure_eq {s : Nat → Int32} {t n Q : Nat} {w : Int32} (hn : n ≤ 12) (hd : ∀ i j, i < n → j < n → vG s t i = vG s t j → i = j) (hw : 0 ≤ w.toInt) : ∀ d r, r + d = n → sureF (vG s t) (vC s t) (vE s t) n w d r (sapR (vG s t) (vC s t) (vE s t) n (nI r)) = soF s t n Q w d r := by
  have z : (0 : Int32).toInt = 0 := by decide +kernel
  have hit := fun r (hr : r < n) => rk3_ex (c := vC s t) (e := vE s t) hd hr
  intro d
  induction d with
  | zero =>
    intro r hr
    unfold sureF soF
    rw [← hr, Nat.add_zero]
  | succ d ih =>
    intro r hr
    obtain ⟨k, hk, ek⟩ := hit r (by omega)
    have s1 : sapR (vG s t) (vC s t) (vE s t) n (nI r) = nI k := by rw [← ek]; exact sap_hit hd (by omega) hk
    have y1 : hyF s t n (nI r) n 0 = vG s t k := by rw [← ek]; exact hyF_hit hd (by omega) hk
    have l1 : leV s t n (hyF s t n (nI r) n 0) = leastAtR (vC s t) (vE s t) n (nI k) := by
      unfold leV
      rw [y1, seat_own hd hk]
    unfold sureF soF
    rw [l1, s1]
    generalize leastAtR (vC s t) (vE s t) n (nI k) = L
    by_cases h1 : r + 1 = n
    · have d0 : d = 0 := by omega
      subst d0
      have s2 : sapR (vG s t) (vC s t) (vE s t) n (nI (r + 1)) = -6 := sap_miss hd (by omega) (fun q hq => by
        rw [nI_eq_iff (by omega) (by omega)]
        omega)
      rw [s2, at_n6, if_pos h1]
      have e0 : (if (0 : Int32) < w then w else 0) = w := by
        by_cases h2 : (0 : Int32) < w
        · rw [if_pos h2]
        · rw [if_neg h2]
          have := Int32.le_iff_toInt_le.mp (Int32.not_lt.mp h2)
          rw [z] at this
          exact Int32.toInt_inj.mp (by rw [z]; omega)
      rw [e0]
      unfold sureF
      rw [h1]
    · obtain ⟨k2, hk2, ek2⟩ := hit (r + 1) (by omega)
      have s2 : sapR (vG s t) (vC s t) (vE s t) n (nI (r + 1)) = nI k2 := by rw [← ek2]; exact sap_hit hd (by omega) hk2
      have y2 : hyF s t n (nI (r + 1)) n 0 = vG s t k2 := by rw [← ek2]; exact hyF_hit hd (by omega) hk2
      have m2 : moV s t n Q (hyF s t n (nI (r + 1)) n 0) = vC s t k2 := by
        unfold moV mostR
        rw [y2, seat_own hd hk2, if_neg (nI_n6 (by omega)), at_nI hk2 (by omega)]
      have i := ih (r + 1) (by omega)
      rw [s2] at i
      rw [m2, s2, at_nI hk2 (by omega), if_neg h1, i]
      generalize vC s t k2 = cn
      generalize soF s t n Q w d (r + 1) = R
      by_cases a1 : L < w
      · rw [if_pos a1]
        have : L < (if cn < w then w else cn) := by
          by_cases a2 : cn < w
          · rw [if_pos a2]; exact a1
          · rw [if_neg a2]
            have b1 := Int32.lt_iff_toInt_lt.mp a1
            have b2 := Int32.le_iff_toInt_le.mp (Int32.not_lt.mp a2)
            exact Int32.lt_iff_toInt_lt.mpr (by omega)
        rw [if_pos this]
      · rw [if_neg a1]
        by_cases a3 : L < cn
        · rw [if_pos a3]
          have : L < (if cn < w then w else cn) := by
            by_cases a2 : cn < w
            · exfalso
              have b1 := Int32.lt_iff_toInt_lt.mp a3
              have b2 := Int32.lt_iff_toInt_lt.mp a2
              exact a1 (Int32.lt_iff_toInt_lt.mpr (by omega))
            · rw [if_neg a2]; exact a3
          rw [if_pos this]
        · rw [if_neg a3]
          have : ¬ L < (if cn < w then w else cn) := by
            by_cases a2 : cn < w
            · rw [if_pos a2]; exact a1
            · rw [if_neg a2]; exact a3
          rw [if_neg this]
theorem sure_cg {g c e g2 c2 e2 : Nat → Int32} {n : Nat} {w : Int32} (hn : n < 2 ^ 31) (h : ∀ k, k < n → g k = g2 k ∧ c k = c2 k ∧ e k = e2 k) : ∀ d k z, sureF g c e n w d k z = sureF g2 c2 e2 n w d k z := by
  intro d
  induction d with
  | zero => intro k z; unfold sureF; rfl
  | succ d ih =>
    intro k z
    unfold sureF
    rw [sap_cg hn h, ih]
    unfold leastAtR
    rw [at_congr (f := c) (g := c2) hn (fun j hj => (h j hj).2.1), at_congr (f := e) (g := e2) hn (fun j hj => (h j hj).2.2), at_congr (f := c) (g := c2) hn (fun j hj => (h j hj).2.1)]
theorem ask92 {S : StrM} {s : Nat → Int32} {t : Nat} (h : RS S s t) : surR (sR S) = soF s t (rT (sR S)) (rS (sR S)) (mwsR (vC s t) (rS (sR S)) (rT (sR S))) (rT (sR S)) 0 := by
  have hw := h.1
  have hd := hw.2.2.2.2.1
  have hn := RW_n hw
  unfold surR
  rw [w_mws hw, sure_cg (by omega) hw.2.2.2.1, sap_cg (by omega) hw.2.2.2.1]
  have := sure_eq (Q := rS (sR S)) (w := mwsR (vC s t) (rS (sR S)) (rT (sR S))) hn hd (mws_nn hn (fun k hk => by have := hw.2.2.2.2.2 k hk; omega)) (rT (sR S)) 0 (by omega)
  rw [nI_0] at this
  exact this
/-- truly -/
theorem trR_r {s : Nat → Int32} {t n i : Nat} : trR s t n i = rnk tlB (seg (pr2 (vH s t) (vD s t)) n 0) (pr2 (vH s t) (vD s t) i) := by
  unfold trR rnk
  rw [fold_cnt (p := fun j => trN (vH s t) (vD s t) j i = true) (f := pr2 (vH s t) (vD s t)) (q := fun b => tlB b (pr2 (vH s t) (vD s t) i)) (fun j => Iff.rfl), Nat.zero_add]
theorem ask91 {S : StrM} {s : Nat → Int32} {t : Nat} {i : Int32} (h : RS S s t) : (if in_ (tN (sT S)) i = true then at_ (tG (sT S)) (tN (sT S)) i else -1) = tyF s t (tN (sT S)) i (tN (sT S)) 0 := by
  have hT := h.2.1
  have hN := hT.1
  generalize hn : tN (sT S) = n at *
  have hp : (seg (pr2 (vH s t) (vD s t)) n 0).Perm (seg (pr2 (tG (sT S)) (tC (sT S))) n 0) := by
    have := hT.2.1
    unfold tlT at this
    rwa [hn] at this
  have hs : (seg (pr2 (tG (sT S)) (tC (sT S))) n 0).Pairwise (fun a b => tlB a b = true) := by
    have := hT.2.2.1
    unfold srtT tlT at this
    rwa [hn] at this
  have rk : ∀ k, k < n → ∃ j, j < n ∧ trR s t n k = j ∧ pr2 (vH s t) (vD s t) k = pr2 (tG (sT S)) (tC (sT S)) j := fun k hk => by
    have hm := hp.mem_iff.mp (seg_in (f := pr2 (vH s t) (vD s t)) (d := n) (k := 0) (j := k) (by omega) (by omega))
    obtain ⟨j, _, j2, j3⟩ := (seg_mem n 0).mp hm
    refine ⟨j, by omega, ?_, j3⟩
    rw [trR_r, rank_perm hp, j3]
    exact rank_at tlB_lin _ hs j _ (by rw [seg_get n 0 j (by omega), Nat.zero_add])
  have key : ∀ d k, k + d = n → (∀ k2, k2 < k → ¬ nI (trR s t n k2) = i) → tyF s t n i d k = if in_ n i = true then at_ (tG (sT S)) n i else -1 := by
    intro d
    induction d with
    | zero =>
      intro k hk hno
      unfold tyF
      cases hi : in_ n i
      · rw [if_neg Bool.false_ne_true]
      · exfalso
        obtain ⟨r, hr, rfl⟩ := in_k hi (by omega)
        have hm := hp.mem_iff.mpr (seg_in (f := pr2 (tG (sT S)) (tC (sT S))) (d := n) (k := 0) (j := r) (by omega) (by omega))
        obtain ⟨k2, _, q2, q3⟩ := (seg_mem n 0).mp hm
        refine hno k2 (by omega) ?_
        have : trR s t n k2 = r := by
          rw [trR_r, rank_perm hp, ← q3]
          exact rank_at tlB_lin _ hs r _ (by rw [seg_get n 0 r (by omega), Nat.zero_add])
        rw [this]
    | succ d ih =>
      intro k hk hno
      unfold tyF
      by_cases h1 : nI (trR s t n k) = i
      · rw [if_pos h1]
        obtain ⟨j, j1, j2, j3⟩ := rk k (by omega)
        subst h1
        rw [j2, in_nI (by omega) (by omega), decide_eq_true j1, if_pos rfl, at_nI j1 (by omega)]
        exact congrArg (fun p : P2 => p.1) j3
      · rw [if_neg h1]
        refine ih (k + 1) (by omega) (fun k2 hk2 => ?_)
        by_cases e : k2 = k
        · subst e; exact h1
        · exact hno k2 (by omega)
  exact (key n 0 (by omega) (fun k2 hk2 => by omega)).symm
