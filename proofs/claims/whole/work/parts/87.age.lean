/-! ageing keeps the relation -/
theorem fm_keys {α : Type} {h : α → Option α} {key : α → Int32} (hk : ∀ p q, h p = some q → key q = key p) {L : List α} {z : Int32} (hz : z ∈ (L.filterMap h).map key) : z ∈ L.map key := by
  obtain ⟨q, h1, h2⟩ := List.mem_map.mp hz
  obtain ⟨p, h3, h4⟩ := List.mem_filterMap.mp h1
  exact List.mem_map.mpr ⟨p, h3, (hk p q h4).symm.trans h2⟩
theorem fm_nodup {α : Type} {h : α → Option α} {key : α → Int32} (hk : ∀ p q, h p = some q → key q = key p) : ∀ (L : List α), (L.map key).Nodup → ((L.filterMap h).map key).Nodup := by
  intro L
  induction L with
  | nil => intro _; exact List.Pairwise.nil
  | cons p L ih =>
    intro hn
    obtain ⟨n1, n2⟩ := List.nodup_cons.mp hn
    rw [List.filterMap_cons]
    cases hp : h p with
    | none => exact ih n2
    | some q =>
      refine List.nodup_cons.mpr ⟨fun hm => n1 ?_, ih n2⟩
      rw [← hk p q hp]
      exact fm_keys hk hm
theorem hv3_k : ∀ p q : P3, hv3 p = some q → q.1 = p.1 := by
  intro p q h
  unfold hv3 at h
  split at h
  · cases h; rfl
  · cases h
theorem hv2_k : ∀ p q : P2, hv2 p = some q → q.1 = p.1 := by
  intro p q h
  unfold hv2 at h
  split at h
  · cases h; rfl
  · cases h
theorem seg_dist {g : Nat → Int32} {n : Nat} (h : (seg g n 0).Nodup) : ∀ i j, i < n → j < n → g i = g j → i = j := keys_inj (c := g) (by rw [keys_seg]; exact h)
theorem thF_seg : ∀ (m k : Nat) (g c : Nat → Int32) (n1 : Nat), n1 ≤ k → (seg (pr2 g c) n1 0).Pairwise (fun a b => tlB a b = true) → (seg g n1 0 ++ seg g m k).Nodup → (tlT (thF m k g c n1)).Perm (seg (pr2 g c) n1 0 ++ (seg (pr2 g c) m k).filterMap hv2) ∧ srtT (tlT (thF m k g c n1)) ∧ tN (thF m k g c n1) ≤ n1 + m := by
  intro m
  induction m with
  | zero =>
    intro k g c n1 _ hs _
    unfold thF
    refine ⟨?_, hs, Nat.le_refl _⟩
    show (seg (pr2 g c) n1 0).Perm (seg (pr2 g c) n1 0 ++ [])
    rw [List.append_nil]
  | succ m ih =>
    intro k g c n1 hk hs hn
    have es : seg (pr2 g c) (m + 1) k = pr2 g c k :: seg (pr2 g c) m (k + 1) := rfl
    have eg : seg g (m + 1) k = g k :: seg g m (k + 1) := rfl
    rw [es, List.filterMap_cons]
    rw [eg] at hn
    unfold thF
    by_cases h : 0 < c k / 2
    · have e1 : hv2 (pr2 g c k) = some (g k, c k / 2) := if_pos h
      rw [if_pos h, e1]
      obtain ⟨m1, m2⟩ := muF_seg (x := g k) (y := c k / 2) n1 (upd g n1 (g k), upd c n1 (c k / 2))
      generalize muF (g k) (c k / 2) n1 (upd g n1 (g k), upd c n1 (c k / 2)) = q at *
      have e2 : insE tlB (pr2 (upd g n1 (g k)) (upd c n1 (c k / 2))) (g k, c k / 2) n1 = insE tlB (pr2 g c) (g k, c k / 2) n1 := insE_congr n1 (fun j hj => by
        unfold pr2
        rw [upd_n (by omega), upd_n (by omega)])
      have m1' : seg (pr2 q.1 q.2) (n1 + 1) 0 = insE tlB (pr2 g c) (g k, c k / 2) n1 := m1.trans e2
      have m2' : seg (pr2 q.1 q.2) m (k + 1) = seg (pr2 g c) m (k + 1) := seg_congr _ _ (fun j q1 _ => by
        rw [m2 j (by omega)]
        show (upd g n1 (g k) j, upd c n1 (c k / 2) j) = (g j, c j)
        rw [upd_n (by omega), upd_n (by omega)])
      have k1 : (seg q.1 (n1 + 1) 0).Perm (g k :: seg g n1 0) := by
        have := (insE_perm (B := tlB) (f := pr2 g c) (x := (g k, c k / 2)) n1).map Prod.fst
        rw [← m1', keys_seg, List.map_cons, keys_seg] at this
        exact this
      have k2 : seg q.1 m (k + 1) = seg g m (k + 1) := by
        have := congrArg (fun L => List.map Prod.fst L) m2'
        rwa [keys_seg, keys_seg] at this
      have pm : (g k :: seg g n1 0 ++ seg g m (k + 1)).Perm (seg g n1 0 ++ g k :: seg g m (k + 1)) := by
        rw [List.cons_append]
        exact List.perm_middle.symm
      obtain ⟨i1, i2, i3⟩ := ih (k + 1) q.1 q.2 (n1 + 1) (by omega) (by
        rw [m1']
        refine insE_srt tlB_lin n1 hs (fun j hj e => ?_)
        have eg2 : g k = g j := congrArg (fun p : P2 => p.1) e
        have := (List.nodup_append.mp hn).2.2 (g j) (seg_in (by omega) (by omega)) (g k) List.mem_cons_self
        exact this eg2.symm) (by
        rw [k2]
        exact (pm.trans (List.Perm.refl _)).symm.nodup hn |> fun z => (k1.append_right (seg g m (k + 1))).symm.nodup z)
      refine ⟨?_, i2, by omega⟩
      rw [m1', m2'] at i1
      refine i1.trans ?_
      have := (insE_perm (B := tlB) (f := pr2 g c) (x := (g k, c k / 2)) n1).append_right ((seg (pr2 g c) m (k + 1)).filterMap hv2)
      rw [List.cons_append] at this
      exact this.trans List.perm_middle.symm
    · have e1 : hv2 (pr2 g c k) = none := if_neg h
      rw [if_neg h, e1]
      obtain ⟨i1, i2, i3⟩ := ih (k + 1) g c n1 (by omega) hs (by
        have := List.nodup_append.mp hn
        exact List.nodup_append.mpr ⟨this.1, (List.nodup_cons.mp this.2.1).2, fun a ha b hb => this.2.2 a ha b (List.mem_cons_of_mem _ hb)⟩)
      exact ⟨i1, i2, by omega⟩
theorem atF_seg {t : Nat} : ∀ (d k a : Nat) (s : Nat → Int32), a ≤ k → seg (pr2 (vH (atF t d k a s).2 t) (vD (atF t d k a s).2 t)) (atF t d k a s).1 0 = seg (pr2 (vH s t) (vD s t)) a 0 ++ (seg (pr2 (vH s t) (vD s t)) d k).filterMap hv2 := by
  intro d
  induction d with
  | zero =>
    intro k a s _
    unfold atF
    show seg (pr2 (vH s t) (vD s t)) a 0 = seg (pr2 (vH s t) (vD s t)) a 0 ++ []
    rw [List.append_nil]
  | succ d ih =>
    intro k a s ha
    have es : seg (pr2 (vH s t) (vD s t)) (d + 1) k = pr2 (vH s t) (vD s t) k :: seg (pr2 (vH s t) (vD s t)) d (k + 1) := rfl
    rw [es, List.filterMap_cons]
    unfold atF
    by_cases h : 0 < gt s t (41 + 2 * k) / 2
    · have e1 : hv2 (pr2 (vH s t) (vD s t) k) = some (gt s t (40 + 2 * k), gt s t (41 + 2 * k) / 2) := if_pos h
      rw [if_pos h, e1]
      generalize hs1 : lt_ (lt_ s t (40 + 2 * a) (gt s t (40 + 2 * k))) t (41 + 2 * a) (gt s t (41 + 2 * k) / 2) = s1
      have lo : ∀ j, j ≠ a → pr2 (vH s1 t) (vD s1 t) j = pr2 (vH s t) (vD s t) j := fun j hj => by
        rw [← hs1]
        show (gt _ t (40 + 2 * j), gt _ t (41 + 2 * j)) = (gt s t (40 + 2 * j), gt s t (41 + 2 * j))
        rw [gt_n (by omega), gt_n (by omega), gt_n (by omega), gt_n (by omega)]
      have aa : pr2 (vH s1 t) (vD s1 t) a = (gt s t (40 + 2 * k), gt s t (41 + 2 * k) / 2) := by
        rw [← hs1]
        show (gt _ t (40 + 2 * a), gt _ t (41 + 2 * a)) = _
        rw [gt_n (by omega), gt_s, gt_s]
      rw [ih (k + 1) (a + 1) s1 (by omega), seg_snoc, Nat.zero_add, aa, seg_congr (g := pr2 (vH s t) (vD s t)) a 0 (fun j _ q => lo j (by omega)), seg_congr (g := pr2 (vH s t) (vD s t)) d (k + 1) (fun j q _ => lo j (by omega)), List.append_assoc]
      rfl
    · have e1 : hv2 (pr2 (vH s t) (vD s t) k) = none := if_neg h
      rw [if_neg h, e1]
      exact ih (k + 1) a s (by omega)
theorem clF_o2 {t t2 b : Nat} (h : t2 ≠ t) (hb : b < 160) : ∀ (d q : Nat) (s : Nat → Int32), q + d ≤ 160 → gt (clF t d q s) t2 b = gt s t2 b := by
  intro d
  induction d with
  | zero => intro q s _; rfl
  | succ d ih =>
    intro q s hq
    unfold clF
    rw [ih _ _ (by omega), gt_o h (by omega) hb]
theorem agF_o {t t2 b : Nat} (h : t2 ≠ t) (hb : b < 160) : ∀ (d n : Nat) (s : Nat → Int32), d ≤ n → n ≤ 12 → gt (agF t d n s) t2 b = gt s t2 b := by
  intro d
  induction d with
  | zero => intro n s _ _; rfl
  | succ d ih =>
    intro n s hd hn
    have e : gt (agS s t d) t2 b = gt s t2 b := by
      unfold agS
      rw [gt_o h (by omega) hb, gt_o h (by omega) hb]
    unfold agF
    split
    · rw [ih _ _ (by omega) (by omega), guF_o h hb hn (by omega), e]
    · rw [ih _ _ (by omega) hn, e]
theorem atF_o {t t2 b : Nat} (h : t2 ≠ t) (hb : b < 160) : ∀ (d k a : Nat) (s : Nat → Int32), a + d ≤ 60 → gt (atF t d k a s).2 t2 b = gt s t2 b := by
  intro d
  induction d with
  | zero => intro k a s _; rfl
  | succ d ih =>
    intro k a s ha
    unfold atF
    split
    · rw [ih _ _ _ (by omega), gt_o h (by omega) hb, gt_o h (by omega) hb]
    · rw [ih _ _ _ (by omega)]
theorem gvF_0 {t : Nat} : ∀ (d q : Nat) (s : Nat → Int32), gvF t d q s 0 = s 0 := by
  intro d
  induction d with
  | zero => intro q s; rfl
  | succ d ih =>
    intro q s
    unfold gvF
    rw [ih, lay_0]
theorem guF_00 {s : Nat → Int32} {t n k : Nat} : guF s t n k 0 = s 0 := by
  unfold guF
  rw [lay_0, clF_0, gvF_0]
theorem agF_00 {t : Nat} : ∀ (d n : Nat) (s : Nat → Int32), agF t d n s 0 = s 0 := by
  intro d
  induction d with
  | zero => intro n s; rfl
  | succ d ih =>
    intro n s
    unfold agF
    split
    · rw [ih, guF_00]
      unfold agS
      rw [lay_0, lay_0]
    · rw [ih]
      unfold agS
      rw [lay_0, lay_0]
theorem atF_00 {t : Nat} : ∀ (d k a : Nat) (s : Nat → Int32), (atF t d k a s).2 0 = s 0 := by
  intro d
  induction d with
  | zero => intro k a s; rfl
  | succ d ih =>
    intro k a s
    unfold atF
    split
    · rw [ih, lay_0, lay_0]
    · rw [ih]
theorem ageM_o {s : Nat → Int32} {t t2 n N b : Nat} (h : t2 ≠ t) (hb : b < 160) (hn : n ≤ 12) (hN : N ≤ 60) : gt (ageM s t n N) t2 b = gt s t2 b := by
  have le := atF_le (t := t) N 0 0 (agF t n n (lt_ s t 0 (gt s t 0 / 2)))
  unfold ageM
  rw [gt_o h (by omega) hb, clF_o2 h hb _ _ _ (by omega), atF_o h hb _ _ _ _ (by omega), agF_o h hb _ _ _ (Nat.le_refl _) hn, gt_o h (by omega) hb]
theorem ageM_00 {s : Nat → Int32} {t n N : Nat} : ageM s t n N 0 = s 0 := by
  unfold ageM
  rw [lay_0, clF_0, atF_00, agF_00, lay_0]
theorem age_RS {S : StrM} {s : Nat → Int32} {t : Nat} (r : RS S s t) : RS (halS S) (ageM s t (rT (sR S)) (tN (sT S))) t ∧ rS (sR (halS S)) = rS (sR S) := by
  obtain ⟨hw, hT, r3, r4, r5, r6, r7, r8, r9⟩ := r
  have n12 := RW_n hw
  have ht0 := half r8
  obtain ⟨w1, w2, w3, w4, w5, w6⟩ := hw
  obtain ⟨t1, t2, t3, t4⟩ := hT
  -- the class's row
  obtain ⟨c1, c2⟩ := halF_seg (Q := rS (sR S)) (rT (sR S)) 0 (rG (sR S)) (rC (sR S)) (rE (sR S)) 0 (Nat.le_refl _)
  have ec : (sR (halS S)) = halF (rS (sR S)) (rT (sR S)) 0 (rG (sR S)) (rC (sR S)) (rE (sR S)) 0 := rfl
  rw [← ec] at c1 c2
  have c2' : seg (pr3 (rG (sR (halS S))) (rC (sR (halS S))) (rE (sR (halS S)))) (rT (sR (halS S))) 0 = (seg (v3 s t) (rT (sR S)) 0).filterMap hv3 := by
    refine c2.trans ?_
    show [] ++ _ = _
    rw [List.nil_append]
    congr 1
    exact seg_congr _ _ (fun j _ q => by
      obtain ⟨x1, x2, x3⟩ := w4 j (by omega)
      show (rG (sR S) j, rC (sR S) j, rE (sR S) j) = (vG s t j, vC s t j, vE s t j)
      rw [x1, x2, x3])
  -- the reference's row
  generalize hs0 : lt_ s t 0 (gt s t 0 / 2) = s0
  have hi0 : ∀ b, b ≠ 0 → gt s0 t b = gt s t b := fun b hb => by rw [← hs0, gt_n hb]
  have v30 : ∀ j, v3 s0 t j = v3 s t j := fun j => by
    show (gt s0 t _, gt s0 t _, gt s0 t _) = (gt s t _, gt s t _, gt s t _)
    rw [hi0 _ (by omega), hi0 _ (by omega), hi0 _ (by omega)]
  obtain ⟨n', a1, a2, a3⟩ := agF_seg (rT (sR S)) (rT (sR S)) s0 (Nat.le_refl _) n12 ((hi0 1 (by omega)).trans r3) (fun k hk => by
    have e2 : vC s0 t k = vC s t k := congrArg (fun p : P3 => p.2.1) (v30 k)
    have e3 : vE s0 t k = vE s t k := congrArg (fun p : P3 => p.2.2) (v30 k)
    rw [e2, e3]
    have := w6 k hk
    omega)
  rw [Nat.sub_self] at a3
  have a3' : seg (v3 (agF t (rT (sR S)) (rT (sR S)) s0) t) n' 0 = (seg (v3 s t) (rT (sR S)) 0).filterMap hv3 := by
    refine a3.trans ?_
    show _ ++ [] = _
    rw [List.append_nil]
    congr 1
    exact seg_congr _ _ (fun j _ _ => v30 j)
  have hi1 : ∀ b, 39 ≤ b → gt (agF t (rT (sR S)) (rT (sR S)) s0) t b = gt s t b := fun b hb => by rw [agF_n hb _ _ _ (Nat.le_refl _) n12, hi0 b (by omega)]
  have g0 : gt (ageM s t (rT (sR S)) (tN (sT S))) t 0 = gt s t 0 / 2 := ageM_0
  have g2 : gt (ageM s t (rT (sR S)) (tN (sT S))) t 2 = gt s t 2 := by
    unfold ageM
    rw [gt_n (by omega), clF_n _ _ _ (by omega), atF_n (by omega), agF_0 (by omega) (by omega) _ _ _ (Nat.le_refl _), gt_n (by omega)]
  have hA : ageM s t (rT (sR S)) (tN (sT S)) = lt_ (clF t (120 - 2 * (atF t (tN (sT S)) 0 0 (agF t (rT (sR S)) (rT (sR S)) s0)).1) (40 + 2 * (atF t (tN (sT S)) 0 0 (agF t (rT (sR S)) (rT (sR S)) s0)).1) (atF t (tN (sT S)) 0 0 (agF t (rT (sR S)) (rT (sR S)) s0)).2) t 39 (nI (atF t (tN (sT S)) 0 0 (agF t (rT (sR S)) (rT (sR S)) s0)).1) := by
    rw [← hs0]
    rfl
  have h00 : ageM s t (rT (sR S)) (tN (sT S)) 0 = s 0 := ageM_00
  generalize hs1 : agF t (rT (sR S)) (rT (sR S)) s0 = s1 at *
  have bseg := atF_seg (t := t) (tN (sT S)) 0 0 s1 (Nat.le_refl _)
  have ble := atF_le (t := t) (tN (sT S)) 0 0 s1
  have blo : ∀ b, b < 40 → gt (atF t (tN (sT S)) 0 0 s1).2 t b = gt s1 t b := fun b hb => atF_n hb _ _ _ _
  generalize atF t (tN (sT S)) 0 0 s1 = q at *
  obtain ⟨a', s2⟩ := q
  have ble' : a' ≤ 0 + tN (sT S) := ble
  generalize hs5 : ageM s t (rT (sR S)) (tN (sT S)) = s5 at *
  have lo5 : ∀ b, b < 39 → gt s5 t b = gt s1 t b := fun b hb => by
    rw [hA, gt_n (by omega), clF_n _ _ _ (by omega)]
    exact blo b (by omega)
  have t5 : gt s5 t 39 = nI a' := by rw [hA, gt_s]
  have tab5 : ∀ j, j < a' → pr2 (vH s5 t) (vD s5 t) j = pr2 (vH s2 t) (vD s2 t) j := fun j hj => by
    show (gt s5 t (40 + 2 * j), gt s5 t (41 + 2 * j)) = (gt s2 t (40 + 2 * j), gt s2 t (41 + 2 * j))
    rw [hA, gt_n (by omega), gt_n (by omega), clF_n _ _ _ (by omega), clF_n _ _ _ (by omega)]
  have e1 : seg (pr2 (vH s1 t) (vD s1 t)) (tN (sT S)) 0 = seg (pr2 (vH s t) (vD s t)) (tN (sT S)) 0 := seg_congr _ _ (fun j _ _ => by
    show (gt s1 t (40 + 2 * j), gt s1 t (41 + 2 * j)) = (gt s t (40 + 2 * j), gt s t (41 + 2 * j))
    rw [hi1 _ (by omega), hi1 _ (by omega)])
  have tab : seg (pr2 (vH s5 t) (vD s5 t)) a' 0 = (seg (pr2 (vH s t) (vD s t)) (tN (sT S)) 0).filterMap hv2 := by
    rw [seg_congr (g := pr2 (vH s2 t) (vD s2 t)) a' 0 (fun j _ q => tab5 j (by omega))]
    refine bseg.trans ?_
    show [] ++ _ = _
    rw [List.nil_append, e1]
  -- the class's table
  obtain ⟨d1, d2, d3⟩ := thF_seg (tN (sT S)) 0 (tG (sT S)) (tC (sT S)) 0 (Nat.le_refl _) List.Pairwise.nil (by
    show ([] ++ seg (tG (sT S)) (tN (sT S)) 0).Nodup
    rw [List.nil_append]
    have := t4.1
    unfold tlT at this
    rwa [keys_seg] at this)
  have et : sT (halS S) = thF (tN (sT S)) 0 (tG (sT S)) (tC (sT S)) 0 := rfl
  rw [← et] at d1 d2 d3
  have d1' : (tlT (sT (halS S))).Perm ((tlT (sT S)).filterMap hv2) := by
    refine d1.trans ?_
    show ([] ++ _ : List P2).Perm _
    rw [List.nil_append]
    exact List.Perm.refl _
  have dp : (seg (pr2 (vH s5 t) (vD s5 t)) a' 0).Perm (tlT (sT (halS S))) := by
    rw [tab]
    exact (t2.filterMap hv2).trans d1'.symm
  have ea : a' = tN (sT (halS S)) := by
    have := dp.length_eq
    unfold tlT at this
    rwa [seg_len, seg_len] at this
  -- rows are the same
  have hrow := seg_eq (c2'.trans a3'.symm)
  obtain ⟨en, hel⟩ := hrow
  have h5 : ∀ k, k < rT (sR (halS S)) → v3 s5 t k = pr3 (rG (sR (halS S))) (rC (sR (halS S))) (rE (sR (halS S))) k := fun k hk => by
    rw [hel k hk]
    have : n' ≤ 12 := by omega
    show (gt s5 t (3 + 3 * k), gt s5 t (4 + 3 * k), gt s5 t (5 + 3 * k)) = (gt s1 t (3 + 3 * k), gt s1 t (4 + 3 * k), gt s1 t (5 + 3 * k))
    rw [lo5 _ (by omega), lo5 _ (by omega), lo5 _ (by omega)]
  have hfm : seg (v3 s5 t) (rT (sR (halS S))) 0 = (seg (v3 s t) (rT (sR S)) 0).filterMap hv3 := by
    rw [← c2']
    exact seg_congr _ _ (fun j _ q => h5 j (by omega))
  refine ⟨⟨⟨by omega, by omega, by omega, fun k hk => ?_, ?_, fun k hk => ?_⟩, ⟨by omega, ?_, d2, ?_⟩, ?_, ?_, ?_, ?_, ?_, ?_, ?_⟩, c1⟩
  · have e := h5 k hk
    exact ⟨(congrArg (fun p : P3 => p.1) e).symm, (congrArg (fun p : P3 => p.2.1) e).symm, (congrArg (fun p : P3 => p.2.2) e).symm⟩
  · refine seg_dist ?_
    have h1 : (seg (v3 s5 t) (rT (sR (halS S))) 0).map (fun p => p.1) = seg (vG s5 t) (rT (sR (halS S))) 0 := seg_map _ _ _
    have h2 : (seg (v3 s t) (rT (sR S)) 0).map (fun p => p.1) = seg (vG s t) (rT (sR S)) 0 := seg_map _ _ _
    rw [← h1, hfm]
    refine fm_nodup (key := fun p : P3 => p.1) hv3_k _ ?_
    rw [h2]
    exact seg_nodup _ _ (fun i j _ q2 _ q4 => w5 i j (by omega) (by omega))
  · have hm : v3 s5 t k ∈ (seg (v3 s t) (rT (sR S)) 0).filterMap hv3 := by
      rw [← hfm]
      exact seg_in (by omega) (by omega)
    obtain ⟨p, p1, p2⟩ := List.mem_filterMap.mp hm
    obtain ⟨j, _, j2, j3⟩ := (seg_mem _ _).mp p1
    have b := w6 j (by omega)
    have bc : 0 ≤ (vC s t j).toInt := by omega
    unfold hv3 at p2
    by_cases hp : 0 < p.2.1 / 2
    · rw [if_pos hp] at p2
      have e := Option.some.inj p2
      have ep : p.2.1 = vC s t j := congrArg (fun p : P3 => p.2.1) j3
      have ee : p.2.2 = vE s t j := congrArg (fun p : P3 => p.2.2) j3
      have x1 : vC s5 t k = vC s t j / 2 := by rw [← ep]; exact (congrArg (fun p : P3 => p.2.1) e).symm
      have x2 : vE s5 t k = vE s t j / 2 := by rw [← ee]; exact (congrArg (fun p : P3 => p.2.2) e).symm
      rw [ep, half_pos bc] at hp
      rw [x1, x2, g0, half bc, half b.1, ht0]
      omega
    · rw [if_neg hp] at p2
      cases p2
  · rw [← ea]
    exact dp
  · refine ⟨(d1'.map Prod.fst).symm.nodup (fm_nodup (key := Prod.fst) hv2_k _ t4.1), fun p hp => ?_⟩
    obtain ⟨q, q1, q2⟩ := List.mem_filterMap.mp (d1'.mem_iff.mp hp)
    have b := t4.2 q q1
    have bq : 0 ≤ q.2.toInt := by omega
    unfold hv2 at q2
    by_cases hq : 0 < q.2 / 2
    · rw [if_pos hq] at q2
      have e := Option.some.inj q2
      have x1 : p.2 = q.2 / 2 := (congrArg (fun p : P2 => p.2) e).symm
      rw [half_pos bq] at hq
      rw [x1, g0, half bq, ht0]
      omega
    · rw [if_neg hq] at q2
      cases q2
  · rw [lo5 1 (by omega), a2, en]
  · rw [t5, ea]
  · rw [h00, r5, c1]
  · rw [g0, ← r6]
    rfl
  · rw [g2, ← r7]
    rfl
  · rw [g0, ht0]
    omega
  · rw [g0, ht0]
    omega
theorem RA_age {A : StaM} {s : Nat → Int32} {t : Nat} (h : RA A s) (ht : t < 2) : RA (stSet A (nI t) (halS (stOf A (nI t)))) (ageM s t (nA A t) (NA A t)) := by
  have r := h.1 t ht
  obtain ⟨c1, c2⟩ := age_RS r
  have n12 := RW_n r.1
  exact RA_set h ht c1 c2 (fun t2 ht2 hne b hb => ageM_o hne hb n12 r.2.1.1) ageM_00
