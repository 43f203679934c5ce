/-! frames of the relation; halving -/
theorem RS_fr {S : StrM} {s s2 : Nat → Int32} {t : Nat} (r : RS S s t) (hb : ∀ b, b < 160 → gt s2 t b = gt s t b) (h0 : s2 0 = s 0) : RS S s2 t := by
  obtain ⟨hw, hT, r3, r4, r5, r6, r7, r8, r9⟩ := r
  have n12 := RW_n hw
  have h00 := hb 0 (by omega)
  refine ⟨RW_cg hw (fun k hk => ⟨hb _ (by omega), hb _ (by omega), hb _ (by omega)⟩) h00, ?_, (hb 1 (by omega)).trans r3, (hb 39 (by omega)).trans r4, h0.trans r5, r6.trans h00.symm, r7.trans (hb 2 (by omega)).symm, ?_, ?_⟩
  · rw [h00]
    obtain ⟨t1, t2, t3, t4⟩ := hT
    refine ⟨t1, ?_, t3, t4⟩
    have e : seg (pr2 (vH s2 t) (vD s2 t)) (tN (sT S)) 0 = seg (pr2 (vH s t) (vD s t)) (tN (sT S)) 0 := seg_congr _ _ (fun j _ q => by
      show (gt s2 t (40 + 2 * j), gt s2 t (41 + 2 * j)) = (gt s t (40 + 2 * j), gt s t (41 + 2 * j))
      rw [hb _ (by omega), hb _ (by omega)])
    rw [e]
    exact t2
  · rw [h00]; exact r8
  · rw [h00]; exact r9
theorem stSet_z {A : StaM} {S : StrM} : stSet A (nI 0) S = (S, aO A) := if_pos nI_0
theorem stSet_o {A : StaM} {S : StrM} : stSet A (nI 1) S = (aZ A, S) := if_neg (by decide +kernel)
theorem RA_set {A : StaM} {s s2 : Nat → Int32} {t : Nat} {S : StrM} (h : RA A s) (ht : t < 2) (r : RS S s2 t) (hq : rS (sR S) = rS (sR (stOf A (nI t)))) (ho : ∀ t2, t2 < 2 → t2 ≠ t → ∀ b, b < 160 → gt s2 t2 b = gt s t2 b) (h0 : s2 0 = s 0) : RA (stSet A (nI t) S) s2 := by
  have : t = 0 ∨ t = 1 := by omega
  rcases this with rfl | rfl
  · rw [stSet_z]
    rw [st_0] at hq
    have ro := RA_o h
    exact RA_mk (A := (S, aO A)) r (RS_fr ro (ho 1 (by omega) (by omega)) h0) (h.2.trans hq.symm)
  · rw [stSet_o]
    rw [st_1] at hq
    have rz := RA_z h
    exact RA_mk (A := (aZ A, S)) (RS_fr rz (ho 0 (by omega) (by omega)) h0) r (hq.trans h.2)
theorem cmQ_o {s : Nat → Int32} {t t2 k b : Nat} {y : Int32} (h : t2 ≠ t) (hk : k < 12) (hb : b < 160) : gt (cmQ s t k y) t2 b = gt s t2 b := by
  unfold cmQ
  rw [gt_o h (by omega) hb, gt_o h (by omega) hb]
theorem cmP_o {s : Nat → Int32} {t t2 n k b : Nat} {x : Int32} (h : t2 ≠ t) (hk : k < 12) (hb : b < 160) : gt (cmP s t n k x) t2 b = gt s t2 b := by
  unfold cmP
  split
  · rw [gt_o h (by omega) hb, gt_o h (by omega) hb, gt_o h (by omega) hb, gt_o h (by omega) hb]
  · split
    · rfl
    · rw [gt_o h (by omega) hb, gt_o h (by omega) hb, gt_o h (by omega) hb]
theorem cmQP_0 {s : Nat → Int32} {t n k : Nat} {x y : Int32} : cmQ (cmP s t n k x) t k y 0 = s 0 := by
  unfold cmQ cmP
  rw [lay_0, lay_0]
  split
  · rw [lay_0, lay_0, lay_0, lay_0]
  · split
    · rfl
    · rw [lay_0, lay_0, lay_0]
theorem RA_come {A : StaM} {s : Nat → Int32} {t : Nat} {x y : Int32} (h : RA A s) (ht : t < 2) (he : errC (stOf A (nI t)) x y = 0) : RA (stSet A (nI t) (comS (stOf A (nI t)) x y)) (cmF s t (nA A t) (NA A t) (QA A) x y) := by
  have r := h.1 t ht
  obtain ⟨c1, c2⟩ := come_RS r he
  rw [RA_q h ht] at c1
  have hw := r.1
  have k12 : sefN (vR s t (nA A t) (QA A)) x < 12 := by
    have := sefN_lt (y := x) (RA_rv h t ht)
    have := (RA_rv h t ht).2.2.2.1
    omega
  have i39 : ∀ b, 39 ≤ b → gt (cmQ (cmP s t (nA A t) (sefN (vR s t (nA A t) (QA A)) x) x) t (sefN (vR s t (nA A t) (QA A)) x) y) t b = gt s t b := fun b hb => by rw [cmQ_n hb k12, cmP_n hb k12]
  have eH : vH (cmQ (cmP s t (nA A t) (sefN (vR s t (nA A t) (QA A)) x) x) t (sefN (vR s t (nA A t) (QA A)) x) y) t = vH s t := funext fun j => i39 _ (by omega)
  have hf : seatO (vH s t) (NA A t) x = none → NA A t < 60 := by
    intro q
    have e := t_seatO (x := x) r.2.1
    exact (errC_0 he r.2.1.1).2 (e.mpr q)
  refine RA_set h ht c1 c2 (fun t2 ht2 hne b hb => ?_) ?_
  · unfold cmF
    rw [ctF_o (N := NA A t) hne r.2.1.1 (by rw [eH]; exact hf) hb, cmQ_o hne k12 hb, cmP_o hne k12 hb]
  · unfold cmF
    rw [ctF_0, cmQP_0]
/-! lists of halves -/
theorem half {x : Int32} (h : 0 ≤ x.toInt) : (x / 2).toInt = x.toInt / 2 := by
  have hz : (0 : Int32).toInt = 0 := by decide +kernel
  have h0 : ¬ x < 0 := by
    intro q
    have := Int32.lt_iff_toInt_lt.mp q
    omega
  obtain ⟨e1, e2⟩ := nn_clamp h0
  have e3 := nI_toInt e2
  rw [e1] at e3
  have : x / 2 = nI (x.toNatClampNeg / 2) := by
    have := pk_div (a := x.toNatClampNeg) (d := 2) e2 (by omega) (by omega)
    rw [← this]
    show x / 2 = nI x.toNatClampNeg / nI 2
    rw [e1, ← L2]
  rw [this, nI_toInt (by omega), e3]
  omega
theorem half_pos {x : Int32} (h : 0 ≤ x.toInt) : (0 < x / 2) = (2 ≤ x.toInt) := by
  have hz : (0 : Int32).toInt = 0 := by decide +kernel
  rw [Int32.lt_iff_toInt_lt, half h, hz]
  exact propext ⟨fun _ => by omega, fun _ => by omega⟩
theorem half_z {x : Int32} (h : 0 ≤ x.toInt) : (x / 2 = 0) = ¬ 0 < x / 2 := by
  have hz : (0 : Int32).toInt = 0 := by decide +kernel
  rw [half_pos h]
  refine propext ⟨fun q => ?_, fun q => Int32.toInt_inj.mp ?_⟩
  · have := congrArg Int32.toInt q
    rw [half h, hz] at this
    omega
  · rw [half h, hz]
    omega
def hv3 (p : P3) : Option P3 := if 0 < p.2.1 / 2 then some (p.1, p.2.1 / 2, p.2.2 / 2) else none
def hv2 (p : P2) : Option P2 := if 0 < p.2 / 2 then some (p.1, p.2 / 2) else none
theorem seg_eq {α : Type} {f g : Nat → α} {n m : Nat} (h : seg f n 0 = seg g m 0) : n = m ∧ ∀ k, k < n → f k = g k := by
  have e : n = m := by
    have := congrArg List.length h
    rwa [seg_len, seg_len] at this
  subst e
  refine ⟨rfl, fun k hk => ?_⟩
  have h1 := seg_get (f := f) n 0 k hk
  have h2 := seg_get (f := g) n 0 k hk
  rw [h, h2, Nat.zero_add] at h1
  exact (Option.some.inj h1).symm
theorem halF_seg {Q : Nat} : ∀ (n k : Nat) (g c e : Nat → Int32) (t1 : Nat), t1 ≤ k → rS (halF Q n k g c e t1) = Q ∧ seg (pr3 (rG (halF Q n k g c e t1)) (rC (halF Q n k g c e t1)) (rE (halF Q n k g c e t1))) (rT (halF Q n k g c e t1)) 0 = seg (pr3 g c e) t1 0 ++ (seg (pr3 g c e) n k).filterMap hv3 := by
  intro n
  induction n with
  | zero =>
    intro k g c e t1 _
    unfold halF
    refine ⟨rfl, ?_⟩
    show seg (pr3 g c e) t1 0 = seg (pr3 g c e) t1 0 ++ []
    rw [List.append_nil]
  | succ n ih =>
    intro k g c e t1 hk
    have es : seg (pr3 g c e) (n + 1) k = pr3 g c e k :: seg (pr3 g c e) n (k + 1) := rfl
    rw [es, List.filterMap_cons]
    unfold halF
    by_cases h : 0 < c k / 2
    · have e1 : hv3 (pr3 g c e k) = some (g k, c k / 2, e k / 2) := if_pos h
      rw [if_pos h, e1]
      obtain ⟨i1, i2⟩ := ih (k + 1) (upd g t1 (g k)) (upd c t1 (c k / 2)) (upd e t1 (e k / 2)) (t1 + 1) (by omega)
      refine ⟨i1, ?_⟩
      rw [i2, seg_snoc, Nat.zero_add]
      have s1 : seg (pr3 (upd g t1 (g k)) (upd c t1 (c k / 2)) (upd e t1 (e k / 2))) t1 0 = seg (pr3 g c e) t1 0 := seg_congr _ _ (fun j _ q => by
        unfold pr3
        rw [upd_n (by omega), upd_n (by omega), upd_n (by omega)])
      have s2 : seg (pr3 (upd g t1 (g k)) (upd c t1 (c k / 2)) (upd e t1 (e k / 2))) n (k + 1) = seg (pr3 g c e) n (k + 1) := seg_congr _ _ (fun j q _ => by
        unfold pr3
        rw [upd_n (by omega), upd_n (by omega), upd_n (by omega)])
      have s3 : pr3 (upd g t1 (g k)) (upd c t1 (c k / 2)) (upd e t1 (e k / 2)) t1 = (g k, c k / 2, e k / 2) := by
        unfold pr3
        rw [upd_at, upd_at, upd_at]
      rw [s1, s2, s3, List.append_assoc]
      rfl
    · have e1 : hv3 (pr3 g c e k) = none := if_neg h
      rw [if_neg h, e1]
      exact ih (k + 1) g c e t1 (by omega)
theorem gvF_v {t : Nat} : ∀ (d q : Nat) (s : Nat → Int32) (i : Nat), gt (gvF t d q s) t (3 + i) = if q ≤ i ∧ i < q + d then gt s t (6 + i) else gt s t (3 + i) := by
  intro d
  induction d with
  | zero =>
    intro q s i
    rw [if_neg (by omega)]
    rfl
  | succ d ih =>
    intro q s i
    unfold gvF
    rw [ih]
    by_cases h : q ≤ i ∧ i < q + (d + 1)
    · rw [if_pos h]
      by_cases h2 : i = q
      · subst h2
        rw [if_neg (by omega), gt_s]
      · rw [if_pos (by omega), gt_n (by omega)]
    · rw [if_neg h, if_neg (by omega), gt_n (by omega)]
theorem guF_v {s : Nat → Int32} {t n k j o : Nat} (ho : o < 3) (hj : j < n - 1) : gt (guF s t n k) t (3 + o + 3 * j) = if j < k then gt s t (3 + o + 3 * j) else gt s t (3 + o + 3 * (j + 1)) := by
  unfold guF
  rw [gt_n (by omega), clF_n _ _ _ (by omega), show 3 + o + 3 * j = 3 + (o + 3 * j) by omega, gvF_v]
  by_cases h : j < k
  · rw [if_neg (by omega), if_pos h]
  · rw [if_pos (by omega), if_neg h, show 6 + (o + 3 * j) = 3 + o + 3 * (j + 1) by omega]
def v3 (s : Nat → Int32) (t : Nat) : Nat → P3 := pr3 (vG s t) (vC s t) (vE s t)
theorem guF_v3 {s : Nat → Int32} {t n k j : Nat} (hj : j < n - 1) : v3 (guF s t n k) t j = if j < k then v3 s t j else v3 s t (j + 1) := by
  have h0 := guF_v (s := s) (t := t) (n := n) (k := k) (j := j) (o := 0) (by omega) hj
  have h1 := guF_v (s := s) (t := t) (n := n) (k := k) (j := j) (o := 1) (by omega) hj
  have h2 := guF_v (s := s) (t := t) (n := n) (k := k) (j := j) (o := 2) (by omega) hj
  show (gt _ t (3 + 3 * j), gt _ t (4 + 3 * j), gt _ t (5 + 3 * j)) = _
  by_cases h : j < k
  · rw [if_pos h] at h0 h1 h2 ⊢
    show _ = (gt s t (3 + 3 * j), gt s t (4 + 3 * j), gt s t (5 + 3 * j))
    rw [← h0, ← h1, ← h2]
  · rw [if_neg h] at h0 h1 h2 ⊢
    show _ = (gt s t (3 + 3 * (j + 1)), gt s t (4 + 3 * (j + 1)), gt s t (5 + 3 * (j + 1)))
    rw [← h0, ← h1, ← h2]
theorem agS_v3 {s : Nat → Int32} {t k j : Nat} : v3 (agS s t k) t j = if j = k then (vG s t k, vC s t k / 2, if vC s t k / 2 < vE s t k / 2 then vC s t k / 2 else vE s t k / 2) else v3 s t j := by
  unfold agS
  show (gt _ t (3 + 3 * j), gt _ t (4 + 3 * j), gt _ t (5 + 3 * j)) = _
  rw [gt_n (show 3 + 3 * j ≠ 5 + 3 * k by omega), gt_n (show 3 + 3 * j ≠ 4 + 3 * k by omega), gt_n (show 4 + 3 * j ≠ 5 + 3 * k by omega), gt_if, gt_if]
  by_cases h : j = k
  · subst h
    rw [if_pos rfl, if_pos rfl, if_pos rfl]
    rfl
  · rw [if_neg (by omega), if_neg (by omega), if_neg h, gt_n (by omega)]
    rfl
theorem agF_seg {t : Nat} : ∀ (d n : Nat) (s : Nat → Int32), d ≤ n → n ≤ 12 → gt s t 1 = nI n → (∀ k, k < d → 0 ≤ (vE s t k).toInt ∧ (vE s t k).toInt ≤ (vC s t k).toInt) → ∃ n', n' ≤ n ∧ gt (agF t d n s) t 1 = nI n' ∧ seg (v3 (agF t d n s) t) n' 0 = (seg (v3 s t) d 0).filterMap hv3 ++ seg (v3 s t) (n - d) d := by
  intro d
  induction d with
  | zero =>
    intro n s _ _ h1 _
    exact ⟨n, Nat.le_refl _, h1, rfl⟩
  | succ d ih =>
    intro n s hd hn h1 hb
    obtain ⟨b1, b2⟩ := hb d (by omega)
    have bc : 0 ≤ (vC s t d).toInt := by omega
    have ee : (if vC s t d / 2 < vE s t d / 2 then vC s t d / 2 else vE s t d / 2) = vE s t d / 2 := if_neg (fun q => by
      have := Int32.lt_iff_toInt_lt.mp q
      rw [half bc, half b1] at this
      omega)
    have u1 : gt (agS s t d) t 1 = nI n := by rw [agS_n2 (by omega) (by omega), h1]
    have ecd : gt s t (4 + 3 * d) = vC s t d := rfl
    have lo : ∀ j, j < d → v3 (agS s t d) t j = v3 s t j := fun j hj => by rw [agS_v3, if_neg (by omega)]
    rw [seg_snoc, Nat.zero_add, List.filterMap_append]
    unfold agF
    rw [ecd]
    by_cases h : 0 < vC s t d / 2
    · have nz : ¬ vC s t d / 2 = 0 := by rw [half_z bc]; exact fun q => q h
      rw [if_neg nz]
      obtain ⟨n', i1, i2, i3⟩ := ih n (agS s t d) (by omega) hn u1 (fun k hk => by
        have e := lo k hk
        have e1 : vC (agS s t d) t k = vC s t k := congrArg (fun p : P3 => p.2.1) e
        have e2 : vE (agS s t d) t k = vE s t k := congrArg (fun p : P3 => p.2.2) e
        rw [e1, e2]
        exact hb k (by omega))
      refine ⟨n', i1, i2, ?_⟩
      rw [i3, seg_congr d 0 (fun j _ q => lo j (by omega))]
      rw [show n - d = (n - (d + 1)) + 1 by omega]
      have e1 : hv3 (v3 s t d) = some (vG s t d, vC s t d / 2, vE s t d / 2) := if_pos h
      show _ ++ (v3 (agS s t d) t d :: seg (v3 (agS s t d) t) (n - (d + 1)) (d + 1)) = _
      rw [agS_v3, if_pos rfl, ee, seg_congr (g := v3 s t) (n - (d + 1)) (d + 1) (fun j q _ => by rw [agS_v3, if_neg (by omega)])]
      rw [List.append_assoc]
      congr 1
      rw [List.filterMap_cons, e1]
      rfl
    · have nz : vC s t d / 2 = 0 := by rw [half_z bc]; exact h
      rw [if_pos nz]
      have glo : ∀ j, j < d → v3 (guF (agS s t d) t n d) t j = v3 s t j := fun j hj => by rw [guF_v3 (by omega), if_pos hj, lo j hj]
      obtain ⟨n', i1, i2, i3⟩ := ih (n - 1) (guF (agS s t d) t n d) (by omega) (by omega) guF_1 (fun k hk => by
        have e := glo k hk
        have e1 : vC (guF (agS s t d) t n d) t k = vC s t k := congrArg (fun p : P3 => p.2.1) e
        have e2 : vE (guF (agS s t d) t n d) t k = vE s t k := congrArg (fun p : P3 => p.2.2) e
        rw [e1, e2]
        exact hb k (by omega))
      refine ⟨n', by omega, i2, ?_⟩
      have e1 : hv3 (v3 s t d) = none := if_neg h
      rw [i3, seg_congr d 0 (fun j _ q => glo j (by omega)), List.append_assoc]
      congr 1
      rw [List.filterMap_cons, e1]
      show seg (v3 (guF (agS s t d) t n d) t) (n - 1 - d) d = [] ++ _
      rw [List.nil_append, show n - 1 - d = n - (d + 1) by omega]
      exact seg_shift _ _ (fun j q1 q2 => by rw [guF_v3 (by omega), if_neg (by omega), agS_v3, if_neg (by omega)])
