/-! joining keeps the relation -/
theorem plI_v {j : Nat → Int32} {r k i : Nat} {s : Nat → Int32} : v3 (plI j r k 3 0 s) 0 i = if i = r then pr3 (jG j) (jC j) (jE j) k else v3 s 0 i := by
  have e : plI j r k 3 0 s = lt_ (lt_ (lt_ s 0 (3 + 3 * r) (j (3 * k))) 0 (4 + 3 * r) (j (3 * k + 1))) 0 (5 + 3 * r) (j (3 * k + 2)) := by
    show lt_ (lt_ (lt_ s 0 (3 + 3 * r + 0) (j (3 * k + 0))) 0 (3 + 3 * r + (0 + 1)) (j (3 * k + (0 + 1)))) 0 (3 + 3 * r + (0 + 1 + 1)) (j (3 * k + (0 + 1 + 1))) = _
    rw [show 3 + 3 * r + (0 + 1) = 4 + 3 * r by omega, show 3 + 3 * r + (0 + 1 + 1) = 5 + 3 * r by omega]
    rfl
  rw [e]
  show (gt _ 0 (3 + 3 * i), gt _ 0 (4 + 3 * i), gt _ 0 (5 + 3 * i)) = _
  by_cases h : i = r
  · subst h
    rw [gt_n (show 3 + 3 * i ≠ 5 + 3 * i by omega), gt_n (show 3 + 3 * i ≠ 4 + 3 * i by omega), gt_s, gt_n (show 4 + 3 * i ≠ 5 + 3 * i by omega), gt_s, gt_s, if_pos rfl]
    rfl
  · rw [gt_n (by omega), gt_n (by omega), gt_n (by omega), gt_n (by omega), gt_n (by omega), gt_n (by omega), gt_n (by omega), gt_n (by omega), gt_n (by omega), if_neg h]
    rfl
theorem plF_v {f : Nat → P3} {j : Nat → Int32} {c Q : Nat} (hf : ∀ k, k < c → pr3 (jG j) (jC j) (jE j) k = f (ahN j c k)) : ∀ (d k : Nat) (s : Nat → Int32), k + d = c → (∀ i, i < Q → (∃ k2, k2 < k ∧ ahN j c k2 = i) → v3 s 0 i = f i) → ∀ i, i < Q → (∃ k2, k2 < c ∧ ahN j c k2 = i) → v3 (plF j c Q d k s) 0 i = f i := by
  intro d
  induction d with
  | zero =>
    intro k s hk h i hi hx
    have ek : k = c := by omega
    rw [ek] at h
    exact h i hi hx
  | succ d ih =>
    intro k s hk h
    unfold plF
    refine ih (k + 1) _ (by omega) (fun i hi hx => ?_)
    obtain ⟨k2, q1, q2⟩ := hx
    by_cases ha : ahN j c k < Q
    · rw [if_pos ha, plI_v]
      by_cases e : i = ahN j c k
      · rw [if_pos e, e]
        exact hf k (by omega)
      · rw [if_neg e]
        have : k2 ≠ k := fun q => e (by rw [← q2, q])
        exact h i hi ⟨k2, by omega, q2⟩
    · rw [if_neg ha]
      have : k2 ≠ k := fun q => ha (by rw [← q, q2]; exact hi)
      exact h i hi ⟨k2, by omega, q2⟩
theorem plI_n {j : Nat → Int32} {r k b : Nat} (hr : r < 12) (hb : b < 3 ∨ 39 ≤ b) : ∀ (d i : Nat) (s : Nat → Int32), i + d ≤ 3 → gt (plI j r k d i s) 0 b = gt s 0 b := by
  intro d
  induction d with
  | zero => intro i s _; rfl
  | succ d ih =>
    intro i s hi
    unfold plI
    rw [ih _ _ (by omega), gt_n (by omega)]
theorem plF_n {j : Nat → Int32} {c Q b : Nat} (hQ : Q ≤ 12) (hb : b < 3 ∨ 39 ≤ b) : ∀ (d k : Nat) (s : Nat → Int32), gt (plF j c Q d k s) 0 b = gt s 0 b := by
  intro d
  induction d with
  | zero => intro k s; rfl
  | succ d ih =>
    intro k s
    unfold plF
    rw [ih]
    by_cases h : ahN j c k < Q
    · rw [if_pos h, plI_n (by omega) hb 3 0 s (by omega)]
    · rw [if_neg h]
theorem plF_00 {j : Nat → Int32} {c Q : Nat} : ∀ (d k : Nat) (s : Nat → Int32), plF j c Q d k s 0 = s 0 := by
  intro d
  induction d with
  | zero => intro k s; rfl
  | succ d ih =>
    intro k s
    unfold plF
    rw [ih]
    by_cases h : ahN j c k < Q
    · rw [if_pos h, plI_0]
    · rw [if_neg h]
theorem clF_z {t b : Nat} : ∀ (d q : Nat) (s : Nat → Int32), q ≤ b → b < q + d → gt (clF t d q s) t b = 0 := by
  intro d
  induction d with
  | zero => intro q s _ _; omega
  | succ d ih =>
    intro q s h1 h2
    unfold clF
    by_cases h : b = q
    · subst h
      rw [clF_n _ _ _ (by omega), gt_s]
    · exact ih (q + 1) _ (by omega) (by omega)
theorem cpN_v {f2 : Nat → Int32} : ∀ (n k : Nat) (f : Nat → Int32) (j : Nat), cpN f2 f n k j = if k ≤ j ∧ j < k + n then f2 j else f j := by
  intro n
  induction n with
  | zero =>
    intro k f j
    rw [if_neg (by omega)]
    rfl
  | succ n ih =>
    intro k f j
    unfold cpN
    rw [ih]
    by_cases h : k ≤ j ∧ j < k + (n + 1)
    · rw [if_pos h]
      by_cases h2 : j = k
      · subst h2
        rw [if_neg (by omega), upd_at]
      · rw [if_pos (by omega)]
    · rw [if_neg h, if_neg (by omega), upd_n (by omega)]
theorem ahN_r {q : JQ} {k : Nat} : ahN q.1 q.2 k = rnk stB (LQ q) (pr3 (jG q.1) (jC q.1) (jE q.1) k) := by
  unfold ahN rnk
  rw [fold_cnt (p := fun i => ihN (jG q.1) (jC q.1) (jE q.1) i k = true) (f := pr3 (jG q.1) (jC q.1) (jE q.1)) (q := fun b => stB b (pr3 (jG q.1) (jC q.1) (jE q.1) k)) (fun j => Iff.rfl), Nat.zero_add]
  rfl
theorem errJ_in {A : StaM} {s : Nat → Int32} (h : RA A s) (he : errJ A = 0) : (gt s 0 0).toInt + (gt s 1 0).toInt ≤ 99999 ∧ JV (seg (pr2 (vH s 0) (vD s 0)) (tN (sT (aZ A))) 0) (seg (pr2 (vH s 1) (vD s 1)) (tN (sT (aO A))) 0) (gt s 0 0).toInt (gt s 1 0).toInt := by
  have z := RA_z h
  have o := RA_o h
  have z4 : ¬ (-4 : Int32) = 0 := by decide +kernel
  unfold errJ at he
  by_cases h1 : 99999 < sN (aZ A) + sN (aO A)
  · rw [if_pos h1] at he
    exact absurd he z4
  · rw [if_neg h1] at he
    by_cases h2 : 60 < nI (unlT (sT (aZ A)) (sT (aO A)))
    · rw [if_pos h2] at he
      exact absurd he z4
    · rw [z.2.2.2.2.2.1, o.2.2.2.2.2.1] at h1
      have ht := tot_in z.2.2.2.2.2.2.2.1 z.2.2.2.2.2.2.2.2 o.2.2.2.2.2.2.2.1 o.2.2.2.2.2.2.2.2 h1
      have zt := z.2.1
      have ot := o.2.1
      have b0 := zt.1
      have b1 := ot.1
      have eu : unlT (sT (aZ A)) (sT (aO A)) = tN (sT (aZ A)) + (seg (pr2 (vH s 1) (vD s 1)) (tN (sT (aO A))) 0).countP (newK (seg (pr2 (vH s 0) (vD s 0)) (tN (sT (aZ A))) 0)) := by
        rw [t_unl zt ot]
        exact fold_cnt (p := fun k => seatOfR (vH s 0) (tN (sT (aZ A))) (vH s 1 k) = -6) (f := pr2 (vH s 1) (vD s 1)) (fun j => by
          rw [seatR_no (by omega)]
          unfold newK
          rw [decide_eq_true_eq, keys_seg]
          exact Iff.rfl) _ _ _
      have hc := List.countP_le_length (p := newK (seg (pr2 (vH s 0) (vD s 0)) (tN (sT (aZ A))) 0)) (l := seg (pr2 (vH s 1) (vD s 1)) (tN (sT (aO A))) 0)
      rw [seg_len] at hc
      have h60 : unlT (sT (aZ A)) (sT (aO A)) ≤ 60 := by
        by_cases q : unlT (sT (aZ A)) (sT (aO A)) ≤ 60
        · exact q
        · exfalso
          apply h2
          rw [nI_60]
          exact nI_lt (by omega) (by omega)
      refine ⟨ht, z.2.2.2.2.2.2.2.1, o.2.2.2.2.2.2.2.1, ht, t_nodup zt, t_nodup ot, fun p hp => ?_, fun p hp => ?_, ?_⟩
      · exact ot.2.2.2.2 p (ot.2.1.mem_iff.mp hp)
      · have := zt.2.2.2.2 p (zt.2.1.mem_iff.mp hp)
        have := o.2.2.2.2.2.2.2.1
        exact ⟨by omega, by omega, fun _ => by omega⟩
      · rw [seg_len, ← eu]
        exact h60
theorem JI_el {J : RowM} {q : JQ} {tot : Int} (h : JI J q tot) : rT J = q.2 ∧ (∀ k, k < q.2 → pr3 (jG q.1) (jC q.1) (jE q.1) k = pr3 (rG J) (rC J) (rE J) (ahN q.1 q.2 k) ∧ ahN q.1 q.2 k < q.2) ∧ (∀ i, i < q.2 → ∃ k, k < q.2 ∧ ahN q.1 q.2 k = i) := by
  obtain ⟨h1, h2, h3, h4⟩ := h
  have el : rT J = q.2 := by
    have := h1.length_eq
    unfold LJ LQ at this
    rwa [seg_len, seg_len] at this
  refine ⟨el, fun k hk => ?_, fun i hi => ?_⟩
  · have hm := h1.mem_iff.mpr (seg_in (f := pr3 (jG q.1) (jC q.1) (jE q.1)) (d := q.2) (k := 0) (j := k) (by omega) (by omega))
    obtain ⟨i, _, i2, i3⟩ := (seg_mem _ _).mp hm
    have hr := rank_at stB_lin (LJ J) h2 i _ (by
      unfold LJ
      rw [seg_get _ 0 i (by omega), Nat.zero_add])
    rw [ahN_r, i3, ← rank_perm h1, hr]
    exact ⟨rfl, by omega⟩
  · have hm := h1.mem_iff.mp (seg_in (f := pr3 (rG J) (rC J) (rE J)) (d := rT J) (k := 0) (j := i) (by omega) (by omega))
    obtain ⟨k, _, k2, k4⟩ := (seg_mem _ _).mp hm
    have hr := rank_at stB_lin (LJ J) h2 i _ (by
      unfold LJ
      rw [seg_get _ 0 i (by omega), Nat.zero_add])
    refine ⟨k, by omega, ?_⟩
    rw [ahN_r, ← rank_perm h1, ← k4, hr]
theorem JI_pos {J : RowM} {q : JQ} {tot : Int} (h : JI J q tot) : ∀ k, k < q.2 → 0 ≤ (jC q.1 k).toInt ∧ 0 ≤ (jE q.1 k).toInt := fun k hk => by
  have hm := h.1.mem_iff.mpr (seg_in (f := pr3 (jG q.1) (jC q.1) (jE q.1)) (d := q.2) (k := 0) (j := k) (by omega) (by omega))
  have b : 0 ≤ (jE q.1 k).toInt ∧ (jE q.1 k).toInt ≤ (jC q.1 k).toInt ∧ 1 ≤ (jC q.1 k).toInt ∧ (jC q.1 k).toInt ≤ tot := h.2.2.2 _ hm
  omega
theorem RA_join {A : StaM} {s : Nat → Int32} {J : RowM} {j0 : Nat → Int32} (h : RA A s) (he : errJ A = 0) : aaS A ∧ cnOK (NA A 1) 0 (NA A 0) s ∧ RA (jnS A J) (rjS s (NA A 0) (NA A 1) (QA A) (rjQ j0 (VA A s)).1 (rjQ j0 (VA A s)).2) ∧ gt (rjS s (NA A 0) (NA A 1) (QA A) (rjQ j0 (VA A s)).1 (rjQ j0 (VA A s)).2) 0 1 = nI (rT (sR (aZ (jnS A J)))) := by
  obtain ⟨ht, jv⟩ := errJ_in h he
  have z := RA_z h
  have o := RA_o h
  have n0 : NA A 0 = tN (sT (aZ A)) := by unfold NA; rw [st_0]
  have n1 : NA A 1 = tN (sT (aO A)) := by unfold NA; rw [st_1]
  have zw := z.1
  have zt := z.2.1
  have ot := o.2.1
  have b0 := zt.1
  have b1 := ot.1
  have ji := jn_JI (J := J) (j0 := j0) h ht
  obtain ⟨el, e1, e2⟩ := JI_el ji
  rw [n0, n1]
  generalize rjQ j0 (VA A s) = q at *
  obtain ⟨j, c⟩ := q
  have el' : rT (jnJ A J) = c := el
  obtain ⟨ra1, ra2, ra3, ra4⟩ := ref_all (tN (sT (aO A))) 0 (tN (sT (aZ A))) s jv (by omega)
  have ra5 := cnA_39 (tN (sT (aO A))) 0 (tN (sT (aZ A))) s z.2.2.2.1
  have ra6 := cnA_0 (tN (sT (aO A))) 0 (tN (sT (aZ A))) s
  have jc := JV_R ot.2.1 (JV_perm zt.2.1 jv)
  obtain ⟨ca1, ca2, ca3⟩ := cls_all (tN (sT (aO A))) 0 (sT (aZ A)) zt.2.2.1 jc
  have pall : (addAll (seg (pr2 (vH s 1) (vD s 1)) (tN (sT (aO A))) 0) (seg (pr2 (vH s 0) (vD s 0)) (tN (sT (aZ A))) 0)).Perm (tlT (aaF (tG (sT (aO A))) (tC (sT (aO A))) (tN (sT (aO A))) 0 (sT (aZ A)))) := ((addAll_R ot.2.1 _ (t_nodup ot)).trans (addAll_L _ zt.2.1)).trans ca2.symm
  have jend := JV_all _ _ jv
  have jend2 := JV_perm pall jend
  refine ⟨ca1, ra1, ?_⟩
  unfold rjS
  generalize hs1 : cnA (tN (sT (aO A))) 0 (tN (sT (aZ A))) s = r1 at *
  obtain ⟨N', s1⟩ := r1
  have ra2' : seg (pr2 (vH s1 0) (vD s1 0)) N' 0 = addAll (seg (pr2 (vH s 1) (vD s 1)) (tN (sT (aO A))) 0) (seg (pr2 (vH s 0) (vD s 0)) (tN (sT (aZ A))) 0) := ra2
  have ra3' : ∀ b, b < 160 → gt s1 1 b = gt s 1 b := ra3
  have ra4' : ∀ b, b < 39 → gt s1 0 b = gt s 0 b := ra4
  have ra5' : gt s1 0 39 = nI N' := ra5
  have ra6' : s1 0 = s 0 := ra6
  show RA (jnS A J) (clF 1 160 0 (plF j c (QA A) c 0 (rj3 s1 (QA A) c))) ∧ gt (clF 1 160 0 (plF j c (QA A) c 0 (rj3 s1 (QA A) c))) 0 1 = nI (rT (sR (aZ (jnS A J))))
  have Q12 : QA A ≤ 12 := zw.2.2.1
  have r30 : gt (rj3 s1 (QA A) c) 0 0 = gt s 0 0 + gt s 1 0 := by
    unfold rj3 rj2
    rw [gt_n (by omega), clF_n _ _ _ (by omega), gt_s, ra4' 0 (by omega), ra3' 0 (by omega)]
  have r31 : gt (rj3 s1 (QA A) c) 0 1 = nI (min c (QA A)) := by
    unfold rj3
    rw [gt_s]
  have r3h : ∀ b, b = 2 ∨ 39 ≤ b → gt (rj3 s1 (QA A) c) 0 b = gt s1 0 b := fun b hb => by
    unfold rj3 rj2
    rw [gt_n (by omega), clF_n _ _ _ (by omega), gt_n (by omega)]
  have r300 : rj3 s1 (QA A) c 0 = s 0 := by
    unfold rj3 rj2
    rw [lay_0, clF_0, lay_0, ra6']
  generalize rj3 s1 (QA A) c = s3 at *
  have p0 : ∀ b, b < 3 ∨ 39 ≤ b → gt (plF j c (QA A) c 0 s3) 0 b = gt s3 0 b := fun b hb => plF_n Q12 hb c 0 s3
  have pv := plF_v (f := pr3 (rG (jnJ A J)) (rC (jnJ A J)) (rE (jnJ A J))) (j := j) (c := c) (Q := QA A) (fun k hk => (e1 k hk).1) c 0 s3 (by omega) (fun i _ hx => by obtain ⟨k2, q1, _⟩ := hx; omega)
  have p00 : plF j c (QA A) c 0 s3 0 = s 0 := (plF_00 _ _ _).trans r300
  generalize plF j c (QA A) c 0 s3 = s4 at *
  have f0 : ∀ b, b < 160 → gt (clF 1 160 0 s4) 0 b = gt s4 0 b := fun b hb => clF_o2 (by omega) hb 160 0 s4 (by omega)
  have f1 : ∀ b, b < 160 → gt (clF 1 160 0 s4) 1 b = 0 := fun b hb => clF_z 160 0 s4 (by omega) (by omega)
  have f00 : clF 1 160 0 s4 0 = s 0 := (clF_0 _ _ _).trans p00
  generalize clF 1 160 0 s4 = s5 at *
  have x0 : gt s5 0 0 = gt s 0 0 + gt s 1 0 := by rw [f0 0 (by omega), p0 0 (by omega), r30]
  have x1 : gt s5 0 1 = nI (min c (QA A)) := by rw [f0 1 (by omega), p0 1 (by omega), r31]
  have x2 : gt s5 0 2 = gt s 0 2 := by rw [f0 2 (by omega), p0 2 (by omega), r3h 2 (by omega), ra4' 2 (by omega)]
  have xh : ∀ b, 39 ≤ b → b < 160 → gt s5 0 b = gt s1 0 b := fun b hb hb2 => by rw [f0 b hb2, p0 b (by omega), r3h b (by omega)]
  have etot : (gt s 0 0 + gt s 1 0).toInt = (gt s 0 0).toInt + (gt s 1 0).toInt := adv (by have := z.2.2.2.2.2.2.2.1; omega) (by have := z.2.2.2.2.2.2.2.2; omega) (by have := o.2.2.2.2.2.2.2.1; omega) (by have := o.2.2.2.2.2.2.2.2; omega)
  have ert : rT (sR (aZ (jnS A J))) = min (QA A) c := by
    show min (rS (sR (aZ A))) (rT (jnJ A J)) = _
    rw [el']
    rfl
  have ers : rS (sR (aZ (jnS A J))) = QA A := rfl
  have row : ∀ k, k < min (QA A) c → pr3 (rG (sR (aZ (jnS A J)))) (rC (sR (aZ (jnS A J)))) (rE (sR (aZ (jnS A J)))) k = v3 s5 0 k := fun k hk => by
    have e5 : v3 s5 0 k = v3 s4 0 k := by
      show (gt s5 0 _, gt s5 0 _, gt s5 0 _) = (gt s4 0 _, gt s4 0 _, gt s4 0 _)
      rw [f0 _ (by omega), f0 _ (by omega), f0 _ (by omega)]
    rw [e5, pv k (by omega) (e2 k (by show k < c; omega))]
    show (cpN (rG (jnJ A J)) (rG (sR (aZ A))) (min (rS (sR (aZ A))) (rT (jnJ A J))) 0 k, cpN (rC (jnJ A J)) (rC (sR (aZ A))) (min (rS (sR (aZ A))) (rT (jnJ A J))) 0 k, cpN (rE (jnJ A J)) (rE (sR (aZ A))) (min (rS (sR (aZ A))) (rT (jnJ A J))) 0 k) = _
    have hk2 : 0 ≤ k ∧ k < 0 + min (rS (sR (aZ A))) (rT (jnJ A J)) := by
      rw [el']
      have : rS (sR (aZ A)) = QA A := rfl
      rw [this]
      omega
    rw [cpN_v, cpN_v, cpN_v, if_pos hk2, if_pos hk2, if_pos hk2]
    rfl
  have inJ : ∀ k, k < min (QA A) c → v3 s5 0 k = pr3 (rG (jnJ A J)) (rC (jnJ A J)) (rE (jnJ A J)) k := fun k hk => by
    have e5 : v3 s5 0 k = v3 s4 0 k := by
      show (gt s5 0 _, gt s5 0 _, gt s5 0 _) = (gt s4 0 _, gt s4 0 _, gt s4 0 _)
      rw [f0 _ (by omega), f0 _ (by omega), f0 _ (by omega)]
    rw [e5, pv k (by omega) (e2 k (by show k < c; omega))]
  have distJ : ∀ a b, a < c → b < c → rG (jnJ A J) a = rG (jnJ A J) b → a = b := by
    have hn := ji.2.2.1
    unfold LJ at hn
    rw [seg_map, el'] at hn
    exact seg_dist hn
  refine ⟨RA_mk ?_ ?_ ?_, ?_⟩
  · refine ⟨⟨?_, zw.2.1, Q12, fun k hk => ?_, fun a b ha hb e => ?_, fun k hk => ?_⟩, ⟨?_, ?_, ca3, ?_⟩, ?_, ?_, ?_, ?_, ?_, ?_, ?_⟩
    · rw [ert, ers]; omega
    · rw [ert] at hk
      have e := row k hk
      exact ⟨congrArg (fun p : P3 => p.1) e, congrArg (fun p : P3 => p.2.1) e, congrArg (fun p : P3 => p.2.2) e⟩
    · rw [ert] at ha hb
      have ea : vG s5 0 a = rG (jnJ A J) a := congrArg (fun p : P3 => p.1) (inJ a ha)
      have eb : vG s5 0 b = rG (jnJ A J) b := congrArg (fun p : P3 => p.1) (inJ b hb)
      rw [ea, eb] at e
      exact distJ a b (by omega) (by omega) e
    · rw [ert] at hk
      have ec : vC s5 0 k = rC (jnJ A J) k := congrArg (fun p : P3 => p.2.1) (inJ k hk)
      have ee : vE s5 0 k = rE (jnJ A J) k := congrArg (fun p : P3 => p.2.2) (inJ k hk)
      have hm : pr3 (rG (jnJ A J)) (rC (jnJ A J)) (rE (jnJ A J)) k ∈ LJ (jnJ A J) := seg_in (by omega) (by omega)
      have b := ji.2.2.2 _ hm
      rw [ec, ee, x0, etot]
      exact b
    · have := JV_len jend2
      rw [tlT_len] at this
      exact this
    · have eN : N' = tN (aaF (tG (sT (aO A))) (tC (sT (aO A))) (tN (sT (aO A))) 0 (sT (aZ A))) := by
        have := pall.length_eq
        rw [← ra2', seg_len, tlT_len] at this
        exact this
      have N60 : N' ≤ 60 := by
        have := JV_len jend2
        rw [tlT_len] at this
        omega
      show (seg (pr2 (vH s5 0) (vD s5 0)) (tN (aaF (tG (sT (aO A))) (tC (sT (aO A))) (tN (sT (aO A))) 0 (sT (aZ A)))) 0).Perm _
      rw [← eN]
      have e9 : seg (pr2 (vH s5 0) (vD s5 0)) N' 0 = seg (pr2 (vH s1 0) (vD s1 0)) N' 0 := seg_congr _ _ (fun i _ q => by
        show (gt s5 0 (40 + 2 * i), gt s5 0 (41 + 2 * i)) = (gt s1 0 (40 + 2 * i), gt s1 0 (41 + 2 * i))
        rw [xh _ (by omega) (by omega), xh _ (by omega) (by omega)])
      rw [e9, ra2']
      exact pall
    · refine ⟨jend2.2.2.2.1, fun p hp => ?_⟩
      have := jend2.2.2.2.2.2.2.1 p hp
      rw [x0, etot]
      exact ⟨this.1, this.2.1⟩
    · rw [x1, ert, Nat.min_comm]
    · have eN : N' = tN (aaF (tG (sT (aO A))) (tC (sT (aO A))) (tN (sT (aO A))) 0 (sT (aZ A))) := by
        have := pall.length_eq
        rw [← ra2', seg_len, tlT_len] at this
        exact this
      rw [xh 39 (by omega) (by omega), ra5', eN]
      rfl
    · rw [f00, z.2.2.2.2.1]
      rfl
    · rw [x0, ← z.2.2.2.2.2.1, ← o.2.2.2.2.2.1]
      rfl
    · rw [x2, ← z.2.2.2.2.2.2.1]
      rfl
    · rw [x0, etot]
      have := z.2.2.2.2.2.2.2.1
      have := o.2.2.2.2.2.2.2.1
      omega
    · rw [x0, etot]
      exact ht
  · have zi : (0 : Int32).toInt = 0 := by decide +kernel
    refine ⟨⟨Nat.zero_le _, o.1.2.1, o.1.2.2.1, fun k hk => absurd hk (Nat.not_lt_zero k), fun a b ha _ _ => absurd ha (Nat.not_lt_zero a), fun k hk => absurd hk (Nat.not_lt_zero k)⟩, ⟨Nat.zero_le _, List.Perm.refl _, List.Pairwise.nil, List.Pairwise.nil, fun p hp => by cases hp⟩, ?_, ?_, ?_, ?_, ?_, ?_, ?_⟩
    · rw [f1 1 (by omega)]; exact nI_0.symm
    · rw [f1 39 (by omega)]; exact nI_0.symm
    · rw [f00, o.2.2.2.2.1]
      rfl
    · rw [f1 0 (by omega)]
      rfl
    · rw [f1 2 (by omega)]
      rfl
    · rw [f1 0 (by omega), zi]
      exact Int.le_refl 0
    · rw [f1 0 (by omega), zi]
      omega
  · show rS (sR (aO A)) = rS (sR (aZ A))
    exact h.2
  · rw [x1, ert, Nat.min_comm]
