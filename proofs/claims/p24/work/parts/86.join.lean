/-! joining: what is kept; the row that is joined doesn't depend on what lay there -/
def MA (A : StaM) (x : Int32) : Int32 := mosR (sR (aZ A)) x + mosR (sR (aO A)) x
def LA (A : StaM) (x : Int32) : Int32 := lesR (sR (aZ A)) x + lesR (sR (aO A)) x
def JP (A : StaM) (L : List P3) : Prop := L.Pairwise (fun a b => stB a b = true) ∧ (L.map k3).Nodup ∧ ∀ p, p ∈ L → p = (p.1, MA A p.1, MA A p.1 - LA A p.1)
theorem JP_step {A : StaM} {J : RowM} {x : Int32} (h : JP A (LJ J)) (hx : x ∉ (LJ J).map k3) : JP A (LJ (ijR A J x)) ∧ ∀ z, z ∈ (LJ (ijR A J x)).map k3 ↔ z = x ∨ z ∈ (LJ J).map k3 := by
  obtain ⟨h1, h2, h3⟩ := h
  show JP A (LJ (ibwR J x (MA A x) (MA A x - LA A x))) ∧ ∀ z, z ∈ (LJ (ibwR J x (MA A x) (MA A x - LA A x))).map k3 ↔ z = x ∨ z ∈ (LJ J).map k3
  have hp : (LJ (ibwR J x (MA A x) (MA A x - LA A x))).Perm ((x, MA A x, MA A x - LA A x) :: LJ J) := by
    rw [LJ_ibw]
    exact insE_perm _
  have hk : ((LJ (ibwR J x (MA A x) (MA A x - LA A x))).map k3).Perm (x :: (LJ J).map k3) := hp.map k3
  refine ⟨⟨?_, ?_, fun p hp2 => ?_⟩, fun z => ?_⟩
  · rw [LJ_ibw]
    refine insE_srt stB_lin _ h1 (fun j hj e => hx ?_)
    have : x = rG J j := congrArg (fun p : P3 => p.1) e
    rw [this]
    exact List.mem_map.mpr ⟨pr3 (rG J) (rC J) (rE J) j, seg_in (by omega) (by omega), rfl⟩
  · exact hk.symm.nodup (List.nodup_cons.mpr ⟨hx, h2⟩)
  · rcases List.mem_cons.mp (hp.mem_iff.mp hp2) with e | e
    · rw [e]
    · exact h3 p e
  · rw [hk.mem_iff, List.mem_cons]
theorem jnA_P {A : StaM} (hn : (seg (rG (sR (aZ A))) (rT (sR (aZ A))) 0).Nodup) : ∀ (d k : Nat) (J : RowM), k + d = rT (sR (aZ A)) → JP A (LJ J) → (∀ z, z ∈ (LJ J).map k3 ↔ z ∈ seg (rG (sR (aZ A))) k 0) → JP A (LJ (jnA A d k J)) ∧ ∀ z, z ∈ (LJ (jnA A d k J)).map k3 ↔ z ∈ seg (rG (sR (aZ A))) (rT (sR (aZ A))) 0 := by
  intro d
  induction d with
  | zero =>
    intro k J hk h hz
    have : k = rT (sR (aZ A)) := by omega
    subst this
    exact ⟨h, hz⟩
  | succ d ih =>
    intro k J hk h hz
    unfold jnA
    have hx : rG (sR (aZ A)) k ∉ (LJ J).map k3 := fun q => by
      obtain ⟨j, j1, j2, j3⟩ := (seg_mem _ _).mp ((hz _).mp q)
      have := seg_dist hn k j (by omega) (by omega) j3
      omega
    obtain ⟨p1, p2⟩ := JP_step h hx
    refine ih (k + 1) _ (by omega) p1 (fun z => ?_)
    rw [p2, hz, seg_snoc k 0, Nat.zero_add, List.mem_append, List.mem_singleton]
    exact ⟨fun q => q.elim Or.inr Or.inl, fun q => q.elim Or.inr Or.inl⟩
theorem jnB_P {A : StaM} (ht : rT (sR (aZ A)) < 2 ^ 31) (hn : (seg (rG (sR (aO A))) (rT (sR (aO A))) 0).Nodup) : ∀ (d k : Nat) (J : RowM), k + d = rT (sR (aO A)) → JP A (LJ J) → (∀ z, z ∈ (LJ J).map k3 ↔ z ∈ seg (rG (sR (aZ A))) (rT (sR (aZ A))) 0 ∨ z ∈ seg (rG (sR (aO A))) k 0) → JP A (LJ (jnB A d k J)) ∧ ∀ z, z ∈ (LJ (jnB A d k J)).map k3 ↔ z ∈ seg (rG (sR (aZ A))) (rT (sR (aZ A))) 0 ∨ z ∈ seg (rG (sR (aO A))) (rT (sR (aO A))) 0 := by
  intro d
  induction d with
  | zero =>
    intro k J hk h hz
    have : k = rT (sR (aO A)) := by omega
    subst this
    exact ⟨h, hz⟩
  | succ d ih =>
    intro k J hk h hz
    unfold jnB
    by_cases hc : seatOfR (rG (sR (aZ A))) (rT (sR (aZ A))) (rG (sR (aO A)) k) = -6
    · rw [if_pos hc]
      have hx : rG (sR (aO A)) k ∉ (LJ J).map k3 := fun q => by
        rcases (hz _).mp q with r | r
        · exact (seatR_no ht).mp hc r
        · obtain ⟨j, j1, j2, j3⟩ := (seg_mem _ _).mp r
          have := seg_dist hn k j (by omega) (by omega) j3
          omega
      obtain ⟨p1, p2⟩ := JP_step h hx
      refine ih (k + 1) _ (by omega) p1 (fun z => ?_)
      rw [p2, hz, seg_snoc k 0, Nat.zero_add, List.mem_append, List.mem_singleton]
      constructor
      · rintro (q | q | q)
        · exact Or.inr (Or.inr q)
        · exact Or.inl q
        · exact Or.inr (Or.inl q)
      · rintro (q | q | q)
        · exact Or.inr (Or.inl q)
        · exact Or.inr (Or.inr q)
        · exact Or.inl q
    · rw [if_neg hc]
      refine ih (k + 1) J (by omega) h (fun z => ?_)
      rw [hz, seg_snoc k 0, Nat.zero_add, List.mem_append, List.mem_singleton]
      constructor
      · rintro (q | q)
        · exact Or.inl q
        · exact Or.inr (Or.inl q)
      · rintro (q | q | q)
        · exact Or.inl q
        · exact Or.inr q
        · refine Or.inl ?_
          rw [q]
          by_cases r : rG (sR (aO A)) k ∈ seg (rG (sR (aZ A))) (rT (sR (aZ A))) 0
          · exact r
          · exact absurd ((seatR_no ht).mpr r) hc
theorem RB_nd {ρ : RowM} {tot : Int} (h : RB ρ tot) : (seg (rG ρ) (rT ρ) 0).Nodup := by
  have := (RB_l h).1
  have e : (LJ ρ).map k3 = seg (rG ρ) (rT ρ) 0 := seg_map _ _ _
  rwa [e] at this
theorem jn_P {A : StaM} {J : RowM} (hz : SB (aZ A)) (ho : SB (aO A)) : JP A (LJ (jnJ A J)) ∧ ∀ z, z ∈ (LJ (jnJ A J)).map k3 ↔ z ∈ seg (rG (sR (aZ A))) (rT (sR (aZ A))) 0 ∨ z ∈ seg (rG (sR (aO A))) (rT (sR (aO A))) 0 := by
  have h0 : JP A (LJ (clrR J)) := ⟨List.Pairwise.nil, List.Pairwise.nil, fun p hp => by cases hp⟩
  obtain ⟨a1, a2⟩ := jnA_P (RB_nd hz.2.2.1) (rT (sR (aZ A))) 0 (clrR J) (by omega) h0 (fun z => Iff.rfl)
  have b1 := hz.2.2.1.1
  have b2 := hz.2.2.1.2.2.1
  exact jnB_P (by omega) (RB_nd ho.2.2.1) (rT (sR (aO A))) 0 _ (by omega) a1 (fun z => (a2 z).trans ⟨Or.inl, fun q => q.elim id (fun r => by cases r)⟩)
theorem seg_eqv {J J2 : RowM} (h : LJ J = LJ J2) : rT J = rT J2 ∧ ∀ k, k < rT J → pr3 (rG J) (rC J) (rE J) k = pr3 (rG J2) (rC J2) (rE J2) k := seg_eq h
theorem ij_eq {A : StaM} {J J2 : RowM} {x : Int32} (h : LJ J = LJ J2) : LJ (ijR A J x) = LJ (ijR A J2 x) := by
  obtain ⟨h1, h2⟩ := seg_eqv h
  unfold ijR
  rw [LJ_ibw, LJ_ibw, ← h1]
  exact insE_congr _ (fun j hj => h2 j hj)
theorem jnA_eq {A : StaM} : ∀ (d k : Nat) (J J2 : RowM), LJ J = LJ J2 → LJ (jnA A d k J) = LJ (jnA A d k J2)
  | 0, _, _, _, h => h
  | d + 1, k, _, _, h => jnA_eq d (k + 1) _ _ (ij_eq h)
theorem jnB_eq {A : StaM} : ∀ (d k : Nat) (J J2 : RowM), LJ J = LJ J2 → LJ (jnB A d k J) = LJ (jnB A d k J2)
  | 0, _, _, _, h => h
  | d + 1, k, J, J2, h => by
    unfold jnB
    by_cases hc : seatOfR (rG (sR (aZ A))) (rT (sR (aZ A))) (rG (sR (aO A)) k) = -6
    · rw [if_pos hc, if_pos hc]
      exact jnB_eq d (k + 1) _ _ (ij_eq h)
    · rw [if_neg hc, if_neg hc]
      exact jnB_eq d (k + 1) _ _ h
theorem cpN_eq {f f2 h : Nat → Int32} {n : Nat} (e : ∀ k, k < n → f k = f2 k) : cpN f h n 0 = cpN f2 h n 0 := by
  funext j
  rw [cpN_v, cpN_v]
  by_cases q : 0 ≤ j ∧ j < 0 + n
  · rw [if_pos q, if_pos q, e j (by omega)]
  · rw [if_neg q, if_neg q]
theorem jnS_eq {A : StaM} {J J2 : RowM} : jnS A J = jnS A J2 := by
  have h : LJ (jnJ A J) = LJ (jnJ A J2) := jnB_eq _ _ _ _ (jnA_eq _ _ _ _ rfl)
  obtain ⟨h1, h2⟩ := seg_eqv h
  have e : rplR (sR (aZ A)) (jnJ A J) = rplR (sR (aZ A)) (jnJ A J2) := by
    unfold rplR
    rw [← h1, cpN_eq (f := rG (jnJ A J)) (f2 := rG (jnJ A J2)) (fun k hk => congrArg (fun p : P3 => p.1) (h2 k (by omega))), cpN_eq (f := rC (jnJ A J)) (f2 := rC (jnJ A J2)) (fun k hk => congrArg (fun p : P3 => p.2.1) (h2 k (by omega))), cpN_eq (f := rE (jnJ A J)) (f2 := rE (jnJ A J2)) (fun k hk => congrArg (fun p : P3 => p.2.2) (h2 k (by omega)))]
  unfold jnS jnZ
  rw [e]
/-- the true counts that are joined -/
theorem join_T {A : StaM} (hz : SB (aZ A)) (ho : SB (aO A)) (he : errJ A = 0) : (sN (aZ A)).toInt + (sN (aO A)).toInt ≤ 99999 ∧ aaS A ∧ TB (aaF (tG (sT (aO A))) (tC (sT (aO A))) (tN (sT (aO A))) 0 (sT (aZ A))) ((sN (aZ A)).toInt + (sN (aO A)).toInt) ∧ ∀ x, trT (aaF (tG (sT (aO A))) (tC (sT (aO A))) (tN (sT (aO A))) 0 (sT (aZ A))) x = trT (sT (aZ A)) x + trT (sT (aO A)) x := by
  obtain ⟨z1, z2, z3, z4⟩ := hz
  obtain ⟨o1, o2, o3, o4⟩ := ho
  have n4 : ¬ (-4 : Int32) = 0 := by decide +kernel
  unfold errJ at he
  by_cases h1 : 99999 < sN (aZ A) + sN (aO A)
  · rw [if_pos h1] at he
    exact absurd he n4
  · rw [if_neg h1] at he
    by_cases h2 : 60 < nI (unlT (sT (aZ A)) (sT (aO A)))
    · rw [if_pos h2] at he
      exact absurd he n4
    · have ht := tot_in z1 z2 o1 o2 h1
      have b0 := z4.1
      have b1 := o4.1
      have eu : unlT (sT (aZ A)) (sT (aO A)) = tN (sT (aZ A)) + (tlT (sT (aO A))).countP (newK (tlT (sT (aZ A)))) := by
        unfold unlT
        exact fold_cnt (p := fun k => seatOfR (tG (sT (aZ A))) (tN (sT (aZ A))) (tG (sT (aO A)) k) = -6) (f := pr2 (tG (sT (aO A))) (tC (sT (aO A)))) (fun j => by
          rw [seatR_no (by omega)]
          unfold newK
          rw [decide_eq_true_eq]
          show _ ↔ tG (sT (aO A)) j ∉ (seg (pr2 (tG (sT (aZ A))) (tC (sT (aZ A)))) (tN (sT (aZ A))) 0).map Prod.fst
          rw [keys_seg]) _ _ _
      have hc := List.countP_le_length (p := newK (tlT (sT (aZ A)))) (l := tlT (sT (aO A)))
      rw [tlT_len] at hc
      have h60 : unlT (sT (aZ A)) (sT (aO A)) ≤ 60 := by
        by_cases q : unlT (sT (aZ A)) (sT (aO A)) ≤ 60
        · exact q
        · exfalso
          apply h2
          rw [nI_60]
          exact nI_lt (by omega) (by omega)
      have jv : JV (tlT (sT (aZ A))) (tlT (sT (aO A))) (sN (aZ A)).toInt (sN (aO A)).toInt := by
        refine ⟨z1, o1, ht, z4.2.2.1, o4.2.2.1, fun p hp => ?_, fun p hp => ?_, ?_⟩
        · have := o4.2.2.2 p hp
          omega
        · have := z4.2.2.2 p hp
          exact ⟨by omega, by omega, fun _ => by omega⟩
        · rw [tlT_len, ← eu]
          exact h60
      obtain ⟨q1, q2, q3⟩ := cls_all (tN (sT (aO A))) 0 (sT (aZ A)) z4.2.1 jv
      have q2' : (tlT (aaF (tG (sT (aO A))) (tC (sT (aO A))) (tN (sT (aO A))) 0 (sT (aZ A)))).Perm (addAll (tlT (sT (aO A))) (tlT (sT (aZ A)))) := q2
      have ja := JV_all _ _ jv
      have hn := (q2'.map Prod.fst).symm.nodup ja.2.2.2.1
      refine ⟨ht, q1, ⟨?_, q3, hn, fun p hp => ?_⟩, fun x => ?_⟩
      · have := JV_len ja
        rw [← q2'.length_eq, tlT_len] at this
        exact this
      · have hp2 := q2'.mem_iff.mp hp
        have b := ja.2.2.2.2.2.2.1 p hp2
        refine ⟨?_, b.1, b.2.1⟩
        have hk : p.1 ∈ (addAll (tlT (sT (aO A))) (tlT (sT (aZ A)))).map Prod.fst := List.mem_map.mpr ⟨p, hp2, rfl⟩
        rcases (addAll_mem _ _).mp hk with r | r
        · obtain ⟨q, r1, r2⟩ := List.mem_map.mp r
          rw [← r2]
          exact (o4.2.2.2 q r1).1
        · obtain ⟨q, r1, r2⟩ := List.mem_map.mp r
          rw [← r2]
          exact (z4.2.2.2 q r1).1
      · rw [tr_perm q2' hn, lk_all _ _ o4.2.2.1]
        have e1 := tr_nn z4 z1 x
        have e2 := tr_nn o4 o1 x
        unfold trT at e1 e2 ⊢
        rw [adv (by omega) (by omega) (by omega) (by omega)]
theorem new_S {S : StrM} (h : SB S) : SB (newS S) ∧ BT (newS S) := by
  obtain ⟨s1, s2, s3, s4⟩ := h
  refine ⟨⟨?_, ?_, ⟨Nat.zero_le _, s3.2.1, s3.2.2.1, fun i j hi => absurd hi (Nat.not_lt_zero _), fun k hk => absurd hk (Nat.not_lt_zero _)⟩, ⟨Nat.zero_le _, List.Pairwise.nil, List.Pairwise.nil, fun p hp => by cases hp⟩⟩, ⟨fun k hk => absurd hk (Nat.not_lt_zero _), fun x _ k hk => absurd hk (Nat.not_lt_zero _)⟩, fun _ x _ => ?_⟩
  · show 0 ≤ (0 : Int32).toInt
    rw [z_int]
    exact Int.le_refl _
  · show (0 : Int32).toInt ≤ 99999
    rw [z_int]
    omega
  · exact z_int
theorem join_S {A : StaM} {J : RowM} (hz : SB (aZ A)) (ho : SB (aO A)) (hq : rS (sR (aO A)) = rS (sR (aZ A))) (he : errJ A = 0) : SB (jnZ A J) ∧ rS (sR (jnZ A J)) = rS (sR (aZ A)) ∧ (BT (aZ A) → BT (aO A) → BT (jnZ A J)) := by
  obtain ⟨t1, t2, t3, t4⟩ := join_T hz ho he
  obtain ⟨⟨p1, p2, p3⟩, p4⟩ := jn_P (J := J) hz ho
  obtain ⟨z1, z2, z3, z4⟩ := id hz
  obtain ⟨o1, o2, o3, o4⟩ := id ho
  have ev : (sN (aZ A) + sN (aO A)).toInt = (sN (aZ A)).toInt + (sN (aO A)).toInt := adv (by omega) (by omega) (by omega) (by omega)
  generalize hJ : jnJ A J = J2 at *
  have eS : sR (jnZ A J) = rplR (sR (aZ A)) J2 := by rw [← hJ]; rfl
  generalize hn : min (rS (sR (aZ A))) (rT J2) = n at *
  have hn1 : n ≤ rS (sR (aZ A)) := by omega
  have hn2 : n ≤ rT J2 := by omega
  have eT : rT (sR (jnZ A J)) = n := by rw [eS]; exact hn
  have eQ : rS (sR (jnZ A J)) = rS (sR (aZ A)) := by rw [eS]; rfl
  have vv : ∀ (f h : Nat → Int32) k, k < n → cpN f h n 0 k = f k := fun f h k hk => by rw [cpN_v, if_pos (by omega)]
  have eG : ∀ k, k < n → rG (sR (jnZ A J)) k = rG J2 k := fun k hk => by
    rw [eS]
    show cpN (rG J2) (rG (sR (aZ A))) (min (rS (sR (aZ A))) (rT J2)) 0 k = _
    rw [hn, vv _ _ k hk]
  have eC : ∀ k, k < n → rC (sR (jnZ A J)) k = rC J2 k := fun k hk => by
    rw [eS]
    show cpN (rC J2) (rC (sR (aZ A))) (min (rS (sR (aZ A))) (rT J2)) 0 k = _
    rw [hn, vv _ _ k hk]
  have eE : ∀ k, k < n → rE (sR (jnZ A J)) k = rE J2 k := fun k hk => by
    rw [eS]
    show cpN (rE J2) (rE (sR (aZ A))) (min (rS (sR (aZ A))) (rT J2)) 0 k = _
    rw [hn, vv _ _ k hk]
  have inJ : ∀ k, k < rT J2 → pr3 (rG J2) (rC J2) (rE J2) k ∈ LJ J2 := fun k hk => seg_in (by omega) (by omega)
  have vC : ∀ k, k < rT J2 → rC J2 k = MA A (rG J2 k) := fun k hk => congrArg (fun p : P3 => p.2.1) (p3 _ (inJ k hk))
  have vE : ∀ k, k < rT J2 → rE J2 k = MA A (rG J2 k) - LA A (rG J2 k) := fun k hk => congrArg (fun p : P3 => p.2.2) (p3 _ (inJ k hk))
  have kJ : ∀ k, k < rT J2 → rG J2 k ∈ (LJ J2).map k3 := fun k hk => List.mem_map.mpr ⟨_, inJ k hk, rfl⟩
  have mz := fun x => mo_all z3 z1 z2 x
  have mo := fun x => mo_all o3 o1 o2 x
  have mA : ∀ x, (MA A x).toInt = (mosR (sR (aZ A)) x).toInt + (mosR (sR (aO A)) x).toInt := fun x => by
    have a := mz x
    have b := mo x
    exact adv (by omega) (by omega) (by omega) (by omega)
  have lA : ∀ x, (LA A x).toInt = (lesR (sR (aZ A)) x).toInt + (lesR (sR (aO A)) x).toInt := fun x => by
    have a := mz x
    have b := mo x
    exact adv (by omega) (by omega) (by omega) (by omega)
  have mlA : ∀ x, (MA A x - LA A x).toInt = (MA A x).toInt - (LA A x).toInt := fun x => by
    have a := mz x
    have b := mo x
    have c := mA x
    have d := lA x
    exact sbv (by omega) (by omega) (by omega) (by omega)
  have ndJ : (seg (rG J2) (rT J2) 0).Nodup := by
    have e : (LJ J2).map k3 = seg (rG J2) (rT J2) 0 := seg_map _ _ _
    rwa [e] at p2
  have inS : ∀ k, k < rT J2 → (∃ i, i < rT (sR (aZ A)) ∧ rG (sR (aZ A)) i = rG J2 k) ∨ (∃ i, i < rT (sR (aO A)) ∧ rG (sR (aO A)) i = rG J2 k) := fun k hk => by
    rcases (p4 _).mp (kJ k hk) with q | q
    · obtain ⟨i, i1, i2, i3⟩ := (seg_mem _ _).mp q
      exact Or.inl ⟨i, by omega, i3.symm⟩
    · obtain ⟨i, i1, i2, i3⟩ := (seg_mem _ _).mp q
      exact Or.inr ⟨i, by omega, i3.symm⟩
  refine ⟨⟨?_, ?_, ⟨?_, ?_, ?_, fun i j hi hj e => ?_, fun k hk => ?_⟩, ?_⟩, eQ, fun bz bo => ⟨⟨fun k hk => ?_, fun x hx k hk => ?_⟩, fun hlt x hx => ?_⟩⟩
  · show 0 ≤ (sN (aZ A) + sN (aO A)).toInt
    omega
  · show (sN (aZ A) + sN (aO A)).toInt ≤ 99999
    omega
  · rw [eT, eQ]; exact hn1
  · rw [eQ]; exact z3.2.1
  · rw [eQ]; exact z3.2.2.1
  · rw [eT] at hi hj
    rw [eG i hi, eG j hj] at e
    exact seg_dist ndJ i j (by omega) (by omega) e
  · rw [eT] at hk
    rw [eG k hk, eC k hk, eE k hk]
    have hk2 : k < rT J2 := by omega
    rw [vC k hk2, vE k hk2, mlA]
    have a := mz (rG J2 k)
    have b := mo (rG J2 k)
    have c := mA (rG J2 k)
    have d := lA (rG J2 k)
    show _ ∧ _ ∧ _ ∧ _ ∧ _ ≤ (sN (aZ A) + sN (aO A)).toInt
    rw [ev]
    rcases inS k hk2 with ⟨i, i1, i2⟩ | ⟨i, i1, i2⟩
    · have e := a.2.2.2.2 ⟨i, i1, i2⟩
      refine ⟨?_, by omega, by omega, by omega, by omega⟩
      rw [← i2]
      exact (z3.2.2.2.2 i i1).1
    · have e := b.2.2.2.2 ⟨i, i1, i2⟩
      refine ⟨?_, by omega, by omega, by omega, by omega⟩
      rw [← i2]
      exact (o3.2.2.2.2 i i1).1
  · show TB _ (sN (aZ A) + sN (aO A)).toInt
    rw [ev]
    exact t3
  · rw [eT] at hk
    have hk2 : k < rT J2 := by omega
    rw [eG k hk, eC k hk, eE k hk, vC k hk2, vE k hk2, mlA]
    show _ ≤ trT (aaF _ _ _ 0 _) _ ∧ trT (aaF _ _ _ 0 _) _ ≤ _
    rw [t4]
    have a := bt_all z3 z1 z2 (fun z => (tr_nn z4 z1 z).1) bz.1 bz.2 (rG J2 k)
    have b := bt_all o3 o1 o2 (fun z => (tr_nn o4 o1 z).1) bo.1 bo.2 (rG J2 k)
    have c := mA (rG J2 k)
    have d := lA (rG J2 k)
    omega
  · rw [eT] at hk
    have hk2 : k < rT J2 := by omega
    have hx' : ∀ i, i < n → rG J2 i ≠ x := fun i hi e => hx i (by rw [eT]; exact hi) (by rw [eG i hi]; exact e)
    rw [eC k hk, vC k hk2]
    show trT (aaF _ _ _ 0 _) _ ≤ _
    rw [t4]
    have a := bt_all z3 z1 z2 (fun z => (tr_nn z4 z1 z).1) bz.1 bz.2 x
    have b := bt_all o3 o1 o2 (fun z => (tr_nn o4 o1 z).1) bo.1 bo.2 x
    have c := mA (rG J2 k)
    have c2 := mA x
    by_cases hin : x ∈ (LJ J2).map k3
    · have e : (LJ J2).map k3 = seg (rG J2) (rT J2) 0 := seg_map _ _ _
      rw [e] at hin
      obtain ⟨j, j1, j2, j3⟩ := (seg_mem _ _).mp hin
      have hjn : n ≤ j := by
        by_cases q : n ≤ j
        · exact q
        · exact absurd j3.symm (hx' j (by omega))
      have hj2 : j < rT J2 := by omega
      have hkj : k < j := by omega
      have hs : stB (pr3 (rG J2) (rC J2) (rE J2) k) (pr3 (rG J2) (rC J2) (rE J2) j) = true := by
        have g1 := seg_get (f := pr3 (rG J2) (rC J2) (rE J2)) (rT J2) 0 k hk2
        have g2 := seg_get (f := pr3 (rG J2) (rC J2) (rE J2)) (rT J2) 0 j hj2
        rw [Nat.zero_add] at g1 g2
        obtain ⟨l1, e1⟩ := List.getElem?_eq_some_iff.mp g1
        obtain ⟨l2, e2⟩ := List.getElem?_eq_some_iff.mp g2
        have := List.pairwise_iff_getElem.mp p1 k j l1 l2 hkj
        rw [← e1, ← e2]
        exact this
      have h3 := stB_iff.mp hs
      have h4 : (rC J2 j).toInt < (rC J2 k).toInt ∨ ((rC J2 k).toInt = (rC J2 j).toInt ∧ _) := h3
      rw [vC j hj2, vC k hk2, ← j3] at h4
      omega
    · have nz : ∀ i, i < rT (sR (aZ A)) → rG (sR (aZ A)) i ≠ x := fun i hi e => hin ((p4 x).mpr (Or.inl (by rw [← e]; exact seg_in (by omega) (by omega))))
      have no : ∀ i, i < rT (sR (aO A)) → rG (sR (aO A)) i ≠ x := fun i hi e => hin ((p4 x).mpr (Or.inr (by rw [← e]; exact seg_in (by omega) (by omega))))
      rw [mos_x nz] at a
      rw [mos_x no] at b
      have a2 := mz (rG J2 k)
      have b2 := mo (rG J2 k)
      omega
  · rw [eT] at hlt
    rw [eQ] at hlt
    have hnJ : n = rT J2 := by omega
    have hin : x ∉ (LJ J2).map k3 := fun q => by
      have e : (LJ J2).map k3 = seg (rG J2) (rT J2) 0 := seg_map _ _ _
      rw [e] at q
      obtain ⟨j, j1, j2, j3⟩ := (seg_mem _ _).mp q
      exact hx j (by rw [eT]; omega) (by rw [eG j (by omega)]; exact j3.symm)
    have nz : ∀ i, i < rT (sR (aZ A)) → rG (sR (aZ A)) i ≠ x := fun i hi e => hin ((p4 x).mpr (Or.inl (by rw [← e]; exact seg_in (by omega) (by omega))))
    have no : ∀ i, i < rT (sR (aO A)) → rG (sR (aO A)) i ≠ x := fun i hi e => hin ((p4 x).mpr (Or.inr (by rw [← e]; exact seg_in (by omega) (by omega))))
    have lJ : ((LJ J2).map k3).length = rT J2 := by rw [List.length_map]; exact seg_len _ _
    have lz := nd_sub _ ((LJ J2).map k3) (RB_nd z3) (fun y hy => (p4 y).mpr (Or.inl hy))
    have lo := nd_sub _ ((LJ J2).map k3) (RB_nd o3) (fun y hy => (p4 y).mpr (Or.inr hy))
    rw [seg_len, lJ] at lz lo
    show trT (aaF _ _ _ 0 _) _ = 0
    rw [t4, bz.2 (by omega) x nz, bo.2 (by omega) x no]
    rfl
