/-! joining: those that are joined -/
def LJ (J : RowM) : List P3 := seg (pr3 (rG J) (rC J) (rE J)) (rT J) 0
def LQ (q : JQ) : List P3 := seg (pr3 (jG q.1) (jC q.1) (jE q.1)) q.2 0
def k3 (p : P3) : Int32 := p.1
def JI (J : RowM) (q : JQ) (tot : Int) : Prop := (LJ J).Perm (LQ q) ∧ (LJ J).Pairwise (fun a b => stB a b = true) ∧ ((LJ J).map k3).Nodup ∧ ∀ p, p ∈ LJ J → 0 ≤ p.2.2.toInt ∧ p.2.2.toInt ≤ p.2.1.toInt ∧ 1 ≤ p.2.1.toInt ∧ p.2.1.toInt ≤ tot
theorem LJ_ibw {J : RowM} {x y z : Int32} : LJ (ibwR J x y z) = insE stB (pr3 (rG J) (rC J) (rE J)) (x, y, z) (rT J) := by
  have h := (insF_seg (rT J) (upd (rG J) (rT J) x, upd (rC J) (rT J) y, upd (rE J) (rT J) z)).1
  have e : pr3 (upd (rG J) (rT J) x) (upd (rC J) (rT J) y) (upd (rE J) (rT J) z) (rT J) = (x, y, z) := by
    unfold pr3
    rw [upd_at, upd_at, upd_at]
  refine Eq.trans h ?_
  show insE stB (pr3 (upd (rG J) (rT J) x) (upd (rC J) (rT J) y) (upd (rE J) (rT J) z)) (pr3 (upd (rG J) (rT J) x) (upd (rC J) (rT J) y) (upd (rE J) (rT J) z) (rT J)) (rT J) = _
  rw [e]
  exact insE_congr _ (fun j hj => by
    unfold pr3
    rw [upd_n (by omega), upd_n (by omega), upd_n (by omega)])
theorem LR_jg {q : JQ} {y C E : Int32} : seg (pr3 (jG (jgF q.1 q.2 y C E)) (jC (jgF q.1 q.2 y C E)) (jE (jgF q.1 q.2 y C E))) (q.2 + 1) 0 = LQ q ++ [(y, C, E)] := by
  rw [seg_snoc, Nat.zero_add]
  congr 1
  · refine seg_congr _ _ (fun j _ h => ?_)
    show (jgF q.1 q.2 y C E (3 * j), jgF q.1 q.2 y C E (3 * j + 1), jgF q.1 q.2 y C E (3 * j + 2)) = (q.1 (3 * j), q.1 (3 * j + 1), q.1 (3 * j + 2))
    unfold jgF
    rw [upd_n (by omega), upd_n (by omega), upd_n (by omega), upd_n (by omega), upd_n (by omega), upd_n (by omega), upd_n (by omega), upd_n (by omega), upd_n (by omega)]
  · show [(jgF q.1 q.2 y C E (3 * q.2), jgF q.1 q.2 y C E (3 * q.2 + 1), jgF q.1 q.2 y C E (3 * q.2 + 2))] = _
    unfold jgF
    rw [upd_n (by omega), upd_n (by omega), upd_at, upd_n (by omega), upd_at, upd_at]
theorem JI_step {J : RowM} {q : JQ} {tot : Int} {x C E : Int32} (h : JI J q tot) (hx : x ∉ (LJ J).map k3) (hb : 0 ≤ E.toInt ∧ E.toInt ≤ C.toInt ∧ 1 ≤ C.toInt ∧ C.toInt ≤ tot) : JI (ibwR J x C E) (jgF q.1 q.2 x C E, q.2 + 1) tot ∧ ∀ z, z ∈ (LJ (ibwR J x C E)).map k3 ↔ z = x ∨ z ∈ (LJ J).map k3 := by
  obtain ⟨h1, h2, h3, h4⟩ := h
  have hp : (LJ (ibwR J x C E)).Perm ((x, C, E) :: LJ J) := by
    rw [LJ_ibw]
    exact insE_perm _
  have hk : ((LJ (ibwR J x C E)).map k3).Perm (x :: (LJ J).map k3) := hp.map k3
  refine ⟨⟨?_, ?_, ?_, fun p hp2 => ?_⟩, fun z => ?_⟩
  · show (LJ (ibwR J x C E)).Perm (seg (pr3 (jG (jgF q.1 q.2 x C E)) (jC (jgF q.1 q.2 x C E)) (jE (jgF q.1 q.2 x C E))) (q.2 + 1) 0)
    rw [LR_jg]
    exact hp.trans ((h1.cons (x, C, E)).trans (List.perm_append_comm (l₁ := [(x, C, E)]) (l₂ := LQ q)))
  · rw [LJ_ibw]
    refine insE_srt stB_lin _ h2 (fun j hj e => hx ?_)
    have : x = rG J j := congrArg (fun p : P3 => p.1) e
    rw [this]
    exact List.mem_map.mpr ⟨pr3 (rG J) (rC J) (rE J) j, seg_in (by omega) (by omega), rfl⟩
  · exact hk.symm.nodup (List.nodup_cons.mpr ⟨hx, h3⟩)
  · rcases List.mem_cons.mp (hp.mem_iff.mp hp2) with e | e
    · rw [e]
      exact hb
    · exact h4 p e
  · rw [hk.mem_iff, List.mem_cons]
/-- the most and the least of a guest -/
theorem mws_le {c : Nat → Int32} {Q n : Nat} {tot : Int} (h0 : 0 ≤ tot) (hn : n ≤ 12) (hc : ∀ k, k < n → (c k).toInt ≤ tot) : (mwsR c Q n).toInt ≤ tot := by
  have z : (0 : Int32).toInt = 0 := by decide +kernel
  have key : ∀ d k a, k + d = n → (Int32.toInt a) ≤ tot → (fold (fun a k => if c k < a then c k else a) d k a).toInt ≤ tot := by
    intro d
    induction d with
    | zero => intro k a _ ha; exact ha
    | succ d ih =>
      intro k a hk ha
      unfold fold
      refine ih (k + 1) _ (by omega) ?_
      by_cases h : c k < a
      · rw [if_pos h]; exact hc k (by omega)
      · rw [if_neg h]; exact ha
  unfold mwsR
  by_cases h1 : n < Q
  · rw [if_pos h1, z]
    exact h0
  · rw [if_neg h1]
    by_cases hn0 : n = 0
    · subst hn0
      show (at_ c 0 0).toInt ≤ tot
      have : at_ c 0 0 = 0 := by
        unfold at_
        rw [if_neg (by decide +kernel), if_neg (by decide +kernel)]
      rw [this, z]
      exact h0
    · refine key (n - 1) 1 _ (by omega) ?_
      rw [at_0 (by omega) (by omega)]
      exact hc 0 (by omega)
theorem mo_b {S : StrM} {s : Nat → Int32} {t : Nat} (r : RS S s t) (x : Int32) : 0 ≤ (lesR (sR S) x).toInt ∧ (lesR (sR S) x).toInt ≤ (mosR (sR S) x).toInt ∧ (mosR (sR S) x).toInt ≤ (gt s t 0).toInt ∧ (∀ k, k < rT (sR S) → vG s t k = x → 1 ≤ (mosR (sR S) x).toInt) := by
  have hw := r.1
  have n12 := RW_n hw
  have z : (0 : Int32).toInt = 0 := by decide +kernel
  rw [w_mos hw, w_les hw]
  obtain ⟨w1, w2, w3, w4, w5, w6⟩ := hw
  unfold mostR
  rcases seatR_cases (g := vG s t) (t := rT (sR S)) (x := x) with ⟨h1, h2⟩ | ⟨j, j1, j2, h1, h2⟩
  · rw [h2, if_pos rfl]
    have l0 : leastAtR (vC s t) (vE s t) (rT (sR S)) (-6) = 0 := by
      unfold leastAtR
      rw [at_n6, at_n6]
      decide +kernel
    rw [l0, z]
    have m1 := mws_nn (c := vC s t) (Q := rS (sR S)) n12 (fun k hk => by have := w6 k hk; omega)
    have m2 := mws_le (c := vC s t) (Q := rS (sR S)) r.2.2.2.2.2.2.2.1 n12 (fun k hk => by have := w6 k hk; omega)
    refine ⟨Int.le_refl 0, m1, m2, fun k hk e => ?_⟩
    exact absurd (by rw [← e]; exact seg_in (by omega) (by omega)) (seatO_no.mp h1)
  · rw [h2, if_neg (nI_n6 (by omega)), at_nI j1 (by omega), least_nI j1 (by omega)]
    have b := w6 j j1
    rw [sbv (by omega) (by omega)]
    exact ⟨by omega, by omega, by omega, fun _ _ _ => by omega⟩
theorem VA_mos {A : StaM} {s : Nat → Int32} (h : RA A s) (x : Int32) : jgC (VA A s) x = mosR (sR (aZ A)) x + mosR (sR (aO A)) x ∧ jgE (VA A s) x = mosR (sR (aZ A)) x + mosR (sR (aO A)) x - (lesR (sR (aZ A)) x + lesR (sR (aO A)) x) := by
  have z := RA_z h
  have o := RA_o h
  have n0 : nA A 0 = rT (sR (aZ A)) := by unfold nA; rw [st_0]
  have n1 : nA A 1 = rT (sR (aO A)) := by unfold nA; rw [st_1]
  have q1 : QA A = rS (sR (aO A)) := h.2.symm
  have m0 : mosR (sR (aZ (VA A s))) x = mosR (sR (aZ A)) x := by
    rw [w_mos z.1]
    show mostR (vG s 0) (vC s 0) (QA A) (nA A 0) x = _
    rw [n0]
    rfl
  have m1 : mosR (sR (aO (VA A s))) x = mosR (sR (aO A)) x := by
    rw [w_mos o.1]
    show mostR (vG s 1) (vC s 1) (QA A) (nA A 1) x = _
    rw [n1, q1]
  have l0 : lesR (sR (aZ (VA A s))) x = lesR (sR (aZ A)) x := by
    rw [w_les z.1]
    show leastAtR (vC s 0) (vE s 0) (nA A 0) (seatOfR (vG s 0) (nA A 0) x) = _
    rw [n0]
  have l1 : lesR (sR (aO (VA A s))) x = lesR (sR (aO A)) x := by
    rw [w_les o.1]
    show leastAtR (vC s 1) (vE s 1) (nA A 1) (seatOfR (vG s 1) (nA A 1) x) = _
    rw [n1]
  unfold jgE jgC
  rw [m0, m1, l0, l1]
  exact ⟨rfl, Int32.sub_sub _ _ _⟩
theorem JI_guest {A : StaM} {s : Nat → Int32} {J : RowM} {q : JQ} {x : Int32} (h : RA A s) (hj : JI J q ((gt s 0 0).toInt + (gt s 1 0).toInt)) (ht : (gt s 0 0).toInt + (gt s 1 0).toInt ≤ 99999) (hx : x ∉ (LJ J).map k3) (hs : (∃ k, k < rT (sR (aZ A)) ∧ vG s 0 k = x) ∨ (∃ k, k < rT (sR (aO A)) ∧ vG s 1 k = x)) : JI (ijR A J x) (jgQ (VA A s) q x) ((gt s 0 0).toInt + (gt s 1 0).toInt) ∧ ∀ z, z ∈ (LJ (ijR A J x)).map k3 ↔ z = x ∨ z ∈ (LJ J).map k3 := by
  obtain ⟨e1, e2⟩ := VA_mos h x
  obtain ⟨a1, a2, a3, a4⟩ := mo_b (RA_z h) x
  obtain ⟨b1, b2, b3, b4⟩ := mo_b (RA_o h) x
  unfold jgQ ijR
  rw [e1, e2]
  have ec : (mosR (sR (aZ A)) x + mosR (sR (aO A)) x).toInt = (mosR (sR (aZ A)) x).toInt + (mosR (sR (aO A)) x).toInt := adv (by omega) (by omega) (by omega) (by omega)
  have el : (lesR (sR (aZ A)) x + lesR (sR (aO A)) x).toInt = (lesR (sR (aZ A)) x).toInt + (lesR (sR (aO A)) x).toInt := adv (by omega) (by omega) (by omega) (by omega)
  refine JI_step hj hx ?_
  rw [sbv (by omega) (by omega), ec, el]
  have : 1 ≤ (mosR (sR (aZ A)) x).toInt ∨ 1 ≤ (mosR (sR (aO A)) x).toInt := by
    rcases hs with ⟨k, k1, k2⟩ | ⟨k, k1, k2⟩
    · exact Or.inl (a4 k k1 k2)
    · exact Or.inr (b4 k k1 k2)
  omega
theorem jnA_JI {A : StaM} {s : Nat → Int32} (h : RA A s) (ht : (gt s 0 0).toInt + (gt s 1 0).toInt ≤ 99999) : ∀ (d k : Nat) (J : RowM) (q : JQ), k + d = rT (sR (aZ A)) → JI J q ((gt s 0 0).toInt + (gt s 1 0).toInt) → (∀ z, z ∈ (LJ J).map k3 ↔ z ∈ seg (vG s 0) k 0) → JI (jnA A d k J) (jlA (VA A s) (vG s 0) d k q) ((gt s 0 0).toInt + (gt s 1 0).toInt) ∧ ∀ z, z ∈ (LJ (jnA A d k J)).map k3 ↔ z ∈ seg (vG s 0) (rT (sR (aZ A))) 0 := by
  have hw := (RA_z h).1
  intro d
  induction d with
  | zero =>
    intro k J q hk hj hz
    rw [← hk]
    exact ⟨hj, hz⟩
  | succ d ih =>
    intro k J q hk hj hz
    unfold jnA jlA
    have e : rG (sR (aZ A)) k = vG s 0 k := (hw.2.2.2.1 k (by omega)).1
    rw [e]
    obtain ⟨g1, g2⟩ := JI_guest (x := vG s 0 k) h hj ht (fun hm => by
      obtain ⟨j, _, j2, j3⟩ := (seg_mem _ _).mp ((hz _).mp hm)
      have := hw.2.2.2.2.1 k j (by omega) (by omega) j3
      omega) (Or.inl ⟨k, by omega, rfl⟩)
    refine ih (k + 1) _ _ (by omega) g1 (fun z => ?_)
    rw [g2, hz, seg_snoc, Nat.zero_add, List.mem_append, List.mem_singleton]
    exact ⟨fun q => q.elim Or.inr Or.inl, fun q => q.elim Or.inr Or.inl⟩
theorem jnB_JI {A : StaM} {s : Nat → Int32} (h : RA A s) (ht : (gt s 0 0).toInt + (gt s 1 0).toInt ≤ 99999) : ∀ (d k : Nat) (J : RowM) (q : JQ), k + d = rT (sR (aO A)) → JI J q ((gt s 0 0).toInt + (gt s 1 0).toInt) → (∀ z, z ∈ (LJ J).map k3 → z ∈ seg (vG s 0) (rT (sR (aZ A))) 0 ∨ z ∈ seg (vG s 1) k 0) → JI (jnB A d k J) (jlB (VA A s) (vG s 0) (rT (sR (aZ A))) (vG s 1) d k q) ((gt s 0 0).toInt + (gt s 1 0).toInt) := by
  have hz := (RA_z h).1
  have ho := (RA_o h).1
  have n12 := RW_n hz
  intro d
  induction d with
  | zero => intro k J q _ hj _; exact hj
  | succ d ih =>
    intro k J q hk hj hm
    unfold jnB jlB
    have e : rG (sR (aO A)) k = vG s 1 k := (ho.2.2.2.1 k (by omega)).1
    have e2 : seatOfR (rG (sR (aZ A))) (rT (sR (aZ A))) (vG s 1 k) = seatOfR (vG s 0) (rT (sR (aZ A))) (vG s 1 k) := w_seat hz
    rw [e, e2]
    by_cases hc : seatOfR (vG s 0) (rT (sR (aZ A))) (vG s 1 k) = -6
    · rw [if_pos hc, if_pos hc]
      obtain ⟨g1, g2⟩ := JI_guest (x := vG s 1 k) h hj ht (fun hx => by
        rcases hm _ hx with q1 | q1
        · exact (seatR_no (by omega)).mp hc q1
        · obtain ⟨j, _, j2, j3⟩ := (seg_mem _ _).mp q1
          have := ho.2.2.2.2.1 k j (by omega) (by omega) j3
          omega) (Or.inr ⟨k, by omega, rfl⟩)
      refine ih (k + 1) _ _ (by omega) g1 (fun z hz2 => ?_)
      rw [seg_snoc, Nat.zero_add, List.mem_append, List.mem_singleton]
      rcases (g2 z).mp hz2 with q1 | q1
      · exact Or.inr (Or.inr q1)
      · rcases hm z q1 with q2 | q2
        · exact Or.inl q2
        · exact Or.inr (Or.inl q2)
    · rw [if_neg hc, if_neg hc]
      refine ih (k + 1) _ _ (by omega) hj (fun z hz2 => ?_)
      rw [seg_snoc, Nat.zero_add, List.mem_append, List.mem_singleton]
      rcases hm z hz2 with q2 | q2
      · exact Or.inl q2
      · exact Or.inr (Or.inl q2)
theorem jn_JI {A : StaM} {s : Nat → Int32} {J : RowM} {j0 : Nat → Int32} (h : RA A s) (ht : (gt s 0 0).toInt + (gt s 1 0).toInt ≤ 99999) : JI (jnJ A J) (rjQ j0 (VA A s)) ((gt s 0 0).toInt + (gt s 1 0).toInt) := by
  have n0 : nA A 0 = rT (sR (aZ A)) := by unfold nA; rw [st_0]
  have n1 : nA A 1 = rT (sR (aO A)) := by unfold nA; rw [st_1]
  have hi : JI (clrR J) (j0, 0) ((gt s 0 0).toInt + (gt s 1 0).toInt) := ⟨List.Perm.refl _, List.Pairwise.nil, List.Pairwise.nil, fun p hp => by cases hp⟩
  obtain ⟨a1, a2⟩ := jnA_JI h ht (rT (sR (aZ A))) 0 (clrR J) (j0, 0) (by omega) hi (fun z => Iff.rfl)
  have b := jnB_JI h ht (rT (sR (aO A))) 0 _ _ (by omega) a1 (fun z hz => Or.inl ((a2 z).mp hz))
  unfold jnJ
  have e : rjQ j0 (VA A s) = jlB (VA A s) (vG s 0) (rT (sR (aZ A))) (vG s 1) (rT (sR (aO A))) 0 (jlA (VA A s) (vG s 0) (rT (sR (aZ A))) 0 (j0, 0)) := by
    rw [← n0, ← n1]
    rfl
  rw [e]
  exact b
