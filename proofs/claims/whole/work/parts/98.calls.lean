/-! each call: the class's answer is the reference's, and the relation stays -/
def St (x : Nat) (nn : Nat × Nat) (σ : Hp) : Prop := ∃ (A : StaM) (pm : Nat → Nat) (sz : Nat) (S L : Nat → StaM) (u : Nat → Bool) (P : PadM) (O : OrdM) (J : RowM) (μ : ModM), Sys x A pm sz S L u P O J μ nn σ ∧ RelM A pm sz S L u P μ
def Op (x : Nat) (nn : Nat × Nat) (σ : Hp) (yc : Nat) (lc : List Value) (ym : Nat) (lm : List Value) : Prop := ∃ (v : Int32) (σ1 σ2 : Hp), St x nn σ2 ∧ okO σ1 (x + 166) 9 = true ∧ (∀ K : Option Value → Hp → Prop, X yc 0 lc [] σ K = K (some (.int v)) σ1) ∧ (∀ K : Option Value → Hp → Prop, X ym 0 lm [] σ1 K = K (some (.int v)) σ2)
theorem op_w {μ2 : ModM} {v : Int32} {yc ym : Nat} {lc lm : List Value} {σ σ1 : Hp} {x : Nat} {nn : Nat × Nat} {A : StaM} {pm : Nat → Nat} {sz : Nat} {S L : Nat → StaM} {u : Nat → Bool} {P : PadM} {O : OrdM} {J : RowM} {μ : ModM} (h : Sys x A pm sz S L u P O J μ nn σ1) (r : RelM A pm sz S L u P μ2) (hc : ∀ K : Option Value → Hp → Prop, X yc 0 lc [] σ K = K (some (.int v)) σ1) (hm : ∀ K : Option Value → Hp → Prop, X ym 0 lm [] σ1 K = K (some (.int v)) (modPut (x + 166) μ2 σ1)) : Op x nn σ yc lc ym lm := ⟨v, σ1, _, ⟨A, pm, sz, S, L, u, P, O, J, μ2, sysM h, r⟩, (mdF (ysM h)).1, hc, hm⟩
theorem op_q {v : Int32} {yc ym : Nat} {lc lm : List Value} {σ σ1 : Hp} {x : Nat} {nn : Nat × Nat} {A : StaM} {pm : Nat → Nat} {sz : Nat} {S L : Nat → StaM} {u : Nat → Bool} {P : PadM} {O : OrdM} {J : RowM} {μ : ModM} (h : Sys x A pm sz S L u P O J μ nn σ1) (r : RelM A pm sz S L u P μ) (hc : ∀ K : Option Value → Hp → Prop, X yc 0 lc [] σ K = K (some (.int v)) σ1) (hm : ∀ K : Option Value → Hp → Prop, X ym 0 lm [] σ1 K = K (some (.int v)) σ1) : Op x nn σ yc lc ym lm := ⟨v, σ1, σ1, ⟨A, pm, sz, S, L, u, P, O, J, μ, h, r⟩, (mdF (ysM h)).1, hc, hm⟩
theorem c85 {s i w : Int32} {x : Nat} {nn : Nat × Nat} {σ : Hp} (hst : St x nn σ) : Op x nn σ 85 [.ref x, .int s, .int i, .int w, .null] 141 [.ref (x + 166), .int s, .int i, .int w] := by
  obtain ⟨A, pm, sz, S, L, u, P, O, J, μ, h, r⟩ := hst
  refine op_q h r (fun K => e85 h (RA_ok r.1)) (fun K => ?_)
  rw [Q85 r.1]
  exact e141 (n := nA A) (N := NA A) (S := QA A) (ysM h) (RA_rv r.1)
theorem c86 {s y w : Int32} {x : Nat} {nn : Nat × Nat} {σ : Hp} (hst : St x nn σ) : Op x nn σ 86 [.ref x, .int s, .int y, .int w, .null, .null] 143 [.ref (x + 166), .int s, .int y, .int w] := by
  obtain ⟨A, pm, sz, S, L, u, P, O, J, μ, h, r⟩ := hst
  refine op_q h r (fun K => e86 h (RA_ok r.1)) (fun K => ?_)
  rw [Q86 r.1]
  exact e143 (n := nA A) (N := NA A) (S := QA A) (ysM h) (RA_rv r.1)
theorem c87 {s w : Int32} {x : Nat} {nn : Nat × Nat} {σ : Hp} (hst : St x nn σ) : Op x nn σ 87 [.ref x, .int s, .int w, .null] 146 [.ref (x + 166), .int s, .int w] := by
  obtain ⟨A, pm, sz, S, L, u, P, O, J, μ, h, r⟩ := hst
  refine op_q h r (fun K => e87 h (RA_ok r.1)) (fun K => ?_)
  rw [Q87 r.1]
  exact e146 (n := nA A) (N := NA A) (S := QA A) (ysM h) (RA_rv r.1)
theorem c88 {w : Int32} {x : Nat} {nn : Nat × Nat} {σ : Hp} (hst : St x nn σ) : Op x nn σ 88 [.ref x, .int w] 147 [.ref (x + 166), .int w] := by
  obtain ⟨A, pm, sz, S, L, u, P, O, J, μ, h, r⟩ := hst
  refine op_q h r (fun K => e88 h (RA_ok r.1)) (fun K => ?_)
  rw [Q88 (n := kum μ) (P2 := (kp μ, kpn μ)) r.1 r.2.2.1 r.2.2.2.2.2.2.1]
  exact e147 (n := nA A) (N := NA A) (S := QA A) (ysM h) (RA_rv r.1)
theorem c89 {s y w : Int32} {x : Nat} {nn : Nat × Nat} {σ : Hp} (hst : St x nn σ) : Op x nn σ 89 [.ref x, .int s, .int y, .int w, .null, .null] 148 [.ref (x + 166), .int s, .int y, .int w, .null, .null, .null, .null] := by
  obtain ⟨A, pm, sz, S, L, u, P, O, J, μ, h, r⟩ := hst
  refine op_q h r (fun K => e89 h (RA_ok r.1)) (fun K => ?_)
  rw [Q89 r.1]
  exact e148 (n := nA A) (N := NA A) (S := QA A) (ysM h) (RA_rv r.1)
theorem rv_c {A : StaM} {s : Nat → Int32} (h : RA A s) {t : Nat} (ht : t < 2) : (∀ k, k < nA A t → 0 ≤ (vC s t k).toInt) ∧ (∀ k, k < nA A t → 0 ≤ (vE s t k).toInt) ∧ (∀ k, k < NA A t → 0 ≤ (vD s t k).toInt) := by
  have rs := h.1 t ht
  refine ⟨(RA_rv h t ht).2.2.2.2.2.2.2, RS_he rs, fun k hk => ?_⟩
  have := rs.2.1.2.2.2.2 (pr2 (vH s t) (vD s t) k) (rs.2.1.2.1.mem_iff.mp (seg_in (by omega) (by show k < 0 + tN (sT (stOf A (nI t))); rw [Nat.zero_add]; exact hk)))
  have e : (pr2 (vH s t) (vD s t) k).2 = vD s t k := rfl
  rw [e] at this
  omega
theorem c90 {s i : Int32} {x : Nat} {nn : Nat × Nat} {σ : Hp} (hst : St x nn σ) : Op x nn σ 90 [.ref x, .int s, .int i, .null] 151 [.ref (x + 166), .int s, .int i] := by
  obtain ⟨A, pm, sz, S, L, u, P, O, J, μ, h, r⟩ := hst
  refine op_q h r (fun K => e90 h (RA_ok r.1)) (fun K => ?_)
  cases hs : isSt s
  · have e : f90 A s i = -1 := by
      unfold f90
      rw [hs, if_neg Bool.false_ne_true]
    rw [e]
    exact d151a (ysM h) hs
  · obtain ⟨t, ht, rfl⟩ := st_cases hs
    obtain ⟨o1, o2, o3, o4, o5, o6, o7, o8⟩ := RA_rv r.1 t ht
    obtain ⟨a1, a2, a3⟩ := rv_c r.1 ht
    rw [Q90 r.1 ht]
    exact d151b (ysM h) ht o1 (by omega) a1 a2
theorem c91 {s i : Int32} {x : Nat} {nn : Nat × Nat} {σ : Hp} (hst : St x nn σ) : Op x nn σ 91 [.ref x, .int s, .int i, .null] 153 [.ref (x + 166), .int s, .int i, .null] := by
  obtain ⟨A, pm, sz, S, L, u, P, O, J, μ, h, r⟩ := hst
  refine op_q h r (fun K => e91 h (RA_ok r.1)) (fun K => ?_)
  cases hs : isSt s
  · have e : f91 A s i = -1 := by
      unfold f91
      rw [hs, if_neg Bool.false_ne_true]
    rw [e]
    exact d153a (ysM h) hs
  · obtain ⟨t, ht, rfl⟩ := st_cases hs
    obtain ⟨o1, o2, o3, o4, o5, o6, o7, o8⟩ := RA_rv r.1 t ht
    obtain ⟨a1, a2, a3⟩ := rv_c r.1 ht
    rw [Q91 r.1 ht]
    exact d153b (ysM h) ht o6 o7 a3
theorem c92 {s : Int32} {x : Nat} {nn : Nat × Nat} {σ : Hp} (hst : St x nn σ) : Op x nn σ 92 [.ref x, .int s] 154 [.ref (x + 166), .int s, .null, .null, .null, .null, .null] := by
  obtain ⟨A, pm, sz, S, L, u, P, O, J, μ, h, r⟩ := hst
  refine op_q h r (fun K => e92 h (RA_ok r.1)) (fun K => ?_)
  cases hs : isSt s
  · have e : f92 A s = -1 := by
      unfold f92
      rw [hs, if_neg Bool.false_ne_true]
    rw [e]
    exact d154a (ysM h) hs
  · obtain ⟨t, ht, rfl⟩ := st_cases hs
    obtain ⟨a1, a2, a3⟩ := rv_c r.1 ht
    rw [Q92 r.1 ht]
    exact d154b (ysM h) ht (RA_rv r.1 t ht) a2
theorem c93 {s y : Int32} {x : Nat} {nn : Nat × Nat} {σ : Hp} (hst : St x nn σ) : Op x nn σ 93 [.ref x, .int s, .int y, .null] 155 [.ref (x + 166), .int s, .int y] := by
  obtain ⟨A, pm, sz, S, L, u, P, O, J, μ, h, r⟩ := hst
  refine op_q h r (fun K => e93 h (RA_ok r.1)) (fun K => ?_)
  rw [Q93 r.1]
  exact e155 (n := nA A) (N := NA A) (S := QA A) (ysM h) (RA_rv r.1)
theorem c94 {s y : Int32} {x : Nat} {nn : Nat × Nat} {σ : Hp} (hst : St x nn σ) : Op x nn σ 94 [.ref x, .int s, .int y, .null, .null] 156 [.ref (x + 166), .int s, .int y] := by
  obtain ⟨A, pm, sz, S, L, u, P, O, J, μ, h, r⟩ := hst
  refine op_q h r (fun K => e94 h (RA_ok r.1)) (fun K => ?_)
  rw [Q94 r.1]
  exact e156 (n := nA A) (N := NA A) (S := QA A) (ysM h) (RA_rv r.1)
theorem c81 {y : Int32} {x : Nat} {nn : Nat × Nat} {σ : Hp} (hst : St x nn σ) : Op x nn σ 81 [.ref x, .int y, .null] 131 [.ref (x + 166), .int y, .null, .null] := by
  obtain ⟨A, pm, sz, S, L, u, P, O, J, μ, h, r⟩ := hst
  have b := ysB h
  cases hb : bdS y
  · obtain ⟨m, m1, m2, rfl⟩ := bd_nn hb
    obtain ⟨σ1, h1, p1⟩ := d81b h (RA_ok r.1) m1 m2
    have rv0 := RA_rv r.1 0 (by omega)
    have rv1 := RA_rv r.1 1 (by omega)
    have rr := rel_rec b.2.1 r
    refine op_w (μ2 := ws (rcM μ) (stF (ks μ) m (nA A 0) (nA A 1))) h1 (rel_A rr ⟨rfl, rfl, rfl, rfl, rfl, rfl⟩ (RA_seats r.1 m1 m2)) p1 (fun K => ?_)
    have k6 : kum μ ≤ 6 := by rw [r.2.2.1]; exact b.2.1
    exact d131b (S := QA A) (n0 := nA A 0) (n1 := nA A 1) (ysM h1) k6 m1 m2 rv0.2.2.2.2.1 rv0.1 rv1.1 (by have := rv0.2.1; have := rv0.2.2.2.1; omega) (by have := rv1.2.1; have := rv1.2.2.2.1; omega)
  · refine op_q h r (fun K => d81a h hb) (fun K => ?_)
    exact d131a (ysM h) (by rw [bd_in, hb]; rfl)
theorem c82 {s y z : Int32} {x : Nat} {nn : Nat × Nat} {σ : Hp} (hst : St x nn σ) : Op x nn σ 82 [.ref x, .int s, .int y, .int z, .null] 133 [.ref (x + 166), .int s, .int y, .int z, .null] := by
  obtain ⟨A, pm, sz, S, L, u, P, O, J, μ, h, r⟩ := hst
  have b := ysB h
  have k6 : kum μ ≤ 6 := by rw [r.2.2.1]; exact b.2.1
  cases hs : isSt s
  · refine op_q h r (fun K => d82a h (RA_ok r.1) (fun q => by rw [hs] at q; cases q)) (fun K => ?_)
    rw [hs, if_neg Bool.false_ne_true]
    exact d133a (ysM h) hs
  · obtain ⟨t, ht, rfl⟩ := st_cases hs
    have rv := RA_rv r.1 t ht
    by_cases he : errC (stOf A (nI t)) y z = 0
    · obtain ⟨σ1, h1, p1⟩ := d82b h (RA_ok r.1) hs he
      have rr := rel_rec b.2.1 r
      refine op_w (μ2 := ws (rcM μ) (cmF (ks μ) t (nA A t) (NA A t) (QA A) y z)) h1 (rel_A rr ⟨rfl, rfl, rfl, rfl, rfl, rfl⟩ (RA_come r.1 ht he)) p1 (fun K => ?_)
      have e : sefN (sR (stOf A (nI t))) y = sefN (vR (ks μ) t (nA A t) (QA A)) y := by
        rw [w_sefN (r.1.1 t ht).1, RA_q r.1 ht]
        rfl
      rw [e]
      exact d133c (ysM h1) ht rv k6 (by rw [errC_V r.1 ht]; exact he)
    · refine op_q h r (fun K => d82a h (RA_ok r.1) (fun _ => he)) (fun K => ?_)
      rw [hs, if_pos rfl, ← errC_V r.1 ht]
      exact d133b (ysM h) ht rv (by rw [errC_V r.1 ht]; exact he)
theorem c83 {s : Int32} {x : Nat} {nn : Nat × Nat} {σ : Hp} (hst : St x nn σ) : Op x nn σ 83 [.ref x, .int s] 135 [.ref (x + 166), .int s] := by
  obtain ⟨A, pm, sz, S, L, u, P, O, J, μ, h, r⟩ := hst
  have b := ysB h
  have k6 : kum μ ≤ 6 := by rw [r.2.2.1]; exact b.2.1
  cases hs : isSt s
  · exact op_q h r (fun K => d83a h hs) (fun K => d135a (ysM h) hs)
  · obtain ⟨t, ht, rfl⟩ := st_cases hs
    obtain ⟨σ1, h1, p1⟩ := d83b h (RA_ok r.1) hs
    have rr := rel_rec b.2.1 r
    refine op_w (μ2 := ws (rcM μ) (ageM (ks μ) t (nA A t) (NA A t))) h1 (rel_A rr ⟨rfl, rfl, rfl, rfl, rfl, rfl⟩ (RA_age r.1 ht)) p1 (fun K => ?_)
    rw [(r.1.1 t ht).2.2.2.2.2.1]
    exact d135b (ysM h1) ht k6 (RA_rv r.1 t ht)
theorem c84 {x : Nat} {nn : Nat × Nat} {σ : Hp} (hst : St x nn σ) : Op x nn σ 84 [.ref x, .null] 140 [.ref (x + 166)] := by
  obtain ⟨A, pm, sz, S, L, u, P, O, J, μ, h, r⟩ := hst
  have b := ysB h
  have k6 : kum μ ≤ 6 := by rw [r.2.2.1]; exact b.2.1
  have eJ : errJ (vB (ks μ) (nA A) (NA A) (QA A)) = errJ A := (QJ r.1).symm
  by_cases he : errJ A = 0
  · obtain ⟨c1, c2, c3, c4⟩ := RA_join (J := J) (j0 := kj μ) r.1 he
    obtain ⟨σ1, h1, p1⟩ := d84b h (RA_ok r.1) he c1
    have rr := rel_rec b.2.1 r
    have ht := (errJ_in r.1 he).1
    have pp := JI_pos (jn_JI (J := J) (j0 := kj μ) r.1 ht)
    refine op_w (μ2 := ws (wJ (rcM μ) (rjQ (kj μ) (VA A (ks μ))).1 (rjQ (kj μ) (VA A (ks μ))).2) (rjS (ks μ) (NA A 0) (NA A 1) (QA A) (rjQ (kj μ) (VA A (ks μ))).1 (rjQ (kj μ) (VA A (ks μ))).2)) h1 (rel_A rr ⟨rfl, rfl, rfl, rfl, rfl, rfl⟩ c3) p1 (fun K => ?_)
    exact d140b (n := nA A) (N := NA A) (S := QA A) (ysM h1) (RA_rv r.1) k6 (eJ.trans he) c2 (fun k hk => (pp k hk).1) (fun k hk => (pp k hk).2) c4
  · refine op_q h r (fun K => d84a h (RA_ok r.1) he) (fun K => ?_)
    rw [errJ_v he]
    exact d140a (n := nA A) (N := NA A) (S := QA A) (ysM h) (RA_rv r.1) (by rw [eJ]; exact he)
theorem c95 {z : Int64} {x : Nat} {nn : Nat × Nat} {σ : Hp} (hst : St x nn σ) : Op x nn σ 95 [.ref x, .long z, .double 0, .null, .null] 157 [.ref (x + 166), .long z, .double 0, .null, .null, .null, .null, .null] := by
  obtain ⟨A, pm, sz, S, L, u, P, O, J, μ, h, r⟩ := hst
  have b := ysB h
  have e7 : kpn μ = P.2 := r.2.2.2.2.2.2.1
  by_cases h0 : numS 8 z 0 = 0
  · exact op_q h r (fun K => d95a h h0) (fun K => d157a (ysM h) h0)
  · by_cases hl : P.2 + numS 8 z 0 ≤ 80
    · obtain ⟨σ1, h1, p1⟩ := d95b h h0 hl
      refine op_w (μ2 := wpn (wp μ (putF z (numS 8 z 0) (kp μ, kpn μ)).1) (kpn μ + numS 8 z 0)) h1 (rel_P r ⟨rfl, rfl, rfl, rfl, rfl⟩ ?_ (fun k hk => ?_)) p1 (fun K => ?_)
      · rw [putF_2, ← e7]
        rfl
      · rw [putF_2] at hk
        exact putF_cg (numS 8 z 0) P (kp μ, kpn μ) e7 r.2.2.2.2.2.2.2 k hk
      · rw [← e7]
        exact d157b (ysM h1) h0 (by rw [e7]; exact hl)
    · refine op_q h r (fun K => d95c h h0 (by omega)) (fun K => d157c (ysM h) h0 (by rw [e7]; exact b.2.2.1) (by rw [e7]; omega))
theorem c96 {x : Nat} {nn : Nat × Nat} {σ : Hp} (hst : St x nn σ) : Op x nn σ 96 [.ref x, .null] 158 [.ref (x + 166), .null] := by
  obtain ⟨A, pm, sz, S, L, u, P, O, J, μ, h, r⟩ := hst
  obtain ⟨σ1, h1, p1⟩ := d96 h
  refine op_w (μ2 := wpn μ 0) h1 (rel_P r ⟨rfl, rfl, rfl, rfl, rfl⟩ rfl (fun k hk => absurd hk (Nat.not_lt_zero k))) p1 (fun K => ?_)
  rw [← r.2.2.2.2.2.2.1]
  exact q158 (ysM h1)
theorem flt_eq {x : Nat} {nn : Nat × Nat} {A : StaM} {pm : Nat → Nat} {sz : Nat} {S L : Nat → StaM} {u : Nat → Bool} {P : PadM} {O : OrdM} {J : RowM} {μ : ModM} (r : RelM A pm sz S L u P μ) : (flt P).1 = rdA (rdS (kp μ) (kpn μ) (ko μ)) := by
  rw [← flt_rd, r.2.2.2.2.2.2.1]
  unfold flt
  rw [flt_cg (p2 := kp μ) P.2 0 ordB (fun j _ hj => (r.2.2.2.2.2.2.2 j (by omega)).symm)]
theorem c97 {x : Nat} {nn : Nat × Nat} {σ : Hp} (hst : St x nn σ) : Op x nn σ 97 [.ref x, .null] 165 [.ref (x + 166)] := by
  obtain ⟨A, pm, sz, S, L, u, P, O, J, μ, h, r⟩ := hst
  have b := ysB h
  obtain ⟨σ1, h1, p1⟩ := d97 h
  refine op_w (μ2 := rdM μ) h1 (rel_A r ⟨rfl, rfl, rfl, rfl, rfl, rfl⟩ r.1) p1 (fun K => ?_)
  rw [flt_eq (x := x) (nn := nn) (O := O) (J := J) r]
  exact e165 (ysM h1) (by rw [r.2.2.2.2.2.2.1]; exact b.2.2.1)
theorem ko_rcM {μ : ModM} : ko (rcM μ) = ko μ := by
  unfold rcM
  split <;> rfl
theorem kon_rcM {μ : ModM} : kon (rcM μ) = kon μ := by
  unfold rcM
  split <;> rfl
theorem c98 {x : Nat} {nn : Nat × Nat} {σ : Hp} (hst : St x nn σ) : Op x nn σ 98 [.ref x, .null, .null, .null] 167 [.ref (x + 166), .null] := by
  obtain ⟨A, pm, sz, S, L, u, P, O, J, μ, h, r⟩ := hst
  have b := ysB h
  have k6 : kum μ ≤ 6 := by rw [r.2.2.1]; exact b.2.1
  have e7 : kpn μ = P.2 := r.2.2.2.2.2.2.1
  have k80 : kpn μ ≤ 80 := by rw [e7]; exact b.2.2.1
  have ef := flt_eq (x := x) (nn := nn) (O := O) (J := J) r
  by_cases hf : (flt P).1 = -6
  · obtain ⟨σ1, h1, p1⟩ := d98b (I := fun A => ∃ s, RA A s) (fun A hA => I_ok hA) (fun A J O hA _ => I_co hA) h ⟨ks μ, r.1⟩ hf
    have hr : rdA (rdS (kp μ) (kpn μ) (ko μ)) = -6 := ef.symm.trans hf
    obtain ⟨Ls, t1, t2, t3⟩ := rd_tr k80 hr
    have tc := rd_c (p := kp μ) (n := kpn μ) (o := ko μ)
    have rr : RelM A (remP pm sz) (remZ sz + 1) (updN S (remP pm sz (remZ sz)) A) L u P (rcM (rdM μ)) := rel_rec b.2.1 (rel_A r ⟨rfl, rfl, rfl, rfl, rfl, rfl⟩ r.1)
    have kk : ks (wpn (rcM (rdM μ)) 0) = ks μ := by
      show ks (rcM (rdM μ)) = _
      rw [ks_rcM]
      rfl
    have kn : kon (wpn (rcM (rdM μ)) 0) = (rdS (kp μ) (kpn μ) (ko μ)).2.2.2 := by
      show kon (rcM (rdM μ)) = _
      rw [kon_rcM]
      rfl
    have ko' : ko (wpn (rcM (rdM μ)) 0) = (rdS (kp μ) (kpn μ) (ko μ)).2.2.1 := by
      show ko (rcM (rdM μ)) = _
      rw [ko_rcM]
      rfl
    obtain ⟨μ2, b1, b2, b3⟩ := l167r Ls 0 A J (wpn (rcM (rdM μ)) 0) (by rw [kk]; exact r.1) (by rw [kn, t2, Nat.zero_add]) (by rw [kn]; omega) (fun k hk => by rw [ko', Nat.zero_add]; exact t3 k hk) (tr_ok Ls 0 t1)
    have ct := co_tr Ls 0 0 A J t1
    rw [e7, Nat.sub_zero] at ct
    have cc : coF P.1 P.2 (P.2 + 1) 0 0 A J ordB = coF (kp μ) P.2 (P.2 + 1) 0 0 A J ordB := co_cg (fun j hj => (r.2.2.2.2.2.2.2 j hj).symm) _ _ _ _ _ _
    have e1 : (co A P J).1 = (exL Ls 0 A J).1 := by
      unfold co
      rw [cc, ← ct]
    have e2 : (co A P J).2.1 = (exL Ls 0 A J).2.1 := by
      unfold co
      rw [cc, ← ct]
    rw [e2] at h1
    rw [e1] at p1
    refine op_w (μ2 := μ2) h1 (rel_A (P := (P.1, 0)) (μ := wpn (rcM (rdM μ)) 0) (A := A) (rel_P rr ⟨rfl, rfl, rfl, rfl, rfl⟩ rfl (fun k hk => absurd hk (Nat.not_lt_zero k))) b2 b1) p1 (fun K => ?_)
    have q := b3 (x + 166) (modPut (x + 166) (wpn (rcM (rdM μ)) 0) σ1) K modAP
    rw [modPP, nI_0] at q
    rw [o167 (ysM h1) k80 k6 hr, q]
  · obtain ⟨σ1, h1, p1⟩ := d98a h hf
    refine op_w (μ2 := rdM μ) h1 (rel_A r ⟨rfl, rfl, rfl, rfl, rfl, rfl⟩ r.1) p1 (fun K => ?_)
    exact d167a (ysM h1) k80 (by rw [← ef]; exact hf)
theorem c99 {x : Nat} {nn : Nat × Nat} {σ : Hp} (hst : St x nn σ) : Op x nn σ 99 [.ref x] 168 [.ref (x + 166), .null] := by
  obtain ⟨A, pm, sz, S, L, u, P, O, J, μ, h, r⟩ := hst
  have b := ysB h
  have e3 : kum μ = sz := r.2.2.1
  by_cases hz : sz = 0
  · exact op_q h r (fun K => d99a h hz) (fun K => d168a (ysM h) (e3.trans hz))
  · obtain ⟨σ1, h1, p1⟩ := d99b h (by omega)
    refine op_w h1 (rel_undo r (by omega)) p1 (fun K => ?_)
    have := d168b (K := K) (ysM h1) (by rw [e3]; exact b.2.1) (by rw [e3]; exact hz)
    rw [e3] at this
    exact this
theorem c100 {y : Int32} {x : Nat} {nn : Nat × Nat} {σ : Hp} (hst : St x nn σ) : Op x nn σ 100 [.ref x, .int y] 169 [.ref (x + 166), .int y, .null] := by
  obtain ⟨A, pm, sz, S, L, u, P, O, J, μ, h, r⟩ := hst
  cases hs : isSl y
  · exact op_q h r (fun K => d100a h hs) (fun K => d169a (ysM h) (by rw [← sl_st]; exact hs))
  · obtain ⟨k, hk, rfl⟩ := isSl_nn hs
    obtain ⟨σ1, h1, p1⟩ := d100b h hk
    refine op_w h1 (rel_save r hk) p1 (fun K => ?_)
    rw [(RA_z r.1).2.2.2.2.2.1]
    exact d169b (ysM h1) hk
theorem c101 {y : Int32} {x : Nat} {nn : Nat × Nat} {σ : Hp} (hst : St x nn σ) : Op x nn σ 101 [.ref x, .int y] 170 [.ref (x + 166), .int y, .null] := by
  obtain ⟨A, pm, sz, S, L, u, P, O, J, μ, h, r⟩ := hst
  have b := ysB h
  have k6 : kum μ ≤ 6 := by rw [r.2.2.1]; exact b.2.1
  cases hs : isSl y
  · exact op_q h r (fun K => d101a h hs) (fun K => d170a (ysM h) (by rw [← sl_st]; exact hs))
  · obtain ⟨k, hk, rfl⟩ := isSl_nn hs
    have e5 := r.2.2.2.2.1 k hk
    cases hu : u k
    · exact op_q h r (fun K => d101c h hk hu) (fun K => d170b (ysM h) hk (by rw [e5, hu]; rfl))
    · obtain ⟨σ1, h1, p1⟩ := d101b h hk hu
      have ra := ra_back r hk hu
      refine op_w (μ2 := ws (rcM μ) (tkU (ksl μ) (321 * k) 321 0 (ks μ))) h1 (rel_A (rel_rec b.2.1 r) ⟨rfl, rfl, rfl, rfl, rfl, rfl⟩ (by rw [ks_ws]; exact ra)) p1 (fun K => ?_)
      rw [(RA_z ra).2.2.2.2.2.1]
      exact d170c (ysM h1) hk k6 (by rw [e5, hu, bI_t]; exact (by decide +kernel : ¬ (1 : Int32) = 0))
