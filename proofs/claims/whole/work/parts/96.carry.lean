/-! carrying out: the reference goes on as the class does -/
def smM (μ μ2 : ModM) : Prop := ku μ2 = ku μ ∧ kum μ2 = kum μ ∧ ksl μ2 = ksl μ ∧ khs μ2 = khs μ ∧ kp μ2 = kp μ ∧ kpn μ2 = kpn μ
theorem smM_r {μ : ModM} : smM μ μ := ⟨rfl, rfl, rfl, rfl, rfl, rfl⟩
theorem smM_t {a b c : ModM} (h : smM a b) (h2 : smM b c) : smM a c := ⟨h2.1.trans h.1, h2.2.1.trans h.2.1, h2.2.2.1.trans h.2.2.1, h2.2.2.2.1.trans h.2.2.2.1, h2.2.2.2.2.1.trans h.2.2.2.2.1, h2.2.2.2.2.2.trans h.2.2.2.2.2⟩
theorem errC_V {A : StaM} {s : Nat → Int32} {t : Nat} {y z : Int32} (h : RA A s) (ht : t < 2) : errC (vS s t (nA A t) (NA A t) (QA A)) y z = errC (stOf A (nI t)) y z := by
  rw [← RA_q h ht]
  exact (QC (h.1 t ht)).symm
theorem s166 {A : StaM} {J : RowM} {μ : ModM} {w : P3} (h : RA A (ks μ)) (hw : okOr w) : (∃ μ1 : ModM, (exW A J w).1 = 0 ∧ RA (exW A J w).2.1 (ks μ1) ∧ smM μ μ1 ∧ kon μ1 = kon μ ∧ ko μ1 = ko μ ∧ ∀ (m : Nat) (σ : Hp) (K : Option Value → Hp → Prop), modAt m μ σ → X 166 0 [.ref m, .int w.1, .int w.2.1, .int w.2.2] [] σ K = K (some (.int 1)) (modPut m μ1 σ)) ∨ (¬ (exW A J w).1 = 0 ∧ (exW A J w).2.1 = A ∧ ∀ (m : Nat) (σ : Hp) (K : Option Value → Hp → Prop), modAt m μ σ → X 166 0 [.ref m, .int w.1, .int w.2.1, .int w.2.2] [] σ K = K (some (.int 0)) σ) := by
  have hv := RA_rv h
  rcases hw with q | ⟨q1, q2⟩ | q
  · unfold exW
    rw [if_pos q]
    have eJ : errJ (vB (ks μ) (nA A) (NA A) (QA A)) = errJ A := (QJ h).symm
    by_cases he : errJ A = 0
    · rw [if_pos he]
      obtain ⟨c1, c2, c3, c4⟩ := RA_join (J := J) (j0 := kj μ) h he
      have ht := (errJ_in h he).1
      have ji := jn_JI (J := J) (j0 := kj μ) h ht
      have pp := JI_pos ji
      refine Or.inl ⟨ws (wJ μ (rjQ (kj μ) (VA A (ks μ))).1 (rjQ (kj μ) (VA A (ks μ))).2) (rjS (ks μ) (NA A 0) (NA A 1) (QA A) (rjQ (kj μ) (VA A (ks μ))).1 (rjQ (kj μ) (VA A (ks μ))).2), rfl, c3, ⟨rfl, rfl, rfl, rfl, rfl, rfl⟩, rfl, rfl, fun m σ K hm => ?_⟩
      rw [q]
      exact d166jb (n := nA A) (N := NA A) (S := QA A) hm hv (eJ.trans he) c2 (fun k hk => (pp k hk).1) (fun k hk => (pp k hk).2)
    · rw [if_neg he]
      refine Or.inr ⟨he, rfl, fun m σ K hm => ?_⟩
      rw [q]
      exact d166ja (n := nA A) (N := NA A) (S := QA A) hm hv (by rw [eJ]; exact he)
  · unfold exW
    rw [q1, if_neg (by decide : ¬ (2 : Int32) = 3), if_pos rfl]
    obtain ⟨t, ht, e⟩ := st_cases q2
    rw [e]
    refine Or.inl ⟨ws μ (ageM (ks μ) t (nA A t) (NA A t)), rfl, RA_age h ht, ⟨rfl, rfl, rfl, rfl, rfl, rfl⟩, rfl, rfl, fun m σ K hm => ?_⟩
    obtain ⟨o1, o2, o3, o4, o5, o6, o7, o8⟩ := hv t ht
    exact d166g hm ht o1 (by omega) o6 o7
  · unfold exW
    rw [if_neg (st_n3 q), if_neg (st_n2 q)]
    obtain ⟨t, ht, e⟩ := st_cases q
    rw [e]
    by_cases he : errC (stOf A (nI t)) w.2.1 w.2.2 = 0
    · rw [if_pos he]
      refine Or.inl ⟨ws μ (cmF (ks μ) t (nA A t) (NA A t) (QA A) w.2.1 w.2.2), rfl, RA_come h ht he, ⟨rfl, rfl, rfl, rfl, rfl, rfl⟩, rfl, rfl, fun m σ K hm => ?_⟩
      exact d166cb hm ht (hv t ht) (by rw [errC_V h ht]; exact he)
    · rw [if_neg he]
      refine Or.inr ⟨he, rfl, fun m σ K hm => ?_⟩
      exact d166ca hm ht (hv t ht) (by rw [errC_V h ht]; exact he)
theorem l167r : ∀ (L : List P3) (i : Nat) (A : StaM) (J : RowM) (μ : ModM), RA A (ks μ) → kon μ = i + L.length → kon μ ≤ 60 → (∀ k, k < L.length → L[k]? = some (entO (ko μ) (i + k))) → (∀ w, w ∈ L → okOr w) → ∃ μ2 : ModM, RA (exL L i A J).2.1 (ks μ2) ∧ smM μ μ2 ∧ ∀ (m : Nat) (σ : Hp) (K : Option Value → Hp → Prop), modAt m μ σ → X 167 28 [.ref m, .int (nI i)] [] σ K = K (some (.int (nI (exL L i A J).1))) (modPut m μ2 σ) := by
  intro L
  induction L with
  | nil =>
    intro i A J μ h hk hc _ _
    refine ⟨μ, h, smM_r, fun m σ K hm => ?_⟩
    have hk' : kon μ = i := hk
    rw [s167c hm (by omega) (by omega), modPS hm]
    rfl
  | cons w L ih =>
    intro i A J μ h hk hc he hw
    rw [List.length_cons] at hk
    have h0 := he 0 (by rw [List.length_cons]; omega)
    rw [List.getElem?_cons_zero, Nat.add_zero] at h0
    have ew : w = entO (ko μ) i := Option.some.inj h0
    have e1 : ko μ (4 * i) = w.1 := by rw [ew]; rfl
    have e2 : ko μ (4 * i + 1) = w.2.1 := by rw [ew]; rfl
    have e3 : ko μ (4 * i + 2) = w.2.2 := by rw [ew]; rfl
    unfold exL
    rcases s166 (J := J) h (hw w List.mem_cons_self) with ⟨μ1, a1, a2, a3, a4, a5, a6⟩ | ⟨a1, a2, a3⟩
    · rw [if_pos a1]
      obtain ⟨μ2, b1, b2, b3⟩ := ih (i + 1) (exW A J w).2.1 (exW A J w).2.2 μ1 a2 (by rw [a4, hk]; omega) (by omega) (fun k hk2 => by
        have := he (k + 1) (by rw [List.length_cons]; omega)
        rw [List.getElem?_cons_succ] at this
        rw [a5, this, show i + 1 + k = i + (k + 1) by omega]) (fun v hv => hw v (List.mem_cons_of_mem _ hv))
      refine ⟨μ2, b1, smM_t a3 b2, fun m σ K hm => ?_⟩
      rw [s167a hm (by omega) hc, e1, e2, e3, a6 m σ _ hm]
      show X 167 68 [.ref m, .int (nI i)] [.int 1] (modPut m μ1 σ) K = _
      rw [s167b, b3 m _ K modAP, modPP]
    · rw [if_neg a1]
      refine ⟨μ, by rw [a2]; exact h, smM_r, fun m σ K hm => ?_⟩
      rw [s167a hm (by omega) hc, e1, e2, e3, a3 m σ _ hm]
      show X 167 68 [.ref m, .int (nI i)] [.int 0] σ K = _
      rw [s167n, modPS hm]
theorem rl_c {p : Nat → Int32} {n : Nat} : ∀ (d : Nat) (q : PS), q.1 ≤ n → (q.2.1 = true → 2 * q.2.2.2 ≤ q.1 + 1) → (q.2.1 = false → 2 * q.2.2.2 ≤ q.1 + 1) → 2 * (rlF p n d q).2.2.2 ≤ n + 1 := by
  intro d
  induction d with
  | zero =>
    intro q hq h1 h2
    show 2 * q.2.2.2 ≤ n + 1
    cases hb : q.2.1
    · have := h2 hb; omega
    · have := h1 hb; omega
  | succ d ih =>
    intro q hq h1 h2
    have base : 2 * q.2.2.2 ≤ q.1 + 1 := by
      cases hb : q.2.1
      · exact h2 hb
      · exact h1 hb
    unfold rlF
    by_cases b1 : q.2.1 = true
    · rw [if_pos b1]
      by_cases b2 : q.1 < n
      · rw [if_pos b2]
        by_cases b3 : inR (sgP p n q.1) 59 59 = true
        · rw [if_pos b3]
          obtain ⟨r1, r2, r3⟩ := roF_le (p := p) (n := n) (a := q.1 + 1) (by omega)
          refine ih _ r2 (fun k => ?_) (fun k => ?_)
          · have k' : (roF p n (q.1 + 1)).2.1 = true := k
            have := r3 k'
            show 2 * (if (roF p n (q.1 + 1)).2.1 = true then q.2.2.2 + 1 else q.2.2.2) ≤ (roF p n (q.1 + 1)).1 + 1
            rw [if_pos k']
            omega
          · have k' : (roF p n (q.1 + 1)).2.1 = false := k
            show 2 * (if (roF p n (q.1 + 1)).2.1 = true then q.2.2.2 + 1 else q.2.2.2) ≤ (roF p n (q.1 + 1)).1 + 1
            rw [k', if_neg Bool.false_ne_true]
            omega
        · rw [if_neg b3]
          show 2 * q.2.2.2 ≤ n + 1
          omega
      · rw [if_neg b2]
        omega
    · rw [if_neg b1]
      omega
theorem rd_c {p : Nat → Int32} {n : Nat} {o : Nat → Int32} : 2 * (rdS p n o).2.2.2 ≤ n + 1 := by
  obtain ⟨r1, r2, r3⟩ := roF_le (p := p) (n := n) (a := 0) (by omega)
  unfold rdS
  refine rl_c n _ r2 (fun k => ?_) (fun k => ?_)
  · have k' : (roF p n 0).2.1 = true := k
    have := r3 k'
    show 2 * (if (roF p n 0).2.1 = true then 0 + 1 else 0) ≤ (roF p n 0).1 + 1
    rw [if_pos k']
    omega
  · have k' : (roF p n 0).2.1 = false := k
    show 2 * (if (roF p n 0).2.1 = true then 0 + 1 else 0) ≤ (roF p n 0).1 + 1
    rw [k', if_neg Bool.false_ne_true]
    omega
