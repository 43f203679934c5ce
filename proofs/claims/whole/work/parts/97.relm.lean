/-! the whole object and the whole reference: remembering, slots, pad -/
def RelM (A : StaM) (pm : Nat → Nat) (sz : Nat) (S L : Nat → StaM) (u : Nat → Bool) (P : PadM) (μ : ModM) : Prop := RA A (ks μ) ∧ (∀ i j, i < 6 → j < 6 → pm i = pm j → i = j) ∧ kum μ = sz ∧ (∀ i, i < sz → RA (S (pm i)) (fun b => ku μ (321 * i + b))) ∧ (∀ j, j < 2 → khs μ j = bI (u j)) ∧ (∀ j, j < 2 → u j = true → RA (L j) (fun b => ksl μ (321 * j + b))) ∧ kpn μ = P.2 ∧ (∀ k, k < P.2 → kp μ k = P.1 k)
theorem RA_321 {A : StaM} {s s2 : Nat → Int32} (h : RA A s) (hb : ∀ b, b < 321 → s2 b = s b) : RA A s2 := RA_mk (RS_fr (RA_z h) (fun b q => hb _ (by omega)) (hb 0 (by omega))) (RS_fr (RA_o h) (fun b q => hb _ (by omega)) (hb 0 (by omega))) h.2
theorem shU_v : ∀ (d i : Nat) (u : Nat → Int32) (j : Nat), shU d i u j = if i ≤ j ∧ j < i + d then u (j + 321) else u j := by
  intro d
  induction d with
  | zero =>
    intro i u j
    rw [if_neg (by omega)]
    rfl
  | succ d ih =>
    intro i u j
    unfold shU
    rw [ih]
    by_cases h : i ≤ j ∧ j < i + (d + 1)
    · rw [if_pos h]
      by_cases h2 : j = i
      · subst h2
        rw [if_neg (by omega), upd_at]
      · rw [if_pos (by omega), upd_n (by omega)]
    · rw [if_neg h, if_neg (by omega), upd_n (by omega)]
theorem cpU_v {s : Nat → Int32} {b : Nat} : ∀ (d i : Nat) (u : Nat → Int32) (j : Nat), cpU s b d i u j = if b + i ≤ j ∧ j < b + i + d then s (j - b) else u j := by
  intro d
  induction d with
  | zero =>
    intro i u j
    rw [if_neg (by omega)]
    rfl
  | succ d ih =>
    intro i u j
    unfold cpU
    rw [ih]
    by_cases h : b + i ≤ j ∧ j < b + i + (d + 1)
    · rw [if_pos h]
      by_cases h2 : j = b + i
      · subst h2
        rw [if_neg (by omega), upd_at, Nat.add_sub_cancel_left]
      · rw [if_pos (by omega)]
    · rw [if_neg h, if_neg (by omega), upd_n (by omega)]
theorem tkU_v {u : Nat → Int32} {b : Nat} : ∀ (d i : Nat) (s : Nat → Int32) (j : Nat), tkU u b d i s j = if i ≤ j ∧ j < i + d then u (b + j) else s j := by
  intro d
  induction d with
  | zero =>
    intro i s j
    rw [if_neg (by omega)]
    rfl
  | succ d ih =>
    intro i s j
    unfold tkU
    rw [ih]
    by_cases h : i ≤ j ∧ j < i + (d + 1)
    · rw [if_pos h]
      by_cases h2 : j = i
      · subst h2
        rw [if_neg (by omega), upd_at]
      · rw [if_pos (by omega)]
    · rw [if_neg h, if_neg (by omega), upd_n (by omega)]
theorem rotF_v : ∀ (n k : Nat) (pm : Nat → Nat) (i : Nat), rotF n k pm i = if k ≤ i ∧ i < k + n then pm (i + 1) else pm i := by
  intro n
  induction n with
  | zero =>
    intro k pm i
    rw [if_neg (by omega)]
    rfl
  | succ n ih =>
    intro k pm i
    unfold rotF
    rw [ih]
    by_cases h : k ≤ i ∧ i < k + (n + 1)
    · rw [if_pos h]
      by_cases h2 : i = k
      · subst h2
        rw [if_neg (by omega), updN_s]
      · rw [if_pos (by omega), updN_n (by omega)]
    · rw [if_neg h, if_neg (by omega), updN_n (by omega)]
theorem rotP_v {pm : Nat → Nat} : (∀ i, i < 5 → rotP pm i = pm (i + 1)) ∧ rotP pm 5 = pm 0 := by
  unfold rotP
  refine ⟨fun i hi => ?_, updN_s⟩
  rw [updN_n (by omega), rotF_v, if_pos (by omega)]
theorem rotP_inj {pm : Nat → Nat} (h : ∀ i j, i < 6 → j < 6 → pm i = pm j → i = j) : ∀ i j, i < 6 → j < 6 → rotP pm i = rotP pm j → i = j := by
  obtain ⟨r1, r2⟩ := rotP_v (pm := pm)
  intro i j hi hj e
  by_cases a : i = 5 <;> by_cases b : j = 5
  · omega
  · rw [a, r2, r1 j (by omega)] at e
    have := h 0 (j + 1) (by omega) (by omega) e
    omega
  · rw [b, r2, r1 i (by omega)] at e
    have := h (i + 1) 0 (by omega) (by omega) e
    omega
  · rw [r1 i (by omega), r1 j (by omega)] at e
    have := h (i + 1) (j + 1) (by omega) (by omega) e
    omega
theorem ku_wum {μ : ModM} {a : Nat} : ku (wum μ a) = ku μ := rfl
theorem ksl_whs {μ : ModM} {f : Nat → Int32} : ksl (whs μ f) = ksl μ := rfl
theorem rel_rec {A : StaM} {pm : Nat → Nat} {sz : Nat} {S L : Nat → StaM} {u : Nat → Bool} {P : PadM} {μ : ModM} (hz : sz ≤ 6) (r : RelM A pm sz S L u P μ) : RelM A (remP pm sz) (remZ sz + 1) (updN S (remP pm sz (remZ sz)) A) L u P (rcM μ) := by
  obtain ⟨r1, r2, r3, r4, r5, r6, r7, r8⟩ := r
  have k1 : ks (rcM μ) = ks μ := ks_rcM
  have k2 : khs (rcM μ) = khs μ := by unfold rcM; split <;> rfl
  have k3' : ksl (rcM μ) = ksl μ := ksl_rcM
  have k4 : kpn (rcM μ) = kpn μ := by unfold rcM; split <;> rfl
  have k5 : kp (rcM μ) = kp μ := by unfold rcM; split <;> rfl
  by_cases h6 : sz = 6
  · have e1 : remP pm sz = rotP pm := if_pos h6
    have e2 : remZ sz = 5 := if_pos h6
    have eu : ku (rcM μ) = cpU (ks μ) (321 * 5) 321 0 (shU 1605 0 (ku μ)) := by
      unfold rcM
      rw [if_pos (r3.trans h6), ku_wum, ku_wu]
    have em : kum (rcM μ) = 6 := by
      unfold rcM
      rw [if_pos (r3.trans h6), kum_wum]
    obtain ⟨v1, v2⟩ := rotP_v (pm := pm)
    rw [e1, e2]
    refine ⟨by rw [k1]; exact r1, rotP_inj r2, em, fun i hi => ?_, by rw [k2]; exact r5, by rw [k3']; exact r6, k4.trans r7, by rw [k5]; exact r8⟩
    by_cases h5 : i = 5
    · subst h5
      rw [updN_s]
      refine RA_321 r1 (fun b hb => ?_)
      show ku (rcM μ) (321 * 5 + b) = _
      rw [eu, cpU_v, if_pos (by omega), Nat.add_sub_cancel_left]
    · have hi5 : i < 5 := by omega
      rw [updN_n (fun q => h5 (rotP_inj r2 i 5 (by omega) (by omega) q)), v1 i hi5]
      refine RA_321 (r4 (i + 1) (by omega)) (fun b hb => ?_)
      show ku (rcM μ) (321 * i + b) = ku μ (321 * (i + 1) + b)
      rw [eu, cpU_v, if_neg (by omega), shU_v, if_pos (by omega), show 321 * i + b + 321 = 321 * (i + 1) + b by omega]
  · have e1 : remP pm sz = pm := if_neg h6
    have e2 : remZ sz = sz := if_neg h6
    have hk : ¬ kum μ = 6 := by rw [r3]; exact h6
    have eu : ku (rcM μ) = cpU (ks μ) (321 * sz) 321 0 (ku μ) := by
      unfold rcM
      rw [if_neg hk, r3, ku_wum, ku_wu]
    have em : kum (rcM μ) = sz + 1 := by
      unfold rcM
      rw [if_neg hk, r3, kum_wum]
    rw [e1, e2]
    refine ⟨by rw [k1]; exact r1, r2, em, fun i hi => ?_, by rw [k2]; exact r5, by rw [k3']; exact r6, k4.trans r7, by rw [k5]; exact r8⟩
    by_cases h5 : i = sz
    · subst h5
      rw [updN_s]
      refine RA_321 r1 (fun b hb => ?_)
      show ku (rcM μ) (321 * i + b) = _
      rw [eu, cpU_v, if_pos (by omega), Nat.add_sub_cancel_left]
    · have hi5 : i < sz := by omega
      rw [updN_n (fun q => h5 (r2 i sz (by omega) (by omega) q))]
      refine RA_321 (r4 i hi5) (fun b hb => ?_)
      show ku (rcM μ) (321 * i + b) = ku μ (321 * i + b)
      rw [eu, cpU_v, if_neg (by omega)]
theorem rel_A {A2 : StaM} {μ2 : ModM} {A : StaM} {pm : Nat → Nat} {sz : Nat} {S L : Nat → StaM} {u : Nat → Bool} {P : PadM} {μ : ModM} (r : RelM A pm sz S L u P μ) (m : smM μ μ2) (h : RA A2 (ks μ2)) : RelM A2 pm sz S L u P μ2 := by
  obtain ⟨r1, r2, r3, r4, r5, r6, r7, r8⟩ := r
  obtain ⟨m1, m2, m3, m4, m5, m6⟩ := m
  refine ⟨h, r2, m2.trans r3, ?_, ?_, ?_, m6.trans r7, ?_⟩
  · rw [m1]; exact r4
  · rw [m4]; exact r5
  · rw [m3]; exact r6
  · rw [m5]; exact r8
theorem rel_P {P2 : PadM} {μ2 : ModM} {A : StaM} {pm : Nat → Nat} {sz : Nat} {S L : Nat → StaM} {u : Nat → Bool} {P : PadM} {μ : ModM} (r : RelM A pm sz S L u P μ) (m : ks μ2 = ks μ ∧ ku μ2 = ku μ ∧ kum μ2 = kum μ ∧ ksl μ2 = ksl μ ∧ khs μ2 = khs μ) (h1 : kpn μ2 = P2.2) (h2 : ∀ k, k < P2.2 → kp μ2 k = P2.1 k) : RelM A pm sz S L u P2 μ2 := by
  obtain ⟨r1, r2, r3, r4, r5, r6, r7, r8⟩ := r
  obtain ⟨m1, m2, m3, m4, m5⟩ := m
  refine ⟨by rw [m1]; exact r1, r2, m3.trans r3, ?_, ?_, ?_, h1, h2⟩
  · rw [m2]; exact r4
  · rw [m5]; exact r5
  · rw [m4]; exact r6
theorem rel_undo {A : StaM} {pm : Nat → Nat} {sz : Nat} {S L : Nat → StaM} {u : Nat → Bool} {P : PadM} {μ : ModM} (r : RelM A pm sz S L u P μ) (hz : 0 < sz) : RelM (S (pm (sz - 1))) pm (sz - 1) S L u P (ws (wum μ (sz - 1)) (tkU (ku μ) (321 * (sz - 1)) 321 0 (ks μ))) := by
  obtain ⟨r1, r2, r3, r4, r5, r6, r7, r8⟩ := r
  refine ⟨RA_321 (r4 (sz - 1) (by omega)) (fun b hb => ?_), r2, rfl, fun i hi => r4 i (by omega), r5, r6, r7, r8⟩
  rw [ks_ws, tkU_v, if_pos (by omega)]
theorem rel_save {k : Nat} {A : StaM} {pm : Nat → Nat} {sz : Nat} {S L : Nat → StaM} {u : Nat → Bool} {P : PadM} {μ : ModM} (r : RelM A pm sz S L u P μ) (hk : k < 2) : RelM A pm sz S (updN L k A) (updN u k true) P (whs (wsl μ (cpU (ks μ) (321 * k) 321 0 (ksl μ))) (upd (khs μ) k 1)) := by
  obtain ⟨r1, r2, r3, r4, r5, r6, r7, r8⟩ := r
  refine ⟨r1, r2, r3, r4, fun j hj => ?_, fun j hj hu => ?_, r7, r8⟩
  · show upd (khs μ) k 1 j = _
    by_cases h : j = k
    · subst h
      rw [upd_at, updN_s]
      rfl
    · rw [upd_n h, updN_n h]
      exact r5 j hj
  · by_cases h : j = k
    · subst h
      rw [updN_s]
      refine RA_321 r1 (fun b hb => ?_)
      rw [ksl_whs, ksl_wsl, cpU_v, if_pos (by omega), Nat.add_sub_cancel_left]
    · rw [updN_n h] at hu ⊢
      refine RA_321 (r6 j hj hu) (fun b hb => ?_)
      rw [ksl_whs, ksl_wsl, cpU_v, if_neg (by omega)]
theorem ra_back {k : Nat} {A : StaM} {pm : Nat → Nat} {sz : Nat} {S L : Nat → StaM} {u : Nat → Bool} {P : PadM} {μ : ModM} (r : RelM A pm sz S L u P μ) (hk : k < 2) (hu : u k = true) : RA (L k) (tkU (ksl μ) (321 * k) 321 0 (ks μ)) := by
  refine RA_321 (r.2.2.2.2.2.1 k hk hu) (fun b hb => ?_)
  rw [tkU_v, if_pos (by omega)]
theorem putF_cg {z : Int64} : ∀ (b : Nat) (P P2 : PadM), P2.2 = P.2 → (∀ k, k < P.2 → P2.1 k = P.1 k) → ∀ k, k < P.2 + b → (putF z b P2).1 k = (putF z b P).1 k := by
  intro b
  induction b with
  | zero => intro P P2 _ h k hk; exact h k hk
  | succ b ih =>
    intro P P2 h1 h2 k hk
    unfold putF
    rw [h1]
    refine ih (upd P.1 P.2 (chF z b), P.2 + 1) (upd P2.1 P.2 (chF z b), P.2 + 1) rfl (fun j hj => ?_) k (by show k < P.2 + 1 + b; omega)
    show upd P2.1 P.2 (chF z b) j = upd P.1 P.2 (chF z b) j
    by_cases h : j = P.2
    · subst h
      rw [upd_at, upd_at]
    · rw [upd_n h, upd_n h]
      have hj' : j < P.2 + 1 := hj
      exact h2 j (by omega)
theorem sl_st {y : Int32} : isSl y = isSt y := by
  cases h : isSl y
  · cases h2 : isSt y
    · rfl
    · obtain ⟨t, ht, e⟩ := st_cases h2
      rw [e] at h
      unfold isSl at h
      rw [in_nI (by omega) (by omega), decide_eq_true ht] at h
      cases h
  · obtain ⟨k, hk, e⟩ := isSl_nn h
    rw [e, st_nI hk]
theorem errJ_v {A : StaM} (h : ¬ errJ A = 0) : errJ A = -4 := by
  unfold errJ at h ⊢
  by_cases h1 : 99999 < sN (aZ A) + sN (aO A)
  · rw [if_pos h1]
  · rw [if_neg h1] at h ⊢
    by_cases h2 : 60 < nI (unlT (sT (aZ A)) (sT (aO A)))
    · rw [if_pos h2]
    · rw [if_neg h2] at h
      exact absurd rfl h
theorem bd_in {y : Int32} : inR y 1 12 = !bdS y := by
  unfold inR bdS
  by_cases h1 : y < 1
  · rw [if_pos h1, if_pos h1]
    rfl
  · rw [if_neg h1, if_neg h1]
    by_cases h2 : 12 < y
    · rw [if_pos h2, decide_eq_true h2]
      rfl
    · rw [if_neg h2, decide_eq_false h2]
      rfl
theorem st_any (y : Int32) : ∃ t, t < 2 ∧ (∀ A : StaM, stOf A y = stOf A (nI t)) ∧ (∀ (A : StaM) (S : StrM), stSet A y S = stSet A (nI t) S) := by
  by_cases h : y = 0
  · refine ⟨0, by omega, fun A => ?_, fun A S => ?_⟩
    · rw [st_0]
      exact if_pos h
    · rw [stSet_z]
      exact if_pos h
  · refine ⟨1, by omega, fun A => ?_, fun A S => ?_⟩
    · rw [st_1]
      exact if_neg h
    · rw [stSet_o]
      exact if_neg h
theorem I_ok {A : StaM} (h : ∃ s, RA A s) : okSa A ∧ (errJ A = 0 → aaS A) := by
  obtain ⟨s, h⟩ := h
  exact ⟨RA_ok h, fun he => (RA_join (J := (fun _ => 0, fun _ => 0, fun _ => 0, 0, 0)) (j0 := fun _ => 0) h he).1⟩
theorem I_co {A : StaM} {J : RowM} {O : OrdM} (h : ∃ s, RA A s) : ∃ s, RA (cooF A J O).2.1 s := by
  obtain ⟨s, h⟩ := h
  obtain ⟨t, ht, t1, t2⟩ := st_any O.2.2.1
  unfold cooF
  by_cases k1 : O.2.1 = 1
  · rw [if_pos k1]
    refine ⟨ageM s t (nA A t) (NA A t), ?_⟩
    show RA (stSet A O.2.2.1 (halS (stOf A O.2.2.1))) _
    rw [t1, t2]
    exact RA_age h ht
  · rw [if_neg k1]
    by_cases k2 : O.2.1 = 2
    · rw [if_pos k2]
      by_cases he : errJ A = 0
      · rw [if_pos he]
        exact ⟨_, (RA_join (J := J) (j0 := fun _ => 0) h he).2.2.1⟩
      · rw [if_neg he]
        exact ⟨s, h⟩
    · rw [if_neg k2]
      by_cases he : errC (stOf A O.2.2.1) O.2.2.2.1 O.2.2.2.2.2 = 0
      · rw [if_pos he]
        refine ⟨cmF s t (nA A t) (NA A t) (QA A) O.2.2.2.1 O.2.2.2.2.2, ?_⟩
        show RA (stSet A O.2.2.1 (comS (stOf A O.2.2.1) O.2.2.2.1 O.2.2.2.2.2)) _
        rw [t1] at he
        rw [t1, t2]
        exact RA_come h ht he
      · rw [if_neg he]
        exact ⟨s, h⟩
