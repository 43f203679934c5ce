/-! the reference's put -/
theorem sh8_8 : ((8 : Int32).toInt64.toUInt64 &&& Int64.toUInt64 63).toNat % 64 = 8 := by decide +kernel
theorem sh8_nat (z : Int64) : (shF8 z 8).toUInt64.toNat = z.toUInt64.toNat / 256 := by
  unfold shF8
  rw [UInt64.toUInt64_toInt64, UInt64.toNat_shiftRight, sh8_8, Nat.shiftRight_eq_div_pow]
theorem z64_0 {z : Int64} (h : z.toUInt64.toNat = 0) : z = 0 := by
  refine Int64.toBitVec_inj.mp (BitVec.eq_of_toNat_eq ?_)
  have e : (0 : Int64).toBitVec.toNat = 0 := by decide +kernel
  rw [e]
  exact h
theorem lg_0 {z : Int64} : (lg_cmp z 0 = 0) = (z = 0) := propext (lg_cmp_eq z 0)
def pnF : Nat → Int64 → Nat → Bool → Nat × Int64 × Bool
  | 0, z, a, b => (a, z, b)
  | d + 1, z, a, b => if lg_cmp (z &&& 255) 0 = 0 then (a, z, b) else pnF d (shF8 z 8) (a + 1) (if b = true then inR (sgF z) 33 126 else false)
theorem pnF_f : ∀ (d : Nat) (z : Int64) (a : Nat), (pnF d z a false).2.2 = false
  | 0, _, _ => rfl
  | d + 1, z, a => by
    unfold pnF
    split
    · rfl
    · rw [if_neg Bool.false_ne_true]
      exact pnF_f d _ _
theorem pnF_le : ∀ (d : Nat) (z : Int64) (a : Nat) (b : Bool), (pnF d z a b).1 ≤ a + d
  | 0, _, _, _ => Nat.le_refl _
  | d + 1, z, a, b => by
    unfold pnF
    split
    · exact Nat.le_add_right _ _
    · have := pnF_le d (shF8 z 8) (a + 1) (if b = true then inR (sgF z) 33 126 else false)
      omega
theorem num_pn : ∀ (d : Nat) (z : Int64) (a : Nat), z.toUInt64.toNat < 256 ^ d → numS d z a = if (pnF d z a true).2.2 = true then (if (pnF d z a true).2.1 = 0 then (pnF d z a true).1 else 0) else 0 := by
  intro d
  induction d with
  | zero =>
    intro z a hz
    have h0 : z.toUInt64.toNat = 0 := by
      rw [Nat.pow_zero] at hz
      omega
    have := z64_0 h0
    subst this
    unfold numS pnF
    rw [if_pos rfl, if_pos rfl]
  | succ d ih =>
    intro z a hz
    unfold numS pnF
    simp only [lg_0]
    by_cases h0 : z = 0
    · subst h0
      have e : (0 : Int64) &&& 255 = 0 := by decide +kernel
      rw [if_pos rfl, if_pos e, if_pos rfl, if_pos rfl]
    · rw [if_neg h0]
      by_cases h1 : z &&& 255 = 0
      · have e : sgF z < 33 := by
          unfold sgF
          rw [h1]
          decide +kernel
        rw [if_pos e, if_pos h1, if_pos rfl, if_neg h0]
      · rw [if_neg h1, if_pos trivial]
        by_cases h2 : sgF z < 33
        · have e : inR (sgF z) 33 126 = false := if_pos h2
          rw [if_pos h2, e, pnF_f, if_neg Bool.false_ne_true]
        · rw [if_neg h2]
          by_cases h3 : 126 < sgF z
          · have e : inR (sgF z) 33 126 = false := (if_neg h2).trans (if_pos h3)
            rw [if_pos h3, e, pnF_f, if_neg Bool.false_ne_true]
          · have e : inR (sgF z) 33 126 = true := (if_neg h2).trans (if_neg h3)
            rw [if_neg h3, e]
            refine ih (shF8 z 8) (a + 1) ?_
            rw [sh8_nat]
            rw [Nat.pow_succ] at hz
            omega
theorem num_8 (z : Int64) : numS 8 z 0 = if (pnF 8 z 0 true).2.2 = true then (if (pnF 8 z 0 true).2.1 = 0 then (pnF 8 z 0 true).1 else 0) else 0 := by
  refine num_pn 8 z 0 ?_
  have := z.toUInt64.toNat_lt
  have e : (256 : Nat) ^ 8 = 2 ^ 64 := by decide +kernel
  rw [e]
  exact this
theorem l157 {z0 : Int64} {w7 : Value} {K : Option Value → Hp → Prop} {m : Nat} {σ : Hp} : ∀ (d : Nat) (z : Int64) (a : Nat) (b : Bool), 8 - a = d → a ≤ 8 → X 157 13 [.ref m, .long z0, .double 0, .int (nI a), .long z, .double 0, .int (bI b), w7] [] σ K = X 157 72 [.ref m, .long z0, .double 0, .int (nI (pnF d z a b).1), .long (pnF d z a b).2.1, .double 0, .int (bI (pnF d z a b).2.2), w7] [] σ K := by
  intro d
  induction d with
  | zero =>
    intro z a b hd ha
    have ea : a = 8 := by omega
    subst ea
    have h1 : ¬ nI 8 < (8 : Int32) := by decide +kernel
    rw [x157_13]
    simp only [x157_14, x157_16, pushO, List.length_cons, List.length_nil, Nat.reduceAdd, Nat.reduceLeDiff, Nat.le_refl, Nat.zero_le, isD_i, isD_r, isD_l, isD_n, if_true, if_false, ite_true, ite_false, reduceIte, h1, pnF]
  | succ d ih =>
    intro z a b hd ha
    have h1 : nI a < 8 := by rw [nI_8]; exact nI_lt (by omega) (by omega)
    rw [x157_13]
    unfold pnF
    by_cases h2 : lg_cmp (z &&& 255) 0 = 0
    · rw [if_pos h2]
      simp only [x157_14, x157_16, x157_19, x157_21, x157_24, x157_25, x157_26, x157_27, pushO, List.length_cons, List.length_nil, Nat.reduceAdd, Nat.reduceLeDiff, Nat.le_refl, Nat.zero_le, isD_i, isD_r, isD_l, isD_n, if_true, if_false, ite_true, ite_false, reduceIte, h1, h2]
    · rw [if_neg h2]
      cases b
      · rw [if_neg Bool.false_ne_true, ← ih _ _ _ (by omega) (by omega)]
        simp only [x157_14, x157_16, x157_19, x157_21, x157_24, x157_25, x157_26, x157_27, x157_30, x157_32, x157_35, x157_37, x157_40, x157_41, x157_42, x157_44, x157_46, x157_49, x157_52, x157_53, x157_56, x157_57, x157_59, x157_61, x157_63, x157_64, x157_66, x157_69, pushO, List.length_cons, List.length_nil, Nat.reduceAdd, Nat.reduceLeDiff, Nat.le_refl, Nat.zero_le, isD_i, isD_r, isD_l, isD_n, if_true, if_false, ite_true, ite_false, reduceIte, h1, h2, bI_f, shF8, ← nI_succ]
      · rw [if_pos rfl, ← ih _ _ _ (by omega) (by omega)]
        cases h3 : inR (sgF z) 33 126
        · unfold sgF at h3
          simp only [x157_14, x157_16, x157_19, x157_21, x157_24, x157_25, x157_26, x157_27, x157_30, x157_32, x157_35, x157_37, x157_40, x157_41, x157_42, x157_44, x157_46, x157_49, x157_52, x157_53, x157_56, x157_57, x157_59, x157_61, x157_63, x157_64, x157_66, x157_69, pushO, List.length_cons, List.length_nil, Nat.reduceAdd, Nat.reduceLeDiff, Nat.le_refl, Nat.zero_le, isD_i, isD_r, isD_l, isD_n, if_true, if_false, ite_true, ite_false, reduceIte, h1, h2, bI_t, bI_f, i1_ne, e110, h3, shF8, ← nI_succ]
        · unfold sgF at h3
          simp only [x157_14, x157_16, x157_19, x157_21, x157_24, x157_25, x157_26, x157_27, x157_30, x157_32, x157_35, x157_37, x157_40, x157_41, x157_42, x157_44, x157_46, x157_49, x157_52, x157_53, x157_56, x157_57, x157_59, x157_61, x157_63, x157_64, x157_66, x157_69, pushO, List.length_cons, List.length_nil, Nat.reduceAdd, Nat.reduceLeDiff, Nat.le_refl, Nat.zero_le, isD_i, isD_r, isD_l, isD_n, if_true, if_false, ite_true, ite_false, reduceIte, h1, h2, bI_t, i1_ne, e110, h3, shF8, ← nI_succ]
theorem p_set {m i : Nat} {v : Int32} {μ : ModM} {σ : Hp} {p : Nat → Int32} (hi : i < 2 ^ 31) : pA (modPut m (wp μ p) σ) (m + 5) (nI i) v = modPut m (wp μ (upd p i v)) σ := by
  rw [mdA5 modAP, modPP, nI_clamp hi]
  rfl
theorem ch_eq {z : Int64} {i : Int32} : (shF8 z i &&& 255).toInt32 = (shF8 z i).toInt32 &&& 255 := by
  rw [Int64.toInt32_and]
  rfl
theorem l157b {z : Int64} {w4 w5 w6 : Value} {n m : Nat} {μ : ModM} {σ : Hp} {K : Option Value → Hp → Prop} (hn : n ≤ 8) (hL : kpn μ + n ≤ 80) : ∀ (d k : Nat) (p : Nat → Int32), n - k = d → k ≤ n → X 157 108 [.ref m, .long z, .double 0, .int (nI n), w4, w5, w6, .int (nI k)] [] (modPut m (wp μ p) σ) K = X 157 148 [.ref m, .long z, .double 0, .int (nI n), w4, w5, w6, .int (nI n)] [] (modPut m (wp μ (putF z d (p, kpn μ + k)).1) σ) K := by
  intro d
  induction d with
  | zero =>
    intro k p hd hk
    have ek : k = n := by omega
    subst ek
    have h1 : ¬ nI k < nI k := nI_nlt (by omega) (by omega)
    rw [x157_108]
    simp only [x157_110, x157_111, pushO, List.length_cons, List.length_nil, Nat.reduceAdd, Nat.reduceLeDiff, Nat.le_refl, Nat.zero_le, isD_i, isD_r, isD_l, isD_n, if_true, if_false, ite_true, ite_false, reduceIte, h1, putF]
  | succ d ih =>
    intro k p hd hk
    have h1 : nI k < nI n := nI_lt (by omega) (by omega)
    have f := mdF (modAP (r := m) (ρ := wp μ p) (σ := σ))
    have ekn : kpn (wp μ p) = kpn μ := rfl
    simp only [ekn] at f
    have b1 : inB (nI (kpn μ + k)) 80 = true := inB_nI (by omega) (by omega)
    have en : nI n - 1 - nI k = nI d := by
      obtain ⟨n', hn'⟩ : ∃ n', n = n' + 1 := ⟨n - 1, by omega⟩
      rw [hn', nI_pred]
      have : n' = d + k := by omega
      rw [this, ← nIa, Int32.add_sub_cancel]
    have ev : (shF8 z (8 * nI d) &&& 255).toInt32 = chF z d := ch_eq
    unfold shF8 at ev
    rw [x157_108]
    unfold putF
    simp only [x157_110, x157_111, x157_114, x157_115, x157_118, x157_119, x157_122, x157_124, x157_125, x157_126, x157_128, x157_129, x157_130, x157_131, x157_133, x157_134, x157_135, x157_136, x157_139, x157_140, x157_141, x157_142, x157_145, pushO, List.length_cons, List.length_nil, Nat.reduceAdd, Nat.reduceLeDiff, Nat.le_refl, Nat.zero_le, isD_i, isD_r, isD_l, isD_n, if_true, if_false, ite_true, ite_false, reduceIte, h1, f, nIa, en, ev, b1, p_set (show kpn μ + k < 2 ^ 31 by omega), ← nI_succ]
    exact ih (k + 1) _ (by omega) (by omega)
theorem d157a {z : Int64} {K : Option Value → Hp → Prop} {m : Nat} {μ : ModM} {σ : Hp} (h : modAt m μ σ) (hz : numS 8 z 0 = 0) : X 157 0 [.ref m, .long z, .double 0, .null, .null, .null, .null, .null] [] σ K = K (some (.int (-2))) σ := by
  have l := l157 (z0 := z) (w7 := .null) (K := K) (m := m) (σ := σ) 8 z 0 true rfl (by omega)
  have le := pnF_le 8 z 0 true
  rw [num_8] at hz
  generalize pnF 8 z 0 true = q at *
  obtain ⟨a, z2, b⟩ := q
  have le2 : a ≤ 0 + 8 := le
  rw [nI_0, bI_t] at l
  simp only [x157_0, x157_1, x157_2, x157_5, x157_6, x157_7, x157_8, x157_10, x157_11, pushO, List.length_cons, List.length_nil, Nat.reduceAdd, Nat.reduceLeDiff, Nat.le_refl, Nat.zero_le, isD_i, isD_r, isD_l, isD_n, if_true, if_false, ite_true, ite_false, reduceIte, mdF h, mdP0s h]
  rw [l]
  cases b
  · by_cases h0 : nI a = 0
    · simp only [x157_72, x157_73, x157_76, x157_78, x157_81, x157_83, x157_84, x157_85, x157_88, x157_90, pushO, List.length_cons, List.length_nil, Nat.reduceAdd, Nat.reduceLeDiff, Nat.le_refl, Nat.zero_le, isD_i, isD_r, isD_l, isD_n, if_true, if_false, ite_true, ite_false, reduceIte, h0]
    · simp only [x157_72, x157_73, x157_76, x157_78, x157_81, x157_83, x157_84, x157_85, x157_88, x157_90, pushO, List.length_cons, List.length_nil, Nat.reduceAdd, Nat.reduceLeDiff, Nat.le_refl, Nat.zero_le, isD_i, isD_r, isD_l, isD_n, if_true, if_false, ite_true, ite_false, reduceIte, h0, bI_f]
  · rw [if_pos rfl] at hz
    by_cases h0 : a = 0
    · subst h0
      simp only [x157_72, x157_73, x157_76, x157_78, x157_81, x157_83, x157_84, x157_85, x157_88, x157_90, pushO, List.length_cons, List.length_nil, Nat.reduceAdd, Nat.reduceLeDiff, Nat.le_refl, Nat.zero_le, isD_i, isD_r, isD_l, isD_n, if_true, if_false, ite_true, ite_false, reduceIte, nI_0]
    · have n0 : ¬ nI a = 0 := by rw [nI_eq0 (by omega)]; exact h0
      by_cases h1 : z2 = 0
      · rw [if_pos h1] at hz
        exact absurd hz h0
      · simp only [x157_72, x157_73, x157_76, x157_78, x157_81, x157_83, x157_84, x157_85, x157_88, x157_90, pushO, List.length_cons, List.length_nil, Nat.reduceAdd, Nat.reduceLeDiff, Nat.le_refl, Nat.zero_le, isD_i, isD_r, isD_l, isD_n, if_true, if_false, ite_true, ite_false, reduceIte, n0, bI_t, i1_ne, lg_0, h1]
theorem o157 {z : Int64} {K : Option Value → Hp → Prop} {m : Nat} {μ : ModM} {σ : Hp} (h : modAt m μ σ) (hz : ¬ numS 8 z 0 = 0) : ∃ z2 : Int64, X 157 0 [.ref m, .long z, .double 0, .null, .null, .null, .null, .null] [] σ K = X 157 91 [.ref m, .long z, .double 0, .int (nI (numS 8 z 0)), .long z2, .double 0, .int 1, .null] [] σ K := by
  have l := l157 (z0 := z) (w7 := .null) (K := K) (m := m) (σ := σ) 8 z 0 true rfl (by omega)
  have le := pnF_le 8 z 0 true
  rw [num_8] at hz ⊢
  generalize pnF 8 z 0 true = q at *
  obtain ⟨a, z2, b⟩ := q
  have le2 : a ≤ 0 + 8 := le
  refine ⟨z2, ?_⟩
  rw [nI_0, bI_t] at l
  simp only [x157_0, x157_1, x157_2, x157_5, x157_6, x157_7, x157_8, x157_10, x157_11, pushO, List.length_cons, List.length_nil, Nat.reduceAdd, Nat.reduceLeDiff, Nat.le_refl, Nat.zero_le, isD_i, isD_r, isD_l, isD_n, if_true, if_false, ite_true, ite_false, reduceIte, mdF h, mdP0s h]
  rw [l]
  cases b
  · exact absurd (if_neg Bool.false_ne_true) hz
  · rw [if_pos rfl] at hz ⊢
    by_cases h1 : z2 = 0
    · rw [if_pos h1] at hz ⊢
      have n0 : ¬ nI a = 0 := by rw [nI_eq0 (by omega)]; exact hz
      simp only [x157_72, x157_73, x157_76, x157_78, x157_81, x157_83, x157_84, x157_85, pushO, List.length_cons, List.length_nil, Nat.reduceAdd, Nat.reduceLeDiff, Nat.le_refl, Nat.zero_le, isD_i, isD_r, isD_l, isD_n, if_true, if_false, ite_true, ite_false, reduceIte, n0, bI_t, i1_ne, lg_0, h1]
    · rw [if_neg h1] at hz
      exact absurd rfl hz
theorem d157c {z : Int64} {K : Option Value → Hp → Prop} {m : Nat} {μ : ModM} {σ : Hp} (h : modAt m μ σ) (hz : ¬ numS 8 z 0 = 0) (hp : kpn μ ≤ 80) (hl : 80 < kpn μ + numS 8 z 0) : X 157 0 [.ref m, .long z, .double 0, .null, .null, .null, .null, .null] [] σ K = K (some (.int (-4))) σ := by
  obtain ⟨z2, o⟩ := o157 (K := K) h hz
  have hn := numS_le 8 z 0
  have n2 : (80 : Int32) < nI (kpn μ + numS 8 z 0) := by
    rw [nI_80]
    exact nI_lt hl (by omega)
  rw [o]
  simp only [x157_91, x157_92, x157_95, x157_96, x157_97, x157_99, x157_102, x157_104, pushO, List.length_cons, List.length_nil, Nat.reduceAdd, Nat.reduceLeDiff, Nat.le_refl, Nat.zero_le, isD_i, isD_r, isD_l, isD_n, if_true, if_false, ite_true, ite_false, reduceIte, mdF h, nIa, n2]
theorem d157b {z : Int64} {K : Option Value → Hp → Prop} {m : Nat} {μ : ModM} {σ : Hp} (h : modAt m μ σ) (hz : ¬ numS 8 z 0 = 0) (hl : kpn μ + numS 8 z 0 ≤ 80) : X 157 0 [.ref m, .long z, .double 0, .null, .null, .null, .null, .null] [] σ K = K (some (.int (nI (kpn μ + numS 8 z 0)))) (modPut m (wpn (wp μ (putF z (numS 8 z 0) (kp μ, kpn μ)).1) (kpn μ + numS 8 z 0)) σ) := by
  obtain ⟨z2, o⟩ := o157 (K := K) h hz
  have hn := numS_le 8 z 0
  have n2 : ¬ (80 : Int32) < nI (kpn μ + numS 8 z 0) := by
    rw [nI_80]
    exact nI_nlt hl (by omega)
  rw [o]
  have l := l157b (z := z) (w4 := .long z2) (w5 := .double 0) (w6 := .int 1) (m := m) (μ := μ) (σ := σ) (K := K) (show numS 8 z 0 ≤ 8 by omega) hl (numS 8 z 0) 0 (kp μ) rfl (by omega)
  have ep : modPut m (wp μ (kp μ)) σ = σ := modPS h
  rw [nI_0, ep, Nat.add_zero] at l
  have f := mdF (modAP (r := m) (ρ := wp μ (putF z (numS 8 z 0) (kp μ, kpn μ)).1) (σ := σ))
  have ekn : kpn (wp μ (putF z (numS 8 z 0) (kp μ, kpn μ)).1) = kpn μ := rfl
  simp only [ekn] at f
  have p := mdP7 (modAP (r := m) (ρ := wp μ (putF z (numS 8 z 0) (kp μ, kpn μ)).1) (σ := σ)) (n := kpn μ + numS 8 z 0)
  rw [modPP] at p
  have f2 := mdF (modAP (r := m) (ρ := wpn (wp μ (putF z (numS 8 z 0) (kp μ, kpn μ)).1) (kpn μ + numS 8 z 0)) (σ := σ))
  have ek2 : kpn (wpn (wp μ (putF z (numS 8 z 0) (kp μ, kpn μ)).1) (kpn μ + numS 8 z 0)) = kpn μ + numS 8 z 0 := rfl
  simp only [ek2] at f2
  simp only [x157_91, x157_92, x157_95, x157_96, x157_97, x157_99, x157_102, x157_104, x157_105, x157_106, pushO, List.length_cons, List.length_nil, Nat.reduceAdd, Nat.reduceLeDiff, Nat.le_refl, Nat.zero_le, isD_i, isD_r, isD_l, isD_n, if_true, if_false, ite_true, ite_false, reduceIte, mdF h, nIa, n2, l]
  simp only [x157_148, x157_149, x157_149i, x157_150, x157_153, x157_154, x157_155, x157_158, x157_159, x157_162, pushO, List.length_cons, List.length_nil, Nat.reduceAdd, Nat.reduceLeDiff, Nat.le_refl, Nat.zero_le, isD_i, isD_r, isD_l, isD_n, if_true, if_false, ite_true, ite_false, reduceIte, f, nIa, p, f2]
