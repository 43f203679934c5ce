/-! a call of the law's: what the class does is the pure function -/
def Ob (x : Nat) (A L0 : StaM) (sz : Nat) (nn : Nat × Nat) (σ : Hp) : Prop := ∃ (pm : Nat → Nat) (S L : Nat → StaM) (u : Nat → Bool) (P : PadM) (O : OrdM) (J : RowM), Sys x A pm sz S L u P O J nn σ ∧ L 0 = L0 ∧ u 0 = true ∧ u 1 = false
/-- the same, and the state before it is remembered last -/
def ObU (x : Nat) (A L0 B : StaM) (sz : Nat) (nn : Nat × Nat) (σ : Hp) : Prop := ∃ (pm : Nat → Nat) (S L : Nat → StaM) (u : Nat → Bool) (P : PadM) (O : OrdM) (J : RowM), Sys x A pm sz S L u P O J nn σ ∧ L 0 = L0 ∧ u 0 = true ∧ u 1 = false ∧ S (pm (sz - 1)) = B
theorem ObU_o {x : Nat} {A L0 B : StaM} {sz : Nat} {nn : Nat × Nat} {σ : Hp} (h : ObU x A L0 B sz nn σ) : Ob x A L0 sz nn σ := by
  obtain ⟨pm, S, L, u, P, O, J, h, h1, h2, h3, h4⟩ := h
  exact ⟨pm, S, L, u, P, O, J, h, h1, h2, h3⟩
theorem Ob_o {x : Nat} {A L0 : StaM} {sz : Nat} {nn : Nat × Nat} {σ : Hp} (h : Ob x A L0 sz nn σ) : okO σ x 8 = true := by
  obtain ⟨pm, S, L, u, P, O, J, h, h1⟩ := h
  exact (sysF h).1
theorem Ob_z {x : Nat} {A L0 : StaM} {sz : Nat} {nn : Nat × Nat} {σ : Hp} (h : Ob x A L0 sz nn σ) : sz ≤ 6 := by
  obtain ⟨pm, S, L, u, P, O, J, h, h1⟩ := h
  exact (ysB h).2.1
theorem Ob_n {x : Nat} {A L0 : StaM} {sz : Nat} {nn : Nat × Nat} {σ : Hp} (h : Ob x A L0 sz nn σ) : σ.2 = nn := by
  obtain ⟨pm, S, L, u, P, O, J, h, h1⟩ := h
  exact ysNn h
theorem remU {S : Nat → StaM} {pm : Nat → Nat} {sz : Nat} {A : StaM} : updN S (remP pm sz (remZ sz)) A (remP pm sz (remZ sz + 1 - 1)) = A := by
  rw [Nat.add_sub_cancel]
  exact updN_s
def ActR (x : Nat) (A L0 : StaM) (sz : Nat) (nn : Nat × Nat) (v w : Int32) (σ : Hp) (q : Int32 × Option StaM) : Prop := (q.2 = none ∧ ∀ K : Option Value → Hp → Prop, X 113 0 [.ref x, .int v, .int w] [] σ K = K (some (.int q.1)) σ) ∨ (∃ (B : StaM) (σ' : Hp), q.2 = some B ∧ ObU x B L0 A (remZ sz + 1) nn σ' ∧ ∀ K : Option Value → Hp → Prop, X 113 0 [.ref x, .int v, .int w] [] σ K = K (some (.int q.1)) σ')
theorem act0 {x : Nat} {A L0 : StaM} {sz : Nat} {nn : Nat × Nat} {v w : Int32} {σ : Hp} (h : Ob x A L0 sz nn σ) (ha : AB A) (c : v &&& 15 = 0) : ActR x A L0 sz nn v w σ (acS A (lowV w 14)) := by
  have f0 := Ob_o h
  obtain ⟨pm, S, L, u, P, O, J, h, h1, h2, h3⟩ := h
  unfold acS
  by_cases hb : bdS (lowV w 14) = true
  · rw [if_pos hb]
    refine Or.inl ⟨rfl, fun K => ?_⟩
    simp only [x113_0, x113_1, x113_3, pushO, List.length_cons, List.length_nil, Nat.reduceAdd, Nat.reduceLeDiff, Nat.le_refl, Nat.zero_le, isD_i, isD_r, isD_l, isD_n, if_true, if_false, ite_true, ite_false, reduceIte]
    rw [x113_4, if_pos c]
    simp only [x113_36, x113_37, x113_38, x113_40, x113_43, x113_46, pushO, List.length_cons, List.length_nil, Nat.reduceAdd, Nat.reduceLeDiff, Nat.le_refl, Nat.zero_le, isD_i, isD_r, isD_l, isD_n, if_true, if_false, ite_true, ite_false, reduceIte, e110 n14, f0, d81a h hb]
  · rw [if_neg hb]
    obtain ⟨m, m1, m2, m3, m4⟩ := nn_bd hb
    obtain ⟨σ', g1, g2⟩ := d81b h (AB_ok ha) m1 m2
    rw [m4]
    refine Or.inr ⟨_, σ', rfl, ⟨_, _, _, _, _, _, _, g1, h1, h2, h3, remU⟩, fun K => ?_⟩
    simp only [x113_0, x113_1, x113_3, pushO, List.length_cons, List.length_nil, Nat.reduceAdd, Nat.reduceLeDiff, Nat.le_refl, Nat.zero_le, isD_i, isD_r, isD_l, isD_n, if_true, if_false, ite_true, ite_false, reduceIte]
    rw [x113_4, if_pos c]
    simp only [x113_36, x113_37, x113_38, x113_40, x113_43, x113_46, pushO, List.length_cons, List.length_nil, Nat.reduceAdd, Nat.reduceLeDiff, Nat.le_refl, Nat.zero_le, isD_i, isD_r, isD_l, isD_n, if_true, if_false, ite_true, ite_false, reduceIte, e110 n14, f0, m3, g2]
theorem act1 {x : Nat} {A L0 : StaM} {sz : Nat} {nn : Nat × Nat} {v w : Int32} {σ : Hp} (h : Ob x A L0 sz nn σ) (ha : AB A) (c : v &&& 15 = 1) : ActR x A L0 sz nn v w σ (acA A (lowV w 3)) := by
  have f0 := Ob_o h
  obtain ⟨pm, S, L, u, P, O, J, h, h1, h2, h3⟩ := h
  have k0 : ¬ v &&& 15 = 0 := by rw [c]; decide
  unfold acA
  cases hs : isSt (lowV w 3)
  · rw [if_neg Bool.false_ne_true]
    refine Or.inl ⟨rfl, fun K => ?_⟩
    simp only [x113_0, x113_1, x113_3, pushO, List.length_cons, List.length_nil, Nat.reduceAdd, Nat.reduceLeDiff, Nat.le_refl, Nat.zero_le, isD_i, isD_r, isD_l, isD_n, if_true, if_false, ite_true, ite_false, reduceIte]
    rw [x113_4, if_neg k0, if_pos c]
    simp only [x113_47, x113_48, x113_49, x113_50, x113_53, x113_56, pushO, List.length_cons, List.length_nil, Nat.reduceAdd, Nat.reduceLeDiff, Nat.le_refl, Nat.zero_le, isD_i, isD_r, isD_l, isD_n, if_true, if_false, ite_true, ite_false, reduceIte, e110 n3, f0, d83a h hs]
  · rw [if_pos rfl]
    obtain ⟨σ', g1, g2⟩ := d83b h (AB_ok ha) hs
    refine Or.inr ⟨_, σ', rfl, ⟨_, _, _, _, _, _, _, g1, h1, h2, h3, remU⟩, fun K => ?_⟩
    simp only [x113_0, x113_1, x113_3, pushO, List.length_cons, List.length_nil, Nat.reduceAdd, Nat.reduceLeDiff, Nat.le_refl, Nat.zero_le, isD_i, isD_r, isD_l, isD_n, if_true, if_false, ite_true, ite_false, reduceIte]
    rw [x113_4, if_neg k0, if_pos c]
    simp only [x113_47, x113_48, x113_49, x113_50, x113_53, x113_56, pushO, List.length_cons, List.length_nil, Nat.reduceAdd, Nat.reduceLeDiff, Nat.le_refl, Nat.zero_le, isD_i, isD_r, isD_l, isD_n, if_true, if_false, ite_true, ite_false, reduceIte, e110 n3, f0, g2]
theorem act2 {x : Nat} {A L0 : StaM} {sz : Nat} {nn : Nat × Nat} {v w : Int32} {σ : Hp} (h : Ob x A L0 sz nn σ) (ha : AB A) (c : v &&& 15 = 2) : ActR x A L0 sz nn v w σ (acJ A) := by
  have f0 := Ob_o h
  obtain ⟨pm, S, L, u, P, O, J, h, h1, h2, h3⟩ := h
  have k0 : ¬ v &&& 15 = 0 := by rw [c]; decide
  have k1 : ¬ v &&& 15 = 1 := by rw [c]; decide
  unfold acJ
  by_cases he : errJ A = 0
  · rw [if_pos he]
    obtain ⟨σ', g1, g2⟩ := d84b h (AB_ok ha) he (join_T ha.1 ha.2.1 he).2.1
    rw [jnS_eq (J := J) (J2 := zJ)] at g1 g2
    refine Or.inr ⟨_, σ', rfl, ⟨_, _, _, _, _, _, _, g1, h1, h2, h3, remU⟩, fun K => ?_⟩
    simp only [x113_0, x113_1, x113_3, pushO, List.length_cons, List.length_nil, Nat.reduceAdd, Nat.reduceLeDiff, Nat.le_refl, Nat.zero_le, isD_i, isD_r, isD_l, isD_n, if_true, if_false, ite_true, ite_false, reduceIte]
    rw [x113_4, if_neg k0, if_neg k1, if_pos c]
    simp only [x113_57, x113_58, x113_61, pushO, List.length_cons, List.length_nil, Nat.reduceAdd, Nat.reduceLeDiff, Nat.le_refl, Nat.zero_le, isD_i, isD_r, isD_l, isD_n, if_true, if_false, ite_true, ite_false, reduceIte, f0, g2]
  · rw [if_neg he]
    refine Or.inl ⟨rfl, fun K => ?_⟩
    simp only [x113_0, x113_1, x113_3, pushO, List.length_cons, List.length_nil, Nat.reduceAdd, Nat.reduceLeDiff, Nat.le_refl, Nat.zero_le, isD_i, isD_r, isD_l, isD_n, if_true, if_false, ite_true, ite_false, reduceIte]
    rw [x113_4, if_neg k0, if_neg k1, if_pos c]
    simp only [x113_57, x113_58, x113_61, pushO, List.length_cons, List.length_nil, Nat.reduceAdd, Nat.reduceLeDiff, Nat.le_refl, Nat.zero_le, isD_i, isD_r, isD_l, isD_n, if_true, if_false, ite_true, ite_false, reduceIte, f0, d84a h (AB_ok ha) he]
theorem act3 {x : Nat} {A L0 : StaM} {sz : Nat} {nn : Nat × Nat} {v w : Int32} {σ : Hp} (h : Ob x A L0 sz nn σ) (ha : AB A) (c : v &&& 15 = 3) : ActR x A L0 sz nn v w σ (acR A L0 (w &&& 1)) := by
  have f0 := Ob_o h
  obtain ⟨pm, S, L, u, P, O, J, h, h1, h2, h3⟩ := h
  have k0 : ¬ v &&& 15 = 0 := by rw [c]; decide
  have k1 : ¬ v &&& 15 = 1 := by rw [c]; decide
  have k2 : ¬ v &&& 15 = 2 := by rw [c]; decide
  unfold acR
  by_cases hy : w &&& 1 = 0
  · rw [if_pos hy]
    obtain ⟨σ', g1, g2⟩ := d101b h (k := 0) (by omega) h2
    rw [nI_0] at g2
    rw [h1] at g1 g2
    refine Or.inr ⟨_, σ', rfl, ⟨_, _, _, _, _, _, _, g1, h1, h2, h3, remU⟩, fun K => ?_⟩
    simp only [x113_0, x113_1, x113_3, pushO, List.length_cons, List.length_nil, Nat.reduceAdd, Nat.reduceLeDiff, Nat.le_refl, Nat.zero_le, isD_i, isD_r, isD_l, isD_n, if_true, if_false, ite_true, ite_false, reduceIte]
    rw [x113_4, if_neg k0, if_neg k1, if_neg k2, if_pos c]
    simp only [x113_62, x113_63, x113_64, x113_65, x113_66, x113_69, pushO, List.length_cons, List.length_nil, Nat.reduceAdd, Nat.reduceLeDiff, Nat.le_refl, Nat.zero_le, isD_i, isD_r, isD_l, isD_n, if_true, if_false, ite_true, ite_false, reduceIte, f0, hy, g2]
  · rw [if_neg hy]
    cases hs : isSl (w &&& 1)
    · rw [if_neg Bool.false_ne_true]
      refine Or.inl ⟨rfl, fun K => ?_⟩
      simp only [x113_0, x113_1, x113_3, pushO, List.length_cons, List.length_nil, Nat.reduceAdd, Nat.reduceLeDiff, Nat.le_refl, Nat.zero_le, isD_i, isD_r, isD_l, isD_n, if_true, if_false, ite_true, ite_false, reduceIte]
      rw [x113_4, if_neg k0, if_neg k1, if_neg k2, if_pos c]
      simp only [x113_62, x113_63, x113_64, x113_65, x113_66, x113_69, pushO, List.length_cons, List.length_nil, Nat.reduceAdd, Nat.reduceLeDiff, Nat.le_refl, Nat.zero_le, isD_i, isD_r, isD_l, isD_n, if_true, if_false, ite_true, ite_false, reduceIte, f0, d101a h hs]
    · rw [if_pos rfl]
      refine Or.inl ⟨rfl, fun K => ?_⟩
      obtain ⟨k, k3, k4⟩ := isSl_nn hs
      have k5 : k = 1 := by
        have : k ≠ 0 := fun e => hy (by rw [k4, e, nI_0])
        omega
      subst k5
      have g := fun K => d101c (K := K) h (k := 1) (by omega) h3
      rw [← k4] at g
      simp only [x113_0, x113_1, x113_3, pushO, List.length_cons, List.length_nil, Nat.reduceAdd, Nat.reduceLeDiff, Nat.le_refl, Nat.zero_le, isD_i, isD_r, isD_l, isD_n, if_true, if_false, ite_true, ite_false, reduceIte]
      rw [x113_4, if_neg k0, if_neg k1, if_neg k2, if_pos c]
      simp only [x113_62, x113_63, x113_64, x113_65, x113_66, x113_69, pushO, List.length_cons, List.length_nil, Nat.reduceAdd, Nat.reduceLeDiff, Nat.le_refl, Nat.zero_le, isD_i, isD_r, isD_l, isD_n, if_true, if_false, ite_true, ite_false, reduceIte, f0, g]
theorem act4x {x : Nat} {v w : Int32} {σ : Hp} {K : Option Value → Hp → Prop} (f0 : okO σ x 8 = true) : X 113 70 [.ref x, .int v, .int w] [] σ K = X 82 0 [.ref x, .int (stmV v), .int (gstV w), .int (tmsV w), .null] [] σ (fun r τ => X 113 120 [.ref x, .int v, .int w] (pushO r []) τ K) := by
  unfold stmV tmsV strV
  by_cases q1 : (v >>> ((4 : Int32) &&& 31)) &&& 15 = 0
  · by_cases q2 : (w >>> ((18 : Int32) &&& 31)) &&& 3 = 0
    · simp only [x113_70, x113_71, x113_72, x113_73, x113_74, x113_76, x113_77, x113_80, x113_81, x113_84, x113_85, x113_86, x113_87, x113_88, x113_89, x113_90, x113_93, x113_94, x113_96, x113_97, x113_98, x113_100, x113_101, x113_102, x113_103, x113_106, x113_109, x113_112, x113_114, x113_117, pushO, List.length_cons, List.length_nil, Nat.reduceAdd, Nat.reduceLeDiff, Nat.le_refl, Nat.zero_le, isD_i, isD_r, isD_l, isD_n, if_true, if_false, ite_true, ite_false, reduceIte, q1, q2, e111, e110 n1001, f0]
    · simp only [x113_70, x113_71, x113_72, x113_73, x113_74, x113_76, x113_77, x113_80, x113_81, x113_84, x113_85, x113_86, x113_87, x113_88, x113_89, x113_90, x113_93, x113_94, x113_96, x113_97, x113_98, x113_100, x113_101, x113_102, x113_103, x113_106, x113_109, x113_112, x113_114, x113_117, pushO, List.length_cons, List.length_nil, Nat.reduceAdd, Nat.reduceLeDiff, Nat.le_refl, Nat.zero_le, isD_i, isD_r, isD_l, isD_n, if_true, if_false, ite_true, ite_false, reduceIte, q1, q2, e111, e110 n9, f0]
  · by_cases q2 : (w >>> ((18 : Int32) &&& 31)) &&& 3 = 0
    · simp only [x113_70, x113_71, x113_72, x113_73, x113_74, x113_76, x113_77, x113_80, x113_81, x113_84, x113_85, x113_86, x113_87, x113_88, x113_89, x113_90, x113_93, x113_94, x113_96, x113_97, x113_98, x113_100, x113_101, x113_102, x113_103, x113_106, x113_109, x113_112, x113_114, x113_117, pushO, List.length_cons, List.length_nil, Nat.reduceAdd, Nat.reduceLeDiff, Nat.le_refl, Nat.zero_le, isD_i, isD_r, isD_l, isD_n, if_true, if_false, ite_true, ite_false, reduceIte, q1, q2, e111, e110 n1001, f0]
    · simp only [x113_70, x113_71, x113_72, x113_73, x113_74, x113_76, x113_77, x113_80, x113_81, x113_84, x113_85, x113_86, x113_87, x113_88, x113_89, x113_90, x113_93, x113_94, x113_96, x113_97, x113_98, x113_100, x113_101, x113_102, x113_103, x113_106, x113_109, x113_112, x113_114, x113_117, pushO, List.length_cons, List.length_nil, Nat.reduceAdd, Nat.reduceLeDiff, Nat.le_refl, Nat.zero_le, isD_i, isD_r, isD_l, isD_n, if_true, if_false, ite_true, ite_false, reduceIte, q1, q2, e111, e110 n9, f0]
theorem act4 {x : Nat} {A L0 : StaM} {sz : Nat} {nn : Nat × Nat} {v w : Int32} {σ : Hp} (h : Ob x A L0 sz nn σ) (ha : AB A) (k0 : ¬ v &&& 15 = 0) (k1 : ¬ v &&& 15 = 1) (k2 : ¬ v &&& 15 = 2) (k3 : ¬ v &&& 15 = 3) : ActR x A L0 sz nn v w σ (acC A (stmV v) (gstV w) (tmsV w)) := by
  have f0 := Ob_o h
  obtain ⟨pm, S, L, u, P, O, J, h, h1, h2, h3⟩ := h
  unfold acC
  have fail : (isSt (stmV v) = true → ¬ errC (stOf A (stmV v)) (gstV w) (tmsV w) = 0) → ∀ K : Option Value → Hp → Prop, X 113 0 [.ref x, .int v, .int w] [] σ K = K (some (.int (if isSt (stmV v) = true then errC (stOf A (stmV v)) (gstV w) (tmsV w) else -1))) σ := fun hf K => by
    simp only [x113_0, x113_1, x113_3, pushO, List.length_cons, List.length_nil, Nat.reduceAdd, Nat.reduceLeDiff, Nat.le_refl, Nat.zero_le, isD_i, isD_r, isD_l, isD_n, if_true, if_false, ite_true, ite_false, reduceIte]
    rw [x113_4, if_neg k0, if_neg k1, if_neg k2, if_neg k3, act4x f0, d82a h (AB_ok ha) hf]
    simp only [x113_120, pushO, List.length_cons, List.length_nil, Nat.reduceAdd, Nat.reduceLeDiff, Nat.le_refl, Nat.zero_le, isD_i, isD_r, isD_l, isD_n, if_true, if_false, ite_true, ite_false, reduceIte]
  cases hs : isSt (stmV v)
  · rw [if_neg Bool.false_ne_true]
    refine Or.inl ⟨rfl, fun K => ?_⟩
    have := fail (fun q => by rw [hs] at q; cases q) K
    rw [hs, if_neg Bool.false_ne_true] at this
    exact this
  · rw [if_pos rfl]
    by_cases he : errC (stOf A (stmV v)) (gstV w) (tmsV w) = 0
    · rw [if_pos he]
      obtain ⟨σ', g1, g2⟩ := d82b h (AB_ok ha) hs he
      refine Or.inr ⟨_, σ', rfl, ⟨_, _, _, _, _, _, _, g1, h1, h2, h3, remU⟩, fun K => ?_⟩
      simp only [x113_0, x113_1, x113_3, pushO, List.length_cons, List.length_nil, Nat.reduceAdd, Nat.reduceLeDiff, Nat.le_refl, Nat.zero_le, isD_i, isD_r, isD_l, isD_n, if_true, if_false, ite_true, ite_false, reduceIte]
      rw [x113_4, if_neg k0, if_neg k1, if_neg k2, if_neg k3, act4x f0, g2]
      simp only [x113_120, pushO, List.length_cons, List.length_nil, Nat.reduceAdd, Nat.reduceLeDiff, Nat.le_refl, Nat.zero_le, isD_i, isD_r, isD_l, isD_n, if_true, if_false, ite_true, ite_false, reduceIte]
    · rw [if_neg he]
      refine Or.inl ⟨rfl, fun K => ?_⟩
      have := fail (fun _ => he) K
      rw [hs, if_pos rfl] at this
      exact this
theorem act_X {x : Nat} {A L0 : StaM} {sz : Nat} {nn : Nat × Nat} {v w : Int32} {σ : Hp} (h : Ob x A L0 sz nn σ) (ha : AB A) : ActR x A L0 sz nn v w σ (actF A L0 v w) := by
  unfold actF
  by_cases k0 : v &&& 15 = 0
  · rw [if_pos k0]
    exact act0 h ha k0
  · rw [if_neg k0]
    by_cases k1 : v &&& 15 = 1
    · rw [if_pos k1]
      exact act1 h ha k1
    · rw [if_neg k1]
      by_cases k2 : v &&& 15 = 2
      · rw [if_pos k2]
        exact act2 h ha k2
      · rw [if_neg k2]
        by_cases k3 : v &&& 15 = 3
        · rw [if_pos k3]
          exact act3 h ha k3
        · rw [if_neg k3]
          exact act4 h ha k0 k1 k2 k3
/-- what else the law asks of the object -/
theorem ob_dig {x : Nat} {A L0 : StaM} {sz : Nat} {nn : Nat × Nat} {σ : Hp} {K : Option Value → Hp → Prop} (h : Ob x A L0 sz nn σ) (ha : AB A) : X 112 0 [.ref x, .null, .null, .null, .null, .null] [] σ K = K (some (.long (dig A))) σ := by
  obtain ⟨pm, S, L, u, P, O, J, h, h1⟩ := h
  exact e112 h (AB_ok ha)
theorem ob_88 {x : Nat} {A L0 : StaM} {sz : Nat} {nn : Nat × Nat} {σ : Hp} {K : Option Value → Hp → Prop} (h : Ob x A L0 sz nn σ) (ha : AB A) : X 88 0 [.ref x, .int 0] [] σ K = K (some (.int (nI (rS (sR (aZ A)))))) σ ∧ X 88 0 [.ref x, .int 2] [] σ K = K (some (.int (nI sz))) σ := by
  obtain ⟨pm, S, L, u, P, O, J, h, h1⟩ := h
  have q := fun w => e88 (w := w) (K := K) h (AB_ok ha)
  exact ⟨(q 0).trans (by rw [v880]), (q 2).trans (by rw [v882])⟩
theorem ob_93 {x : Nat} {A L0 : StaM} {sz : Nat} {nn : Nat × Nat} {s y : Int32} {σ : Hp} {K : Option Value → Hp → Prop} (h : Ob x A L0 sz nn σ) (ha : AB A) : X 93 0 [.ref x, .int s, .int y, .null] [] σ K = K (some (.int (f93 A s y))) σ := by
  obtain ⟨pm, S, L, u, P, O, J, h, h1⟩ := h
  exact e93 h (AB_ok ha)
theorem ob_87 {x : Nat} {A L0 : StaM} {sz : Nat} {nn : Nat × Nat} {s w : Int32} {σ : Hp} {K : Option Value → Hp → Prop} (h : Ob x A L0 sz nn σ) (ha : AB A) : X 87 0 [.ref x, .int s, .int w, .null] [] σ K = K (some (.int (f87 A s w))) σ := by
  obtain ⟨pm, S, L, u, P, O, J, h, h1⟩ := h
  exact e87 h (AB_ok ha)
theorem ob_undo {x : Nat} {A L0 B : StaM} {sz : Nat} {nn : Nat × Nat} {σ : Hp} (h : ObU x A L0 B (sz + 1) nn σ) : ∃ σ', Ob x B L0 sz nn σ' ∧ ∀ K : Option Value → Hp → Prop, X 99 0 [.ref x] [] σ K = K (some (.int (nI sz))) σ' := by
  obtain ⟨pm, S, L, u, P, O, J, h, h1, h2, h3, h4⟩ := h
  obtain ⟨σ', g1, g2⟩ := d99b h (by omega)
  rw [h4] at g1
  rw [Nat.add_sub_cancel] at g1 g2
  exact ⟨σ', ⟨_, _, _, _, _, _, _, g1, h1, h2, h3⟩, g2⟩
theorem ob_save {x : Nat} {A L0 : StaM} {sz : Nat} {nn : Nat × Nat} {σ : Hp} (h : Ob x A L0 sz nn σ) : ∃ σ', Ob x A A sz nn σ' ∧ ∀ K : Option Value → Hp → Prop, X 100 0 [.ref x, .int 0] [] σ K = K (some (.int (sN (aZ A)))) σ' := by
  obtain ⟨pm, S, L, u, P, O, J, h, h1, h2, h3⟩ := h
  obtain ⟨σ', g1, g2⟩ := d100b h (k := 0) (by omega)
  rw [nI_0] at g2
  exact ⟨σ', ⟨_, _, _, _, _, _, _, g1, updN_s, updN_s, (updN_n (by omega)).trans h3⟩, g2⟩
theorem ob_rest {x : Nat} {A L0 : StaM} {sz : Nat} {nn : Nat × Nat} {σ : Hp} (h : Ob x A L0 sz nn σ) : ∃ σ', Ob x L0 L0 (remZ sz + 1) nn σ' ∧ ∀ K : Option Value → Hp → Prop, X 101 0 [.ref x, .int 0] [] σ K = K (some (.int (sN (aZ L0)))) σ' := by
  obtain ⟨pm, S, L, u, P, O, J, h, h1, h2, h3⟩ := h
  obtain ⟨σ', g1, g2⟩ := d101b h (k := 0) (by omega) h2
  rw [nI_0] at g2
  rw [h1] at g1 g2
  exact ⟨σ', ⟨_, _, _, _, _, _, _, g1, h1, h2, h3⟩, g2⟩
