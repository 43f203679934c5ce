/-! the law's loop -/
theorem ks_F {b L : Nat} {xs : Nat → Int32} {σ : Hp} (h : KS b L xs σ) : okL σ b = true ∧ gL σ b = nI L ∧ (∀ i, okA σ 0 b i = inB i L) ∧ (∀ i, gA σ b i = xs i.toNatClampNeg) := by
  refine ⟨?_, ?_, fun i => ?_, fun i => ?_⟩
  · unfold okL
    rw [h.2]
  · unfold gL
    rw [h.2]
  · unfold okA
    rw [h.2]
    rfl
  · unfold gA
    rw [h.2]
theorem St_o {x : Nat} {nn : Nat × Nat} {σ : Hp} (h : St x nn σ) : okO σ x 8 = true := by
  obtain ⟨A, pm, sz, S, L, u, P, O, J, μ, h, r⟩ := h
  exact (sysF h).1
theorem St_n {x : Nat} {nn : Nat × Nat} {σ : Hp} (h : St x nn σ) : σ.2 = nn := by
  obtain ⟨A, pm, sz, S, L, u, P, O, J, μ, h, r⟩ := h
  exact ysNn h
theorem nI_a2 (a : Nat) : nI a + 2 = nI (a + 2) := by rw [L2, nIa]
theorem nI_a3 (a : Nat) : nI a + 3 = nI (a + 3) := by rw [L3, nIa]
theorem nI_a4 (a : Nat) : nI a + 4 = nI (a + 4) := by rw [show (4 : Int32) = nI 4 by decide +kernel, nIa]
theorem sw171_0 {ls st : List Value} {σ : Hp} {K : Option Value → Hp → Prop} : X 171 32 ls (.int 0 :: st) σ K = X 171 132 ls st σ K := by
  rw [x171_32, if_pos rfl]
theorem sw171_1 {ls st : List Value} {σ : Hp} {K : Option Value → Hp → Prop} : X 171 32 ls (.int 1 :: st) σ K = X 171 155 ls st σ K := by
  rw [x171_32, if_neg (by decide : ¬ (1 : Int32) = 0), if_pos rfl]
theorem sw171_2 {ls st : List Value} {σ : Hp} {K : Option Value → Hp → Prop} : X 171 32 ls (.int 2 :: st) σ K = X 171 198 ls st σ K := by
  rw [x171_32, if_neg (by decide : ¬ (2 : Int32) = 0), if_neg (by decide : ¬ (2 : Int32) = 1), if_pos rfl]
theorem sw171_3 {ls st : List Value} {σ : Hp} {K : Option Value → Hp → Prop} : X 171 32 ls (.int 3 :: st) σ K = X 171 221 ls st σ K := by
  rw [x171_32, if_neg (by decide : ¬ (3 : Int32) = 0), if_neg (by decide : ¬ (3 : Int32) = 1), if_neg (by decide : ¬ (3 : Int32) = 2), if_pos rfl]
theorem sw171_4 {ls st : List Value} {σ : Hp} {K : Option Value → Hp → Prop} : X 171 32 ls (.int 4 :: st) σ K = X 171 234 ls st σ K := by
  rw [x171_32, if_neg (by decide : ¬ (4 : Int32) = 0), if_neg (by decide : ¬ (4 : Int32) = 1), if_neg (by decide : ¬ (4 : Int32) = 2), if_neg (by decide : ¬ (4 : Int32) = 3), if_pos rfl]
theorem sw171_5 {ls st : List Value} {σ : Hp} {K : Option Value → Hp → Prop} : X 171 32 ls (.int 5 :: st) σ K = X 171 277 ls st σ K := by
  rw [x171_32, if_neg (by decide : ¬ (5 : Int32) = 0), if_neg (by decide : ¬ (5 : Int32) = 1), if_neg (by decide : ¬ (5 : Int32) = 2), if_neg (by decide : ¬ (5 : Int32) = 3), if_neg (by decide : ¬ (5 : Int32) = 4), if_pos rfl]
theorem sw171_6 {ls st : List Value} {σ : Hp} {K : Option Value → Hp → Prop} : X 171 32 ls (.int 6 :: st) σ K = X 171 320 ls st σ K := by
  rw [x171_32, if_neg (by decide : ¬ (6 : Int32) = 0), if_neg (by decide : ¬ (6 : Int32) = 1), if_neg (by decide : ¬ (6 : Int32) = 2), if_neg (by decide : ¬ (6 : Int32) = 3), if_neg (by decide : ¬ (6 : Int32) = 4), if_neg (by decide : ¬ (6 : Int32) = 5), if_pos rfl]
theorem sw171_7 {ls st : List Value} {σ : Hp} {K : Option Value → Hp → Prop} : X 171 32 ls (.int 7 :: st) σ K = X 171 353 ls st σ K := by
  rw [x171_32, if_neg (by decide : ¬ (7 : Int32) = 0), if_neg (by decide : ¬ (7 : Int32) = 1), if_neg (by decide : ¬ (7 : Int32) = 2), if_neg (by decide : ¬ (7 : Int32) = 3), if_neg (by decide : ¬ (7 : Int32) = 4), if_neg (by decide : ¬ (7 : Int32) = 5), if_neg (by decide : ¬ (7 : Int32) = 6), if_pos rfl]
theorem sw171_8 {ls st : List Value} {σ : Hp} {K : Option Value → Hp → Prop} : X 171 32 ls (.int 8 :: st) σ K = X 171 376 ls st σ K := by
  rw [x171_32, if_neg (by decide : ¬ (8 : Int32) = 0), if_neg (by decide : ¬ (8 : Int32) = 1), if_neg (by decide : ¬ (8 : Int32) = 2), if_neg (by decide : ¬ (8 : Int32) = 3), if_neg (by decide : ¬ (8 : Int32) = 4), if_neg (by decide : ¬ (8 : Int32) = 5), if_neg (by decide : ¬ (8 : Int32) = 6), if_neg (by decide : ¬ (8 : Int32) = 7), if_pos rfl]
theorem sw171_9 {ls st : List Value} {σ : Hp} {K : Option Value → Hp → Prop} : X 171 32 ls (.int 9 :: st) σ K = X 171 419 ls st σ K := by
  rw [x171_32, if_neg (by decide : ¬ (9 : Int32) = 0), if_neg (by decide : ¬ (9 : Int32) = 1), if_neg (by decide : ¬ (9 : Int32) = 2), if_neg (by decide : ¬ (9 : Int32) = 3), if_neg (by decide : ¬ (9 : Int32) = 4), if_neg (by decide : ¬ (9 : Int32) = 5), if_neg (by decide : ¬ (9 : Int32) = 6), if_neg (by decide : ¬ (9 : Int32) = 7), if_neg (by decide : ¬ (9 : Int32) = 8), if_pos rfl]
theorem sw171_10 {ls st : List Value} {σ : Hp} {K : Option Value → Hp → Prop} : X 171 32 ls (.int 10 :: st) σ K = X 171 452 ls st σ K := by
  rw [x171_32, if_neg (by decide : ¬ (10 : Int32) = 0), if_neg (by decide : ¬ (10 : Int32) = 1), if_neg (by decide : ¬ (10 : Int32) = 2), if_neg (by decide : ¬ (10 : Int32) = 3), if_neg (by decide : ¬ (10 : Int32) = 4), if_neg (by decide : ¬ (10 : Int32) = 5), if_neg (by decide : ¬ (10 : Int32) = 6), if_neg (by decide : ¬ (10 : Int32) = 7), if_neg (by decide : ¬ (10 : Int32) = 8), if_neg (by decide : ¬ (10 : Int32) = 9), if_pos rfl]
theorem sw171_11 {ls st : List Value} {σ : Hp} {K : Option Value → Hp → Prop} : X 171 32 ls (.int 11 :: st) σ K = X 171 485 ls st σ K := by
  rw [x171_32, if_neg (by decide : ¬ (11 : Int32) = 0), if_neg (by decide : ¬ (11 : Int32) = 1), if_neg (by decide : ¬ (11 : Int32) = 2), if_neg (by decide : ¬ (11 : Int32) = 3), if_neg (by decide : ¬ (11 : Int32) = 4), if_neg (by decide : ¬ (11 : Int32) = 5), if_neg (by decide : ¬ (11 : Int32) = 6), if_neg (by decide : ¬ (11 : Int32) = 7), if_neg (by decide : ¬ (11 : Int32) = 8), if_neg (by decide : ¬ (11 : Int32) = 9), if_neg (by decide : ¬ (11 : Int32) = 10), if_pos rfl]
theorem sw171_12 {ls st : List Value} {σ : Hp} {K : Option Value → Hp → Prop} : X 171 32 ls (.int 12 :: st) σ K = X 171 508 ls st σ K := by
  rw [x171_32, if_neg (by decide : ¬ (12 : Int32) = 0), if_neg (by decide : ¬ (12 : Int32) = 1), if_neg (by decide : ¬ (12 : Int32) = 2), if_neg (by decide : ¬ (12 : Int32) = 3), if_neg (by decide : ¬ (12 : Int32) = 4), if_neg (by decide : ¬ (12 : Int32) = 5), if_neg (by decide : ¬ (12 : Int32) = 6), if_neg (by decide : ¬ (12 : Int32) = 7), if_neg (by decide : ¬ (12 : Int32) = 8), if_neg (by decide : ¬ (12 : Int32) = 9), if_neg (by decide : ¬ (12 : Int32) = 10), if_neg (by decide : ¬ (12 : Int32) = 11), if_pos rfl]
theorem sw171_13 {ls st : List Value} {σ : Hp} {K : Option Value → Hp → Prop} : X 171 32 ls (.int 13 :: st) σ K = X 171 541 ls st σ K := by
  rw [x171_32, if_neg (by decide : ¬ (13 : Int32) = 0), if_neg (by decide : ¬ (13 : Int32) = 1), if_neg (by decide : ¬ (13 : Int32) = 2), if_neg (by decide : ¬ (13 : Int32) = 3), if_neg (by decide : ¬ (13 : Int32) = 4), if_neg (by decide : ¬ (13 : Int32) = 5), if_neg (by decide : ¬ (13 : Int32) = 6), if_neg (by decide : ¬ (13 : Int32) = 7), if_neg (by decide : ¬ (13 : Int32) = 8), if_neg (by decide : ¬ (13 : Int32) = 9), if_neg (by decide : ¬ (13 : Int32) = 10), if_neg (by decide : ¬ (13 : Int32) = 11), if_neg (by decide : ¬ (13 : Int32) = 12), if_pos rfl]
theorem sw171_14 {ls st : List Value} {σ : Hp} {K : Option Value → Hp → Prop} : X 171 32 ls (.int 14 :: st) σ K = X 171 574 ls st σ K := by
  rw [x171_32, if_neg (by decide : ¬ (14 : Int32) = 0), if_neg (by decide : ¬ (14 : Int32) = 1), if_neg (by decide : ¬ (14 : Int32) = 2), if_neg (by decide : ¬ (14 : Int32) = 3), if_neg (by decide : ¬ (14 : Int32) = 4), if_neg (by decide : ¬ (14 : Int32) = 5), if_neg (by decide : ¬ (14 : Int32) = 6), if_neg (by decide : ¬ (14 : Int32) = 7), if_neg (by decide : ¬ (14 : Int32) = 8), if_neg (by decide : ¬ (14 : Int32) = 9), if_neg (by decide : ¬ (14 : Int32) = 10), if_neg (by decide : ¬ (14 : Int32) = 11), if_neg (by decide : ¬ (14 : Int32) = 12), if_neg (by decide : ¬ (14 : Int32) = 13), if_pos rfl]
theorem sw171_15 {ls st : List Value} {σ : Hp} {K : Option Value → Hp → Prop} : X 171 32 ls (.int 15 :: st) σ K = X 171 627 ls st σ K := by
  rw [x171_32, if_neg (by decide : ¬ (15 : Int32) = 0), if_neg (by decide : ¬ (15 : Int32) = 1), if_neg (by decide : ¬ (15 : Int32) = 2), if_neg (by decide : ¬ (15 : Int32) = 3), if_neg (by decide : ¬ (15 : Int32) = 4), if_neg (by decide : ¬ (15 : Int32) = 5), if_neg (by decide : ¬ (15 : Int32) = 6), if_neg (by decide : ¬ (15 : Int32) = 7), if_neg (by decide : ¬ (15 : Int32) = 8), if_neg (by decide : ¬ (15 : Int32) = 9), if_neg (by decide : ¬ (15 : Int32) = 10), if_neg (by decide : ¬ (15 : Int32) = 11), if_neg (by decide : ¬ (15 : Int32) = 12), if_neg (by decide : ¬ (15 : Int32) = 13), if_neg (by decide : ¬ (15 : Int32) = 14), if_pos rfl]
theorem sw171_16 {ls st : List Value} {σ : Hp} {K : Option Value → Hp → Prop} : X 171 32 ls (.int 16 :: st) σ K = X 171 640 ls st σ K := by
  rw [x171_32, if_neg (by decide : ¬ (16 : Int32) = 0), if_neg (by decide : ¬ (16 : Int32) = 1), if_neg (by decide : ¬ (16 : Int32) = 2), if_neg (by decide : ¬ (16 : Int32) = 3), if_neg (by decide : ¬ (16 : Int32) = 4), if_neg (by decide : ¬ (16 : Int32) = 5), if_neg (by decide : ¬ (16 : Int32) = 6), if_neg (by decide : ¬ (16 : Int32) = 7), if_neg (by decide : ¬ (16 : Int32) = 8), if_neg (by decide : ¬ (16 : Int32) = 9), if_neg (by decide : ¬ (16 : Int32) = 10), if_neg (by decide : ¬ (16 : Int32) = 11), if_neg (by decide : ¬ (16 : Int32) = 12), if_neg (by decide : ¬ (16 : Int32) = 13), if_neg (by decide : ¬ (16 : Int32) = 14), if_neg (by decide : ¬ (16 : Int32) = 15), if_pos rfl]
theorem sw171_17 {ls st : List Value} {σ : Hp} {K : Option Value → Hp → Prop} : X 171 32 ls (.int 17 :: st) σ K = X 171 653 ls st σ K := by
  rw [x171_32, if_neg (by decide : ¬ (17 : Int32) = 0), if_neg (by decide : ¬ (17 : Int32) = 1), if_neg (by decide : ¬ (17 : Int32) = 2), if_neg (by decide : ¬ (17 : Int32) = 3), if_neg (by decide : ¬ (17 : Int32) = 4), if_neg (by decide : ¬ (17 : Int32) = 5), if_neg (by decide : ¬ (17 : Int32) = 6), if_neg (by decide : ¬ (17 : Int32) = 7), if_neg (by decide : ¬ (17 : Int32) = 8), if_neg (by decide : ¬ (17 : Int32) = 9), if_neg (by decide : ¬ (17 : Int32) = 10), if_neg (by decide : ¬ (17 : Int32) = 11), if_neg (by decide : ¬ (17 : Int32) = 12), if_neg (by decide : ¬ (17 : Int32) = 13), if_neg (by decide : ¬ (17 : Int32) = 14), if_neg (by decide : ¬ (17 : Int32) = 15), if_neg (by decide : ¬ (17 : Int32) = 16), if_pos rfl]
theorem sw171_18 {ls st : List Value} {σ : Hp} {K : Option Value → Hp → Prop} : X 171 32 ls (.int 18 :: st) σ K = X 171 666 ls st σ K := by
  rw [x171_32, if_neg (by decide : ¬ (18 : Int32) = 0), if_neg (by decide : ¬ (18 : Int32) = 1), if_neg (by decide : ¬ (18 : Int32) = 2), if_neg (by decide : ¬ (18 : Int32) = 3), if_neg (by decide : ¬ (18 : Int32) = 4), if_neg (by decide : ¬ (18 : Int32) = 5), if_neg (by decide : ¬ (18 : Int32) = 6), if_neg (by decide : ¬ (18 : Int32) = 7), if_neg (by decide : ¬ (18 : Int32) = 8), if_neg (by decide : ¬ (18 : Int32) = 9), if_neg (by decide : ¬ (18 : Int32) = 10), if_neg (by decide : ¬ (18 : Int32) = 11), if_neg (by decide : ¬ (18 : Int32) = 12), if_neg (by decide : ¬ (18 : Int32) = 13), if_neg (by decide : ¬ (18 : Int32) = 14), if_neg (by decide : ¬ (18 : Int32) = 15), if_neg (by decide : ¬ (18 : Int32) = 16), if_neg (by decide : ¬ (18 : Int32) = 17), if_pos rfl]
theorem sw171_19 {ls st : List Value} {σ : Hp} {K : Option Value → Hp → Prop} : X 171 32 ls (.int 19 :: st) σ K = X 171 679 ls st σ K := by
  rw [x171_32, if_neg (by decide : ¬ (19 : Int32) = 0), if_neg (by decide : ¬ (19 : Int32) = 1), if_neg (by decide : ¬ (19 : Int32) = 2), if_neg (by decide : ¬ (19 : Int32) = 3), if_neg (by decide : ¬ (19 : Int32) = 4), if_neg (by decide : ¬ (19 : Int32) = 5), if_neg (by decide : ¬ (19 : Int32) = 6), if_neg (by decide : ¬ (19 : Int32) = 7), if_neg (by decide : ¬ (19 : Int32) = 8), if_neg (by decide : ¬ (19 : Int32) = 9), if_neg (by decide : ¬ (19 : Int32) = 10), if_neg (by decide : ¬ (19 : Int32) = 11), if_neg (by decide : ¬ (19 : Int32) = 12), if_neg (by decide : ¬ (19 : Int32) = 13), if_neg (by decide : ¬ (19 : Int32) = 14), if_neg (by decide : ¬ (19 : Int32) = 15), if_neg (by decide : ¬ (19 : Int32) = 16), if_neg (by decide : ¬ (19 : Int32) = 17), if_neg (by decide : ¬ (19 : Int32) = 18), if_pos rfl]
theorem sw171_20 {ls st : List Value} {σ : Hp} {K : Option Value → Hp → Prop} : X 171 32 ls (.int 20 :: st) σ K = X 171 702 ls st σ K := by
  rw [x171_32, if_neg (by decide : ¬ (20 : Int32) = 0), if_neg (by decide : ¬ (20 : Int32) = 1), if_neg (by decide : ¬ (20 : Int32) = 2), if_neg (by decide : ¬ (20 : Int32) = 3), if_neg (by decide : ¬ (20 : Int32) = 4), if_neg (by decide : ¬ (20 : Int32) = 5), if_neg (by decide : ¬ (20 : Int32) = 6), if_neg (by decide : ¬ (20 : Int32) = 7), if_neg (by decide : ¬ (20 : Int32) = 8), if_neg (by decide : ¬ (20 : Int32) = 9), if_neg (by decide : ¬ (20 : Int32) = 10), if_neg (by decide : ¬ (20 : Int32) = 11), if_neg (by decide : ¬ (20 : Int32) = 12), if_neg (by decide : ¬ (20 : Int32) = 13), if_neg (by decide : ¬ (20 : Int32) = 14), if_neg (by decide : ¬ (20 : Int32) = 15), if_neg (by decide : ¬ (20 : Int32) = 16), if_neg (by decide : ¬ (20 : Int32) = 17), if_neg (by decide : ¬ (20 : Int32) = 18), if_neg (by decide : ¬ (20 : Int32) = 19), if_pos rfl]
theorem sw171_d {a : Int32} {ls st : List Value} {σ : Hp} {K : Option Value → Hp → Prop} (h0 : ¬ a = 0) (h1 : ¬ a = 1) (h2 : ¬ a = 2) (h3 : ¬ a = 3) (h4 : ¬ a = 4) (h5 : ¬ a = 5) (h6 : ¬ a = 6) (h7 : ¬ a = 7) (h8 : ¬ a = 8) (h9 : ¬ a = 9) (h10 : ¬ a = 10) (h11 : ¬ a = 11) (h12 : ¬ a = 12) (h13 : ¬ a = 13) (h14 : ¬ a = 14) (h15 : ¬ a = 15) (h16 : ¬ a = 16) (h17 : ¬ a = 17) (h18 : ¬ a = 18) (h19 : ¬ a = 19) (h20 : ¬ a = 20) : X 171 32 ls (.int a :: st) σ K = X 171 725 ls st σ K := by
  rw [x171_32, if_neg h0, if_neg h1, if_neg h2, if_neg h3, if_neg h4, if_neg h5, if_neg h6, if_neg h7, if_neg h8, if_neg h9, if_neg h10, if_neg h11, if_neg h12, if_neg h13, if_neg h14, if_neg h15, if_neg h16, if_neg h17, if_neg h18, if_neg h19, if_neg h20]
theorem lw_0 {x b L i : Nat} {nn : Nat × Nat} {xs : Nat → Int32} {σ : Hp} (hi : i + 4 ≤ L) (hL : L ≤ 2048) (hst : St x nn σ) (hk : KS b L xs σ) : ∃ σ2 : Hp, St x nn σ2 ∧ KS b L xs σ2 ∧ ∀ K : Option Value → Hp → Prop, X 171 132 [.ref b, .ref x, .ref (x + 166), .int (nI i)] [] σ K = X 171 725 [.ref b, .ref x, .ref (x + 166), .int (nI i)] [] σ2 K := by
  obtain ⟨v, σ1, σ2, s2, ok1, p1, p2⟩ := c81 (y := (xs (i + 1))) hst
  have hk1 := ks_X hk p1
  have hk2 := ks_X hk1 p2
  refine ⟨σ2, s2, hk2, fun K => ?_⟩
  have f0 := ks_F hk
  have f1 := ks_F hk1
  have q0 := St_o hst
  have b1 : inB (nI (i + 1)) L = true := inB_nI (by omega) (by omega)
  have b2 : inB (nI (i + 2)) L = true := inB_nI (by omega) (by omega)
  have b3 : inB (nI (i + 3)) L = true := inB_nI (by omega) (by omega)
  have d1 : (nI (i + 1)).toNatClampNeg = i + 1 := nI_clamp (by omega)
  have d2 : (nI (i + 2)).toNatClampNeg = i + 2 := nI_clamp (by omega)
  have d3 : (nI (i + 3)).toNatClampNeg = i + 3 := nI_clamp (by omega)
  simp only [x171_132, x171_133, x171_134, x171_135, x171_136, x171_137, x171_138, x171_141, x171_142, x171_143, x171_144, x171_145, x171_146, x171_147, x171_150, pushO, List.length_cons, List.length_nil, Nat.reduceAdd, Nat.reduceLeDiff, Nat.le_refl, Nat.zero_le, isD_i, isD_r, isD_l, isD_n, if_true, if_false, ite_true, ite_false, reduceIte, f0, f1, q0, ok1, nI_a1, nI_a2, nI_a3, b1, b2, b3, d1, d2, d3, p1, p2]
theorem lw_1 {x b L i : Nat} {nn : Nat × Nat} {xs : Nat → Int32} {σ : Hp} (hi : i + 4 ≤ L) (hL : L ≤ 2048) (hst : St x nn σ) (hk : KS b L xs σ) : ∃ σ2 : Hp, St x nn σ2 ∧ KS b L xs σ2 ∧ ∀ K : Option Value → Hp → Prop, X 171 155 [.ref b, .ref x, .ref (x + 166), .int (nI i)] [] σ K = X 171 725 [.ref b, .ref x, .ref (x + 166), .int (nI i)] [] σ2 K := by
  obtain ⟨v, σ1, σ2, s2, ok1, p1, p2⟩ := c82 (s := (xs (i + 1))) (y := (xs (i + 2))) (z := (xs (i + 3))) hst
  have hk1 := ks_X hk p1
  have hk2 := ks_X hk1 p2
  refine ⟨σ2, s2, hk2, fun K => ?_⟩
  have f0 := ks_F hk
  have f1 := ks_F hk1
  have q0 := St_o hst
  have b1 : inB (nI (i + 1)) L = true := inB_nI (by omega) (by omega)
  have b2 : inB (nI (i + 2)) L = true := inB_nI (by omega) (by omega)
  have b3 : inB (nI (i + 3)) L = true := inB_nI (by omega) (by omega)
  have d1 : (nI (i + 1)).toNatClampNeg = i + 1 := nI_clamp (by omega)
  have d2 : (nI (i + 2)).toNatClampNeg = i + 2 := nI_clamp (by omega)
  have d3 : (nI (i + 3)).toNatClampNeg = i + 3 := nI_clamp (by omega)
  simp only [x171_155, x171_156, x171_157, x171_158, x171_159, x171_160, x171_161, x171_162, x171_163, x171_164, x171_165, x171_166, x171_167, x171_168, x171_169, x171_170, x171_171, x171_174, x171_175, x171_176, x171_177, x171_178, x171_179, x171_180, x171_181, x171_182, x171_183, x171_184, x171_185, x171_186, x171_187, x171_188, x171_189, x171_190, x171_193, pushO, List.length_cons, List.length_nil, Nat.reduceAdd, Nat.reduceLeDiff, Nat.le_refl, Nat.zero_le, isD_i, isD_r, isD_l, isD_n, if_true, if_false, ite_true, ite_false, reduceIte, f0, f1, q0, ok1, nI_a1, nI_a2, nI_a3, b1, b2, b3, d1, d2, d3, p1, p2]
theorem lw_2 {x b L i : Nat} {nn : Nat × Nat} {xs : Nat → Int32} {σ : Hp} (hi : i + 4 ≤ L) (hL : L ≤ 2048) (hst : St x nn σ) (hk : KS b L xs σ) : ∃ σ2 : Hp, St x nn σ2 ∧ KS b L xs σ2 ∧ ∀ K : Option Value → Hp → Prop, X 171 198 [.ref b, .ref x, .ref (x + 166), .int (nI i)] [] σ K = X 171 725 [.ref b, .ref x, .ref (x + 166), .int (nI i)] [] σ2 K := by
  obtain ⟨v, σ1, σ2, s2, ok1, p1, p2⟩ := c83 (s := (xs (i + 1))) hst
  have hk1 := ks_X hk p1
  have hk2 := ks_X hk1 p2
  refine ⟨σ2, s2, hk2, fun K => ?_⟩
  have f0 := ks_F hk
  have f1 := ks_F hk1
  have q0 := St_o hst
  have b1 : inB (nI (i + 1)) L = true := inB_nI (by omega) (by omega)
  have b2 : inB (nI (i + 2)) L = true := inB_nI (by omega) (by omega)
  have b3 : inB (nI (i + 3)) L = true := inB_nI (by omega) (by omega)
  have d1 : (nI (i + 1)).toNatClampNeg = i + 1 := nI_clamp (by omega)
  have d2 : (nI (i + 2)).toNatClampNeg = i + 2 := nI_clamp (by omega)
  have d3 : (nI (i + 3)).toNatClampNeg = i + 3 := nI_clamp (by omega)
  simp only [x171_198, x171_199, x171_200, x171_201, x171_202, x171_203, x171_204, x171_207, x171_208, x171_209, x171_210, x171_211, x171_212, x171_213, x171_216, pushO, List.length_cons, List.length_nil, Nat.reduceAdd, Nat.reduceLeDiff, Nat.le_refl, Nat.zero_le, isD_i, isD_r, isD_l, isD_n, if_true, if_false, ite_true, ite_false, reduceIte, f0, f1, q0, ok1, nI_a1, nI_a2, nI_a3, b1, b2, b3, d1, d2, d3, p1, p2]
theorem lw_3 {x b L i : Nat} {nn : Nat × Nat} {xs : Nat → Int32} {σ : Hp} (hi : i + 4 ≤ L) (hL : L ≤ 2048) (hst : St x nn σ) (hk : KS b L xs σ) : ∃ σ2 : Hp, St x nn σ2 ∧ KS b L xs σ2 ∧ ∀ K : Option Value → Hp → Prop, X 171 221 [.ref b, .ref x, .ref (x + 166), .int (nI i)] [] σ K = X 171 725 [.ref b, .ref x, .ref (x + 166), .int (nI i)] [] σ2 K := by
  obtain ⟨v, σ1, σ2, s2, ok1, p1, p2⟩ := c84  hst
  have hk1 := ks_X hk p1
  have hk2 := ks_X hk1 p2
  refine ⟨σ2, s2, hk2, fun K => ?_⟩
  have f0 := ks_F hk
  have f1 := ks_F hk1
  have q0 := St_o hst
  have b1 : inB (nI (i + 1)) L = true := inB_nI (by omega) (by omega)
  have b2 : inB (nI (i + 2)) L = true := inB_nI (by omega) (by omega)
  have b3 : inB (nI (i + 3)) L = true := inB_nI (by omega) (by omega)
  have d1 : (nI (i + 1)).toNatClampNeg = i + 1 := nI_clamp (by omega)
  have d2 : (nI (i + 2)).toNatClampNeg = i + 2 := nI_clamp (by omega)
  have d3 : (nI (i + 3)).toNatClampNeg = i + 3 := nI_clamp (by omega)
  simp only [x171_221, x171_222, x171_225, x171_226, x171_229, pushO, List.length_cons, List.length_nil, Nat.reduceAdd, Nat.reduceLeDiff, Nat.le_refl, Nat.zero_le, isD_i, isD_r, isD_l, isD_n, if_true, if_false, ite_true, ite_false, reduceIte, f0, f1, q0, ok1, nI_a1, nI_a2, nI_a3, b1, b2, b3, d1, d2, d3, p1, p2]
theorem lw_4 {x b L i : Nat} {nn : Nat × Nat} {xs : Nat → Int32} {σ : Hp} (hi : i + 4 ≤ L) (hL : L ≤ 2048) (hst : St x nn σ) (hk : KS b L xs σ) : ∃ σ2 : Hp, St x nn σ2 ∧ KS b L xs σ2 ∧ ∀ K : Option Value → Hp → Prop, X 171 234 [.ref b, .ref x, .ref (x + 166), .int (nI i)] [] σ K = X 171 725 [.ref b, .ref x, .ref (x + 166), .int (nI i)] [] σ2 K := by
  obtain ⟨v, σ1, σ2, s2, ok1, p1, p2⟩ := c85 (s := (xs (i + 1))) (i := (xs (i + 2))) (w := (xs (i + 3))) hst
  have hk1 := ks_X hk p1
  have hk2 := ks_X hk1 p2
  refine ⟨σ2, s2, hk2, fun K => ?_⟩
  have f0 := ks_F hk
  have f1 := ks_F hk1
  have q0 := St_o hst
  have b1 : inB (nI (i + 1)) L = true := inB_nI (by omega) (by omega)
  have b2 : inB (nI (i + 2)) L = true := inB_nI (by omega) (by omega)
  have b3 : inB (nI (i + 3)) L = true := inB_nI (by omega) (by omega)
  have d1 : (nI (i + 1)).toNatClampNeg = i + 1 := nI_clamp (by omega)
  have d2 : (nI (i + 2)).toNatClampNeg = i + 2 := nI_clamp (by omega)
  have d3 : (nI (i + 3)).toNatClampNeg = i + 3 := nI_clamp (by omega)
  simp only [x171_234, x171_235, x171_236, x171_237, x171_238, x171_239, x171_240, x171_241, x171_242, x171_243, x171_244, x171_245, x171_246, x171_247, x171_248, x171_249, x171_250, x171_253, x171_254, x171_255, x171_256, x171_257, x171_258, x171_259, x171_260, x171_261, x171_262, x171_263, x171_264, x171_265, x171_266, x171_267, x171_268, x171_269, x171_272, pushO, List.length_cons, List.length_nil, Nat.reduceAdd, Nat.reduceLeDiff, Nat.le_refl, Nat.zero_le, isD_i, isD_r, isD_l, isD_n, if_true, if_false, ite_true, ite_false, reduceIte, f0, f1, q0, ok1, nI_a1, nI_a2, nI_a3, b1, b2, b3, d1, d2, d3, p1, p2]
theorem lw_5 {x b L i : Nat} {nn : Nat × Nat} {xs : Nat → Int32} {σ : Hp} (hi : i + 4 ≤ L) (hL : L ≤ 2048) (hst : St x nn σ) (hk : KS b L xs σ) : ∃ σ2 : Hp, St x nn σ2 ∧ KS b L xs σ2 ∧ ∀ K : Option Value → Hp → Prop, X 171 277 [.ref b, .ref x, .ref (x + 166), .int (nI i)] [] σ K = X 171 725 [.ref b, .ref x, .ref (x + 166), .int (nI i)] [] σ2 K := by
  obtain ⟨v, σ1, σ2, s2, ok1, p1, p2⟩ := c86 (s := (xs (i + 1))) (y := (xs (i + 2))) (w := (xs (i + 3))) hst
  have hk1 := ks_X hk p1
  have hk2 := ks_X hk1 p2
  refine ⟨σ2, s2, hk2, fun K => ?_⟩
  have f0 := ks_F hk
  have f1 := ks_F hk1
  have q0 := St_o hst
  have b1 : inB (nI (i + 1)) L = true := inB_nI (by omega) (by omega)
  have b2 : inB (nI (i + 2)) L = true := inB_nI (by omega) (by omega)
  have b3 : inB (nI (i + 3)) L = true := inB_nI (by omega) (by omega)
  have d1 : (nI (i + 1)).toNatClampNeg = i + 1 := nI_clamp (by omega)
  have d2 : (nI (i + 2)).toNatClampNeg = i + 2 := nI_clamp (by omega)
  have d3 : (nI (i + 3)).toNatClampNeg = i + 3 := nI_clamp (by omega)
  simp only [x171_277, x171_278, x171_279, x171_280, x171_281, x171_282, x171_283, x171_284, x171_285, x171_286, x171_287, x171_288, x171_289, x171_290, x171_291, x171_292, x171_293, x171_296, x171_297, x171_298, x171_299, x171_300, x171_301, x171_302, x171_303, x171_304, x171_305, x171_306, x171_307, x171_308, x171_309, x171_310, x171_311, x171_312, x171_315, pushO, List.length_cons, List.length_nil, Nat.reduceAdd, Nat.reduceLeDiff, Nat.le_refl, Nat.zero_le, isD_i, isD_r, isD_l, isD_n, if_true, if_false, ite_true, ite_false, reduceIte, f0, f1, q0, ok1, nI_a1, nI_a2, nI_a3, b1, b2, b3, d1, d2, d3, p1, p2]
theorem lw_6 {x b L i : Nat} {nn : Nat × Nat} {xs : Nat → Int32} {σ : Hp} (hi : i + 4 ≤ L) (hL : L ≤ 2048) (hst : St x nn σ) (hk : KS b L xs σ) : ∃ σ2 : Hp, St x nn σ2 ∧ KS b L xs σ2 ∧ ∀ K : Option Value → Hp → Prop, X 171 320 [.ref b, .ref x, .ref (x + 166), .int (nI i)] [] σ K = X 171 725 [.ref b, .ref x, .ref (x + 166), .int (nI i)] [] σ2 K := by
  obtain ⟨v, σ1, σ2, s2, ok1, p1, p2⟩ := c87 (s := (xs (i + 1))) (w := (xs (i + 2))) hst
  have hk1 := ks_X hk p1
  have hk2 := ks_X hk1 p2
  refine ⟨σ2, s2, hk2, fun K => ?_⟩
  have f0 := ks_F hk
  have f1 := ks_F hk1
  have q0 := St_o hst
  have b1 : inB (nI (i + 1)) L = true := inB_nI (by omega) (by omega)
  have b2 : inB (nI (i + 2)) L = true := inB_nI (by omega) (by omega)
  have b3 : inB (nI (i + 3)) L = true := inB_nI (by omega) (by omega)
  have d1 : (nI (i + 1)).toNatClampNeg = i + 1 := nI_clamp (by omega)
  have d2 : (nI (i + 2)).toNatClampNeg = i + 2 := nI_clamp (by omega)
  have d3 : (nI (i + 3)).toNatClampNeg = i + 3 := nI_clamp (by omega)
  simp only [x171_320, x171_321, x171_322, x171_323, x171_324, x171_325, x171_326, x171_327, x171_328, x171_329, x171_330, x171_331, x171_334, x171_335, x171_336, x171_337, x171_338, x171_339, x171_340, x171_341, x171_342, x171_343, x171_344, x171_345, x171_348, pushO, List.length_cons, List.length_nil, Nat.reduceAdd, Nat.reduceLeDiff, Nat.le_refl, Nat.zero_le, isD_i, isD_r, isD_l, isD_n, if_true, if_false, ite_true, ite_false, reduceIte, f0, f1, q0, ok1, nI_a1, nI_a2, nI_a3, b1, b2, b3, d1, d2, d3, p1, p2]
theorem lw_7 {x b L i : Nat} {nn : Nat × Nat} {xs : Nat → Int32} {σ : Hp} (hi : i + 4 ≤ L) (hL : L ≤ 2048) (hst : St x nn σ) (hk : KS b L xs σ) : ∃ σ2 : Hp, St x nn σ2 ∧ KS b L xs σ2 ∧ ∀ K : Option Value → Hp → Prop, X 171 353 [.ref b, .ref x, .ref (x + 166), .int (nI i)] [] σ K = X 171 725 [.ref b, .ref x, .ref (x + 166), .int (nI i)] [] σ2 K := by
  obtain ⟨v, σ1, σ2, s2, ok1, p1, p2⟩ := c88 (w := (xs (i + 1))) hst
  have hk1 := ks_X hk p1
  have hk2 := ks_X hk1 p2
  refine ⟨σ2, s2, hk2, fun K => ?_⟩
  have f0 := ks_F hk
  have f1 := ks_F hk1
  have q0 := St_o hst
  have b1 : inB (nI (i + 1)) L = true := inB_nI (by omega) (by omega)
  have b2 : inB (nI (i + 2)) L = true := inB_nI (by omega) (by omega)
  have b3 : inB (nI (i + 3)) L = true := inB_nI (by omega) (by omega)
  have d1 : (nI (i + 1)).toNatClampNeg = i + 1 := nI_clamp (by omega)
  have d2 : (nI (i + 2)).toNatClampNeg = i + 2 := nI_clamp (by omega)
  have d3 : (nI (i + 3)).toNatClampNeg = i + 3 := nI_clamp (by omega)
  simp only [x171_353, x171_354, x171_355, x171_356, x171_357, x171_358, x171_359, x171_362, x171_363, x171_364, x171_365, x171_366, x171_367, x171_368, x171_371, pushO, List.length_cons, List.length_nil, Nat.reduceAdd, Nat.reduceLeDiff, Nat.le_refl, Nat.zero_le, isD_i, isD_r, isD_l, isD_n, if_true, if_false, ite_true, ite_false, reduceIte, f0, f1, q0, ok1, nI_a1, nI_a2, nI_a3, b1, b2, b3, d1, d2, d3, p1, p2]
theorem lw_8 {x b L i : Nat} {nn : Nat × Nat} {xs : Nat → Int32} {σ : Hp} (hi : i + 4 ≤ L) (hL : L ≤ 2048) (hst : St x nn σ) (hk : KS b L xs σ) : ∃ σ2 : Hp, St x nn σ2 ∧ KS b L xs σ2 ∧ ∀ K : Option Value → Hp → Prop, X 171 376 [.ref b, .ref x, .ref (x + 166), .int (nI i)] [] σ K = X 171 725 [.ref b, .ref x, .ref (x + 166), .int (nI i)] [] σ2 K := by
  obtain ⟨v, σ1, σ2, s2, ok1, p1, p2⟩ := c89 (s := (xs (i + 1))) (y := (xs (i + 2))) (w := (xs (i + 3))) hst
  have hk1 := ks_X hk p1
  have hk2 := ks_X hk1 p2
  refine ⟨σ2, s2, hk2, fun K => ?_⟩
  have f0 := ks_F hk
  have f1 := ks_F hk1
  have q0 := St_o hst
  have b1 : inB (nI (i + 1)) L = true := inB_nI (by omega) (by omega)
  have b2 : inB (nI (i + 2)) L = true := inB_nI (by omega) (by omega)
  have b3 : inB (nI (i + 3)) L = true := inB_nI (by omega) (by omega)
  have d1 : (nI (i + 1)).toNatClampNeg = i + 1 := nI_clamp (by omega)
  have d2 : (nI (i + 2)).toNatClampNeg = i + 2 := nI_clamp (by omega)
  have d3 : (nI (i + 3)).toNatClampNeg = i + 3 := nI_clamp (by omega)
  simp only [x171_376, x171_377, x171_378, x171_379, x171_380, x171_381, x171_382, x171_383, x171_384, x171_385, x171_386, x171_387, x171_388, x171_389, x171_390, x171_391, x171_392, x171_395, x171_396, x171_397, x171_398, x171_399, x171_400, x171_401, x171_402, x171_403, x171_404, x171_405, x171_406, x171_407, x171_408, x171_409, x171_410, x171_411, x171_414, pushO, List.length_cons, List.length_nil, Nat.reduceAdd, Nat.reduceLeDiff, Nat.le_refl, Nat.zero_le, isD_i, isD_r, isD_l, isD_n, if_true, if_false, ite_true, ite_false, reduceIte, f0, f1, q0, ok1, nI_a1, nI_a2, nI_a3, b1, b2, b3, d1, d2, d3, p1, p2]
theorem lw_9 {x b L i : Nat} {nn : Nat × Nat} {xs : Nat → Int32} {σ : Hp} (hi : i + 4 ≤ L) (hL : L ≤ 2048) (hst : St x nn σ) (hk : KS b L xs σ) : ∃ σ2 : Hp, St x nn σ2 ∧ KS b L xs σ2 ∧ ∀ K : Option Value → Hp → Prop, X 171 419 [.ref b, .ref x, .ref (x + 166), .int (nI i)] [] σ K = X 171 725 [.ref b, .ref x, .ref (x + 166), .int (nI i)] [] σ2 K := by
  obtain ⟨v, σ1, σ2, s2, ok1, p1, p2⟩ := c90 (s := (xs (i + 1))) (i := (xs (i + 2))) hst
  have hk1 := ks_X hk p1
  have hk2 := ks_X hk1 p2
  refine ⟨σ2, s2, hk2, fun K => ?_⟩
  have f0 := ks_F hk
  have f1 := ks_F hk1
  have q0 := St_o hst
  have b1 : inB (nI (i + 1)) L = true := inB_nI (by omega) (by omega)
  have b2 : inB (nI (i + 2)) L = true := inB_nI (by omega) (by omega)
  have b3 : inB (nI (i + 3)) L = true := inB_nI (by omega) (by omega)
  have d1 : (nI (i + 1)).toNatClampNeg = i + 1 := nI_clamp (by omega)
  have d2 : (nI (i + 2)).toNatClampNeg = i + 2 := nI_clamp (by omega)
  have d3 : (nI (i + 3)).toNatClampNeg = i + 3 := nI_clamp (by omega)
  simp only [x171_419, x171_420, x171_421, x171_422, x171_423, x171_424, x171_425, x171_426, x171_427, x171_428, x171_429, x171_430, x171_433, x171_434, x171_435, x171_436, x171_437, x171_438, x171_439, x171_440, x171_441, x171_442, x171_443, x171_444, x171_447, pushO, List.length_cons, List.length_nil, Nat.reduceAdd, Nat.reduceLeDiff, Nat.le_refl, Nat.zero_le, isD_i, isD_r, isD_l, isD_n, if_true, if_false, ite_true, ite_false, reduceIte, f0, f1, q0, ok1, nI_a1, nI_a2, nI_a3, b1, b2, b3, d1, d2, d3, p1, p2]
theorem lw_10 {x b L i : Nat} {nn : Nat × Nat} {xs : Nat → Int32} {σ : Hp} (hi : i + 4 ≤ L) (hL : L ≤ 2048) (hst : St x nn σ) (hk : KS b L xs σ) : ∃ σ2 : Hp, St x nn σ2 ∧ KS b L xs σ2 ∧ ∀ K : Option Value → Hp → Prop, X 171 452 [.ref b, .ref x, .ref (x + 166), .int (nI i)] [] σ K = X 171 725 [.ref b, .ref x, .ref (x + 166), .int (nI i)] [] σ2 K := by
  obtain ⟨v, σ1, σ2, s2, ok1, p1, p2⟩ := c91 (s := (xs (i + 1))) (i := (xs (i + 2))) hst
  have hk1 := ks_X hk p1
  have hk2 := ks_X hk1 p2
  refine ⟨σ2, s2, hk2, fun K => ?_⟩
  have f0 := ks_F hk
  have f1 := ks_F hk1
  have q0 := St_o hst
  have b1 : inB (nI (i + 1)) L = true := inB_nI (by omega) (by omega)
  have b2 : inB (nI (i + 2)) L = true := inB_nI (by omega) (by omega)
  have b3 : inB (nI (i + 3)) L = true := inB_nI (by omega) (by omega)
  have d1 : (nI (i + 1)).toNatClampNeg = i + 1 := nI_clamp (by omega)
  have d2 : (nI (i + 2)).toNatClampNeg = i + 2 := nI_clamp (by omega)
  have d3 : (nI (i + 3)).toNatClampNeg = i + 3 := nI_clamp (by omega)
  simp only [x171_452, x171_453, x171_454, x171_455, x171_456, x171_457, x171_458, x171_459, x171_460, x171_461, x171_462, x171_463, x171_466, x171_467, x171_468, x171_469, x171_470, x171_471, x171_472, x171_473, x171_474, x171_475, x171_476, x171_477, x171_480, pushO, List.length_cons, List.length_nil, Nat.reduceAdd, Nat.reduceLeDiff, Nat.le_refl, Nat.zero_le, isD_i, isD_r, isD_l, isD_n, if_true, if_false, ite_true, ite_false, reduceIte, f0, f1, q0, ok1, nI_a1, nI_a2, nI_a3, b1, b2, b3, d1, d2, d3, p1, p2]
theorem lw_11 {x b L i : Nat} {nn : Nat × Nat} {xs : Nat → Int32} {σ : Hp} (hi : i + 4 ≤ L) (hL : L ≤ 2048) (hst : St x nn σ) (hk : KS b L xs σ) : ∃ σ2 : Hp, St x nn σ2 ∧ KS b L xs σ2 ∧ ∀ K : Option Value → Hp → Prop, X 171 485 [.ref b, .ref x, .ref (x + 166), .int (nI i)] [] σ K = X 171 725 [.ref b, .ref x, .ref (x + 166), .int (nI i)] [] σ2 K := by
  obtain ⟨v, σ1, σ2, s2, ok1, p1, p2⟩ := c92 (s := (xs (i + 1))) hst
  have hk1 := ks_X hk p1
  have hk2 := ks_X hk1 p2
  refine ⟨σ2, s2, hk2, fun K => ?_⟩
  have f0 := ks_F hk
  have f1 := ks_F hk1
  have q0 := St_o hst
  have b1 : inB (nI (i + 1)) L = true := inB_nI (by omega) (by omega)
  have b2 : inB (nI (i + 2)) L = true := inB_nI (by omega) (by omega)
  have b3 : inB (nI (i + 3)) L = true := inB_nI (by omega) (by omega)
  have d1 : (nI (i + 1)).toNatClampNeg = i + 1 := nI_clamp (by omega)
  have d2 : (nI (i + 2)).toNatClampNeg = i + 2 := nI_clamp (by omega)
  have d3 : (nI (i + 3)).toNatClampNeg = i + 3 := nI_clamp (by omega)
  simp only [x171_485, x171_486, x171_487, x171_488, x171_489, x171_490, x171_491, x171_494, x171_495, x171_496, x171_497, x171_498, x171_499, x171_500, x171_503, pushO, List.length_cons, List.length_nil, Nat.reduceAdd, Nat.reduceLeDiff, Nat.le_refl, Nat.zero_le, isD_i, isD_r, isD_l, isD_n, if_true, if_false, ite_true, ite_false, reduceIte, f0, f1, q0, ok1, nI_a1, nI_a2, nI_a3, b1, b2, b3, d1, d2, d3, p1, p2]
theorem lw_12 {x b L i : Nat} {nn : Nat × Nat} {xs : Nat → Int32} {σ : Hp} (hi : i + 4 ≤ L) (hL : L ≤ 2048) (hst : St x nn σ) (hk : KS b L xs σ) : ∃ σ2 : Hp, St x nn σ2 ∧ KS b L xs σ2 ∧ ∀ K : Option Value → Hp → Prop, X 171 508 [.ref b, .ref x, .ref (x + 166), .int (nI i)] [] σ K = X 171 725 [.ref b, .ref x, .ref (x + 166), .int (nI i)] [] σ2 K := by
  obtain ⟨v, σ1, σ2, s2, ok1, p1, p2⟩ := c93 (s := (xs (i + 1))) (y := (xs (i + 2))) hst
  have hk1 := ks_X hk p1
  have hk2 := ks_X hk1 p2
  refine ⟨σ2, s2, hk2, fun K => ?_⟩
  have f0 := ks_F hk
  have f1 := ks_F hk1
  have q0 := St_o hst
  have b1 : inB (nI (i + 1)) L = true := inB_nI (by omega) (by omega)
  have b2 : inB (nI (i + 2)) L = true := inB_nI (by omega) (by omega)
  have b3 : inB (nI (i + 3)) L = true := inB_nI (by omega) (by omega)
  have d1 : (nI (i + 1)).toNatClampNeg = i + 1 := nI_clamp (by omega)
  have d2 : (nI (i + 2)).toNatClampNeg = i + 2 := nI_clamp (by omega)
  have d3 : (nI (i + 3)).toNatClampNeg = i + 3 := nI_clamp (by omega)
  simp only [x171_508, x171_509, x171_510, x171_511, x171_512, x171_513, x171_514, x171_515, x171_516, x171_517, x171_518, x171_519, x171_522, x171_523, x171_524, x171_525, x171_526, x171_527, x171_528, x171_529, x171_530, x171_531, x171_532, x171_533, x171_536, pushO, List.length_cons, List.length_nil, Nat.reduceAdd, Nat.reduceLeDiff, Nat.le_refl, Nat.zero_le, isD_i, isD_r, isD_l, isD_n, if_true, if_false, ite_true, ite_false, reduceIte, f0, f1, q0, ok1, nI_a1, nI_a2, nI_a3, b1, b2, b3, d1, d2, d3, p1, p2]
theorem lw_13 {x b L i : Nat} {nn : Nat × Nat} {xs : Nat → Int32} {σ : Hp} (hi : i + 4 ≤ L) (hL : L ≤ 2048) (hst : St x nn σ) (hk : KS b L xs σ) : ∃ σ2 : Hp, St x nn σ2 ∧ KS b L xs σ2 ∧ ∀ K : Option Value → Hp → Prop, X 171 541 [.ref b, .ref x, .ref (x + 166), .int (nI i)] [] σ K = X 171 725 [.ref b, .ref x, .ref (x + 166), .int (nI i)] [] σ2 K := by
  obtain ⟨v, σ1, σ2, s2, ok1, p1, p2⟩ := c94 (s := (xs (i + 1))) (y := (xs (i + 2))) hst
  have hk1 := ks_X hk p1
  have hk2 := ks_X hk1 p2
  refine ⟨σ2, s2, hk2, fun K => ?_⟩
  have f0 := ks_F hk
  have f1 := ks_F hk1
  have q0 := St_o hst
  have b1 : inB (nI (i + 1)) L = true := inB_nI (by omega) (by omega)
  have b2 : inB (nI (i + 2)) L = true := inB_nI (by omega) (by omega)
  have b3 : inB (nI (i + 3)) L = true := inB_nI (by omega) (by omega)
  have d1 : (nI (i + 1)).toNatClampNeg = i + 1 := nI_clamp (by omega)
  have d2 : (nI (i + 2)).toNatClampNeg = i + 2 := nI_clamp (by omega)
  have d3 : (nI (i + 3)).toNatClampNeg = i + 3 := nI_clamp (by omega)
  simp only [x171_541, x171_542, x171_543, x171_544, x171_545, x171_546, x171_547, x171_548, x171_549, x171_550, x171_551, x171_552, x171_555, x171_556, x171_557, x171_558, x171_559, x171_560, x171_561, x171_562, x171_563, x171_564, x171_565, x171_566, x171_569, pushO, List.length_cons, List.length_nil, Nat.reduceAdd, Nat.reduceLeDiff, Nat.le_refl, Nat.zero_le, isD_i, isD_r, isD_l, isD_n, if_true, if_false, ite_true, ite_false, reduceIte, f0, f1, q0, ok1, nI_a1, nI_a2, nI_a3, b1, b2, b3, d1, d2, d3, p1, p2]
theorem lw_14 {x b L i : Nat} {nn : Nat × Nat} {xs : Nat → Int32} {σ : Hp} (hi : i + 4 ≤ L) (hL : L ≤ 2048) (hst : St x nn σ) (hk : KS b L xs σ) : ∃ σ2 : Hp, St x nn σ2 ∧ KS b L xs σ2 ∧ ∀ K : Option Value → Hp → Prop, X 171 574 [.ref b, .ref x, .ref (x + 166), .int (nI i)] [] σ K = X 171 725 [.ref b, .ref x, .ref (x + 166), .int (nI i)] [] σ2 K := by
  obtain ⟨v, σ1, σ2, s2, ok1, p1, p2⟩ := c95 (z := ((xs (i + 1)).toInt64 <<< ((32 : Int32).toInt64 &&& 63) ||| (xs (i + 2)).toInt64 &&& 4294967295)) hst
  have hk1 := ks_X hk p1
  have hk2 := ks_X hk1 p2
  refine ⟨σ2, s2, hk2, fun K => ?_⟩
  have f0 := ks_F hk
  have f1 := ks_F hk1
  have q0 := St_o hst
  have b1 : inB (nI (i + 1)) L = true := inB_nI (by omega) (by omega)
  have b2 : inB (nI (i + 2)) L = true := inB_nI (by omega) (by omega)
  have b3 : inB (nI (i + 3)) L = true := inB_nI (by omega) (by omega)
  have d1 : (nI (i + 1)).toNatClampNeg = i + 1 := nI_clamp (by omega)
  have d2 : (nI (i + 2)).toNatClampNeg = i + 2 := nI_clamp (by omega)
  have d3 : (nI (i + 3)).toNatClampNeg = i + 3 := nI_clamp (by omega)
  simp only [x171_574, x171_575, x171_576, x171_577, x171_578, x171_579, x171_580, x171_581, x171_583, x171_584, x171_585, x171_586, x171_587, x171_588, x171_589, x171_590, x171_593, x171_594, x171_595, x171_598, x171_599, x171_600, x171_601, x171_602, x171_603, x171_604, x171_605, x171_607, x171_608, x171_609, x171_610, x171_611, x171_612, x171_613, x171_614, x171_617, x171_618, x171_619, x171_622, pushO, List.length_cons, List.length_nil, Nat.reduceAdd, Nat.reduceLeDiff, Nat.le_refl, Nat.zero_le, isD_i, isD_r, isD_l, isD_n, if_true, if_false, ite_true, ite_false, reduceIte, f0, f1, q0, ok1, nI_a1, nI_a2, nI_a3, b1, b2, b3, d1, d2, d3, p1, p2]
theorem lw_15 {x b L i : Nat} {nn : Nat × Nat} {xs : Nat → Int32} {σ : Hp} (hi : i + 4 ≤ L) (hL : L ≤ 2048) (hst : St x nn σ) (hk : KS b L xs σ) : ∃ σ2 : Hp, St x nn σ2 ∧ KS b L xs σ2 ∧ ∀ K : Option Value → Hp → Prop, X 171 627 [.ref b, .ref x, .ref (x + 166), .int (nI i)] [] σ K = X 171 725 [.ref b, .ref x, .ref (x + 166), .int (nI i)] [] σ2 K := by
  obtain ⟨v, σ1, σ2, s2, ok1, p1, p2⟩ := c96  hst
  have hk1 := ks_X hk p1
  have hk2 := ks_X hk1 p2
  refine ⟨σ2, s2, hk2, fun K => ?_⟩
  have f0 := ks_F hk
  have f1 := ks_F hk1
  have q0 := St_o hst
  have b1 : inB (nI (i + 1)) L = true := inB_nI (by omega) (by omega)
  have b2 : inB (nI (i + 2)) L = true := inB_nI (by omega) (by omega)
  have b3 : inB (nI (i + 3)) L = true := inB_nI (by omega) (by omega)
  have d1 : (nI (i + 1)).toNatClampNeg = i + 1 := nI_clamp (by omega)
  have d2 : (nI (i + 2)).toNatClampNeg = i + 2 := nI_clamp (by omega)
  have d3 : (nI (i + 3)).toNatClampNeg = i + 3 := nI_clamp (by omega)
  simp only [x171_627, x171_628, x171_631, x171_632, x171_635, pushO, List.length_cons, List.length_nil, Nat.reduceAdd, Nat.reduceLeDiff, Nat.le_refl, Nat.zero_le, isD_i, isD_r, isD_l, isD_n, if_true, if_false, ite_true, ite_false, reduceIte, f0, f1, q0, ok1, nI_a1, nI_a2, nI_a3, b1, b2, b3, d1, d2, d3, p1, p2]
theorem lw_16 {x b L i : Nat} {nn : Nat × Nat} {xs : Nat → Int32} {σ : Hp} (hi : i + 4 ≤ L) (hL : L ≤ 2048) (hst : St x nn σ) (hk : KS b L xs σ) : ∃ σ2 : Hp, St x nn σ2 ∧ KS b L xs σ2 ∧ ∀ K : Option Value → Hp → Prop, X 171 640 [.ref b, .ref x, .ref (x + 166), .int (nI i)] [] σ K = X 171 725 [.ref b, .ref x, .ref (x + 166), .int (nI i)] [] σ2 K := by
  obtain ⟨v, σ1, σ2, s2, ok1, p1, p2⟩ := c97  hst
  have hk1 := ks_X hk p1
  have hk2 := ks_X hk1 p2
  refine ⟨σ2, s2, hk2, fun K => ?_⟩
  have f0 := ks_F hk
  have f1 := ks_F hk1
  have q0 := St_o hst
  have b1 : inB (nI (i + 1)) L = true := inB_nI (by omega) (by omega)
  have b2 : inB (nI (i + 2)) L = true := inB_nI (by omega) (by omega)
  have b3 : inB (nI (i + 3)) L = true := inB_nI (by omega) (by omega)
  have d1 : (nI (i + 1)).toNatClampNeg = i + 1 := nI_clamp (by omega)
  have d2 : (nI (i + 2)).toNatClampNeg = i + 2 := nI_clamp (by omega)
  have d3 : (nI (i + 3)).toNatClampNeg = i + 3 := nI_clamp (by omega)
  simp only [x171_640, x171_641, x171_644, x171_645, x171_648, pushO, List.length_cons, List.length_nil, Nat.reduceAdd, Nat.reduceLeDiff, Nat.le_refl, Nat.zero_le, isD_i, isD_r, isD_l, isD_n, if_true, if_false, ite_true, ite_false, reduceIte, f0, f1, q0, ok1, nI_a1, nI_a2, nI_a3, b1, b2, b3, d1, d2, d3, p1, p2]
theorem lw_17 {x b L i : Nat} {nn : Nat × Nat} {xs : Nat → Int32} {σ : Hp} (hi : i + 4 ≤ L) (hL : L ≤ 2048) (hst : St x nn σ) (hk : KS b L xs σ) : ∃ σ2 : Hp, St x nn σ2 ∧ KS b L xs σ2 ∧ ∀ K : Option Value → Hp → Prop, X 171 653 [.ref b, .ref x, .ref (x + 166), .int (nI i)] [] σ K = X 171 725 [.ref b, .ref x, .ref (x + 166), .int (nI i)] [] σ2 K := by
  obtain ⟨v, σ1, σ2, s2, ok1, p1, p2⟩ := c98  hst
  have hk1 := ks_X hk p1
  have hk2 := ks_X hk1 p2
  refine ⟨σ2, s2, hk2, fun K => ?_⟩
  have f0 := ks_F hk
  have f1 := ks_F hk1
  have q0 := St_o hst
  have b1 : inB (nI (i + 1)) L = true := inB_nI (by omega) (by omega)
  have b2 : inB (nI (i + 2)) L = true := inB_nI (by omega) (by omega)
  have b3 : inB (nI (i + 3)) L = true := inB_nI (by omega) (by omega)
  have d1 : (nI (i + 1)).toNatClampNeg = i + 1 := nI_clamp (by omega)
  have d2 : (nI (i + 2)).toNatClampNeg = i + 2 := nI_clamp (by omega)
  have d3 : (nI (i + 3)).toNatClampNeg = i + 3 := nI_clamp (by omega)
  simp only [x171_653, x171_654, x171_657, x171_658, x171_661, pushO, List.length_cons, List.length_nil, Nat.reduceAdd, Nat.reduceLeDiff, Nat.le_refl, Nat.zero_le, isD_i, isD_r, isD_l, isD_n, if_true, if_false, ite_true, ite_false, reduceIte, f0, f1, q0, ok1, nI_a1, nI_a2, nI_a3, b1, b2, b3, d1, d2, d3, p1, p2]
theorem lw_18 {x b L i : Nat} {nn : Nat × Nat} {xs : Nat → Int32} {σ : Hp} (hi : i + 4 ≤ L) (hL : L ≤ 2048) (hst : St x nn σ) (hk : KS b L xs σ) : ∃ σ2 : Hp, St x nn σ2 ∧ KS b L xs σ2 ∧ ∀ K : Option Value → Hp → Prop, X 171 666 [.ref b, .ref x, .ref (x + 166), .int (nI i)] [] σ K = X 171 725 [.ref b, .ref x, .ref (x + 166), .int (nI i)] [] σ2 K := by
  obtain ⟨v, σ1, σ2, s2, ok1, p1, p2⟩ := c99  hst
  have hk1 := ks_X hk p1
  have hk2 := ks_X hk1 p2
  refine ⟨σ2, s2, hk2, fun K => ?_⟩
  have f0 := ks_F hk
  have f1 := ks_F hk1
  have q0 := St_o hst
  have b1 : inB (nI (i + 1)) L = true := inB_nI (by omega) (by omega)
  have b2 : inB (nI (i + 2)) L = true := inB_nI (by omega) (by omega)
  have b3 : inB (nI (i + 3)) L = true := inB_nI (by omega) (by omega)
  have d1 : (nI (i + 1)).toNatClampNeg = i + 1 := nI_clamp (by omega)
  have d2 : (nI (i + 2)).toNatClampNeg = i + 2 := nI_clamp (by omega)
  have d3 : (nI (i + 3)).toNatClampNeg = i + 3 := nI_clamp (by omega)
  simp only [x171_666, x171_667, x171_670, x171_671, x171_674, pushO, List.length_cons, List.length_nil, Nat.reduceAdd, Nat.reduceLeDiff, Nat.le_refl, Nat.zero_le, isD_i, isD_r, isD_l, isD_n, if_true, if_false, ite_true, ite_false, reduceIte, f0, f1, q0, ok1, nI_a1, nI_a2, nI_a3, b1, b2, b3, d1, d2, d3, p1, p2]
theorem lw_19 {x b L i : Nat} {nn : Nat × Nat} {xs : Nat → Int32} {σ : Hp} (hi : i + 4 ≤ L) (hL : L ≤ 2048) (hst : St x nn σ) (hk : KS b L xs σ) : ∃ σ2 : Hp, St x nn σ2 ∧ KS b L xs σ2 ∧ ∀ K : Option Value → Hp → Prop, X 171 679 [.ref b, .ref x, .ref (x + 166), .int (nI i)] [] σ K = X 171 725 [.ref b, .ref x, .ref (x + 166), .int (nI i)] [] σ2 K := by
  obtain ⟨v, σ1, σ2, s2, ok1, p1, p2⟩ := c100 (y := (xs (i + 1))) hst
  have hk1 := ks_X hk p1
  have hk2 := ks_X hk1 p2
  refine ⟨σ2, s2, hk2, fun K => ?_⟩
  have f0 := ks_F hk
  have f1 := ks_F hk1
  have q0 := St_o hst
  have b1 : inB (nI (i + 1)) L = true := inB_nI (by omega) (by omega)
  have b2 : inB (nI (i + 2)) L = true := inB_nI (by omega) (by omega)
  have b3 : inB (nI (i + 3)) L = true := inB_nI (by omega) (by omega)
  have d1 : (nI (i + 1)).toNatClampNeg = i + 1 := nI_clamp (by omega)
  have d2 : (nI (i + 2)).toNatClampNeg = i + 2 := nI_clamp (by omega)
  have d3 : (nI (i + 3)).toNatClampNeg = i + 3 := nI_clamp (by omega)
  simp only [x171_679, x171_680, x171_681, x171_682, x171_683, x171_684, x171_685, x171_688, x171_689, x171_690, x171_691, x171_692, x171_693, x171_694, x171_697, pushO, List.length_cons, List.length_nil, Nat.reduceAdd, Nat.reduceLeDiff, Nat.le_refl, Nat.zero_le, isD_i, isD_r, isD_l, isD_n, if_true, if_false, ite_true, ite_false, reduceIte, f0, f1, q0, ok1, nI_a1, nI_a2, nI_a3, b1, b2, b3, d1, d2, d3, p1, p2]
theorem lw_20 {x b L i : Nat} {nn : Nat × Nat} {xs : Nat → Int32} {σ : Hp} (hi : i + 4 ≤ L) (hL : L ≤ 2048) (hst : St x nn σ) (hk : KS b L xs σ) : ∃ σ2 : Hp, St x nn σ2 ∧ KS b L xs σ2 ∧ ∀ K : Option Value → Hp → Prop, X 171 702 [.ref b, .ref x, .ref (x + 166), .int (nI i)] [] σ K = X 171 725 [.ref b, .ref x, .ref (x + 166), .int (nI i)] [] σ2 K := by
  obtain ⟨v, σ1, σ2, s2, ok1, p1, p2⟩ := c101 (y := (xs (i + 1))) hst
  have hk1 := ks_X hk p1
  have hk2 := ks_X hk1 p2
  refine ⟨σ2, s2, hk2, fun K => ?_⟩
  have f0 := ks_F hk
  have f1 := ks_F hk1
  have q0 := St_o hst
  have b1 : inB (nI (i + 1)) L = true := inB_nI (by omega) (by omega)
  have b2 : inB (nI (i + 2)) L = true := inB_nI (by omega) (by omega)
  have b3 : inB (nI (i + 3)) L = true := inB_nI (by omega) (by omega)
  have d1 : (nI (i + 1)).toNatClampNeg = i + 1 := nI_clamp (by omega)
  have d2 : (nI (i + 2)).toNatClampNeg = i + 2 := nI_clamp (by omega)
  have d3 : (nI (i + 3)).toNatClampNeg = i + 3 := nI_clamp (by omega)
  simp only [x171_702, x171_703, x171_704, x171_705, x171_706, x171_707, x171_708, x171_711, x171_712, x171_713, x171_714, x171_715, x171_716, x171_717, x171_720, pushO, List.length_cons, List.length_nil, Nat.reduceAdd, Nat.reduceLeDiff, Nat.le_refl, Nat.zero_le, isD_i, isD_r, isD_l, isD_n, if_true, if_false, ite_true, ite_false, reduceIte, f0, f1, q0, ok1, nI_a1, nI_a2, nI_a3, b1, b2, b3, d1, d2, d3, p1, p2]
theorem law_step {x b L i : Nat} {nn : Nat × Nat} {xs : Nat → Int32} {σ : Hp} (hi : i + 4 ≤ L) (hL : L ≤ 2048) (hst : St x nn σ) (hk : KS b L xs σ) : ∃ σ2 : Hp, St x nn σ2 ∧ KS b L xs σ2 ∧ ∀ K : Option Value → Hp → Prop, X 171 26 [.ref b, .ref x, .ref (x + 166), .int (nI i)] [] σ K = X 171 725 [.ref b, .ref x, .ref (x + 166), .int (nI i)] [] σ2 K := by
  have f0 := ks_F hk
  have b0 : inB (nI i) L = true := inB_nI (by omega) (by omega)
  have d0 : (nI i).toNatClampNeg = i := nI_clamp (by omega)
  have hd : ∀ K : Option Value → Hp → Prop, X 171 26 [.ref b, .ref x, .ref (x + 166), .int (nI i)] [] σ K = X 171 32 [.ref b, .ref x, .ref (x + 166), .int (nI i)] [.int (xs i &&& 31)] σ K := fun K => by
    simp only [x171_26, x171_27, x171_28, x171_29, x171_31, pushO, List.length_cons, List.length_nil, Nat.reduceAdd, Nat.reduceLeDiff, Nat.le_refl, Nat.zero_le, isD_i, isD_r, isD_l, isD_n, if_true, if_false, ite_true, ite_false, reduceIte, f0, b0, d0]
  generalize xs i &&& 31 = a at hd
  by_cases h0 : a = 0
  · obtain ⟨σ2, s2, k2, p⟩ := lw_0 hi hL hst hk
    exact ⟨σ2, s2, k2, fun K => by rw [hd, h0, sw171_0, p]⟩
  by_cases h1 : a = 1
  · obtain ⟨σ2, s2, k2, p⟩ := lw_1 hi hL hst hk
    exact ⟨σ2, s2, k2, fun K => by rw [hd, h1, sw171_1, p]⟩
  by_cases h2 : a = 2
  · obtain ⟨σ2, s2, k2, p⟩ := lw_2 hi hL hst hk
    exact ⟨σ2, s2, k2, fun K => by rw [hd, h2, sw171_2, p]⟩
  by_cases h3 : a = 3
  · obtain ⟨σ2, s2, k2, p⟩ := lw_3 hi hL hst hk
    exact ⟨σ2, s2, k2, fun K => by rw [hd, h3, sw171_3, p]⟩
  by_cases h4 : a = 4
  · obtain ⟨σ2, s2, k2, p⟩ := lw_4 hi hL hst hk
    exact ⟨σ2, s2, k2, fun K => by rw [hd, h4, sw171_4, p]⟩
  by_cases h5 : a = 5
  · obtain ⟨σ2, s2, k2, p⟩ := lw_5 hi hL hst hk
    exact ⟨σ2, s2, k2, fun K => by rw [hd, h5, sw171_5, p]⟩
  by_cases h6 : a = 6
  · obtain ⟨σ2, s2, k2, p⟩ := lw_6 hi hL hst hk
    exact ⟨σ2, s2, k2, fun K => by rw [hd, h6, sw171_6, p]⟩
  by_cases h7 : a = 7
  · obtain ⟨σ2, s2, k2, p⟩ := lw_7 hi hL hst hk
    exact ⟨σ2, s2, k2, fun K => by rw [hd, h7, sw171_7, p]⟩
  by_cases h8 : a = 8
  · obtain ⟨σ2, s2, k2, p⟩ := lw_8 hi hL hst hk
    exact ⟨σ2, s2, k2, fun K => by rw [hd, h8, sw171_8, p]⟩
  by_cases h9 : a = 9
  · obtain ⟨σ2, s2, k2, p⟩ := lw_9 hi hL hst hk
    exact ⟨σ2, s2, k2, fun K => by rw [hd, h9, sw171_9, p]⟩
  by_cases h10 : a = 10
  · obtain ⟨σ2, s2, k2, p⟩ := lw_10 hi hL hst hk
    exact ⟨σ2, s2, k2, fun K => by rw [hd, h10, sw171_10, p]⟩
  by_cases h11 : a = 11
  · obtain ⟨σ2, s2, k2, p⟩ := lw_11 hi hL hst hk
    exact ⟨σ2, s2, k2, fun K => by rw [hd, h11, sw171_11, p]⟩
  by_cases h12 : a = 12
  · obtain ⟨σ2, s2, k2, p⟩ := lw_12 hi hL hst hk
    exact ⟨σ2, s2, k2, fun K => by rw [hd, h12, sw171_12, p]⟩
  by_cases h13 : a = 13
  · obtain ⟨σ2, s2, k2, p⟩ := lw_13 hi hL hst hk
    exact ⟨σ2, s2, k2, fun K => by rw [hd, h13, sw171_13, p]⟩
  by_cases h14 : a = 14
  · obtain ⟨σ2, s2, k2, p⟩ := lw_14 hi hL hst hk
    exact ⟨σ2, s2, k2, fun K => by rw [hd, h14, sw171_14, p]⟩
  by_cases h15 : a = 15
  · obtain ⟨σ2, s2, k2, p⟩ := lw_15 hi hL hst hk
    exact ⟨σ2, s2, k2, fun K => by rw [hd, h15, sw171_15, p]⟩
  by_cases h16 : a = 16
  · obtain ⟨σ2, s2, k2, p⟩ := lw_16 hi hL hst hk
    exact ⟨σ2, s2, k2, fun K => by rw [hd, h16, sw171_16, p]⟩
  by_cases h17 : a = 17
  · obtain ⟨σ2, s2, k2, p⟩ := lw_17 hi hL hst hk
    exact ⟨σ2, s2, k2, fun K => by rw [hd, h17, sw171_17, p]⟩
  by_cases h18 : a = 18
  · obtain ⟨σ2, s2, k2, p⟩ := lw_18 hi hL hst hk
    exact ⟨σ2, s2, k2, fun K => by rw [hd, h18, sw171_18, p]⟩
  by_cases h19 : a = 19
  · obtain ⟨σ2, s2, k2, p⟩ := lw_19 hi hL hst hk
    exact ⟨σ2, s2, k2, fun K => by rw [hd, h19, sw171_19, p]⟩
  by_cases h20 : a = 20
  · obtain ⟨σ2, s2, k2, p⟩ := lw_20 hi hL hst hk
    exact ⟨σ2, s2, k2, fun K => by rw [hd, h20, sw171_20, p]⟩
  exact ⟨σ, hst, hk, fun K => by rw [hd, sw171_d h0 h1 h2 h3 h4 h5 h6 h7 h8 h9 h10 h11 h12 h13 h14 h15 h16 h17 h18 h19 h20]⟩
theorem law_run {x b L : Nat} {nn : Nat × Nat} {xs : Nat → Int32} (hL : L ≤ 2048) : ∀ (d i : Nat) (σ : Hp), L - i ≤ d → i ≤ L + 4 → St x nn σ → KS b L xs σ → ∀ K : Option Value → Hp → Prop, (∀ σ2 : Hp, σ2.2 = nn → K (some (.int 1)) σ2) → X 171 18 [.ref b, .ref x, .ref (x + 166), .int (nI i)] [] σ K := by
  have e4 : Int32.toInt 4 = 4 := by decide +kernel
  intro d
  induction d with
  | zero =>
    intro i σ hd hi hst hk K hK
    have f0 := ks_F hk
    have h1 : nI L - 4 < nI i := by
      rw [Int32.lt_iff_toInt_lt, sbv (by rw [nI_toInt (by omega)]; omega) (by rw [e4]; omega), e4, nI_toInt (by omega), nI_toInt (by omega)]
      omega
    simp only [x171_18, x171_19, x171_20, x171_21, x171_22, x171_23, x171_731, pushO, List.length_cons, List.length_nil, Nat.reduceAdd, Nat.reduceLeDiff, Nat.le_refl, Nat.zero_le, isD_i, isD_r, isD_l, isD_n, if_true, if_false, ite_true, ite_false, reduceIte, f0, h1]
    rw [x171_732 (by decide)]
    exact hK σ (St_n hst)
  | succ d ih =>
    intro i σ hd hi hst hk K hK
    have f0 := ks_F hk
    by_cases h4 : i + 4 ≤ L
    · have h1 : ¬ nI L - 4 < nI i := by
        rw [Int32.lt_iff_toInt_lt, sbv (by rw [nI_toInt (by omega)]; omega) (by rw [e4]; omega), e4, nI_toInt (by omega), nI_toInt (by omega)]
        omega
      obtain ⟨σ2, s2, k2, p⟩ := law_step h4 hL hst hk
      rw [x171_18]
      simp only [x171_19, x171_20, x171_21, x171_22, x171_23, pushO, List.length_cons, List.length_nil, Nat.reduceAdd, Nat.reduceLeDiff, Nat.le_refl, Nat.zero_le, isD_i, isD_r, isD_l, isD_n, if_true, if_false, ite_true, ite_false, reduceIte, f0, h1]
      rw [p]
      simp only [x171_725, x171_728, pushO, List.length_cons, List.length_nil, Nat.reduceAdd, Nat.reduceLeDiff, Nat.le_refl, Nat.zero_le, isD_i, isD_r, isD_l, isD_n, if_true, if_false, ite_true, ite_false, reduceIte, nI_a4]
      exact ih (i + 4) σ2 (by omega) (by omega) s2 k2 K hK
    · have h1 : nI L - 4 < nI i := by
        rw [Int32.lt_iff_toInt_lt, sbv (by rw [nI_toInt (by omega)]; omega) (by rw [e4]; omega), e4, nI_toInt (by omega), nI_toInt (by omega)]
        omega
      simp only [x171_18, x171_19, x171_20, x171_21, x171_22, x171_23, x171_731, pushO, List.length_cons, List.length_nil, Nat.reduceAdd, Nat.reduceLeDiff, Nat.le_refl, Nat.zero_le, isD_i, isD_r, isD_l, isD_n, if_true, if_false, ite_true, ite_false, reduceIte, f0, h1]
      rw [x171_732 (by decide)]
      exact hK σ (St_n hst)
theorem RS_z {t : Nat} : RS zS (upd zF 0 4) t := by
  have g : ∀ b, gt (upd zF 0 4) t b = 0 := fun b => gt_u0
  have z : (0 : Int32).toInt = 0 := by decide +kernel
  refine ⟨⟨Nat.zero_le _, (by decide : 1 ≤ 4), (by decide : 4 ≤ 12), fun k hk => absurd hk (Nat.not_lt_zero k), fun a b ha _ _ => absurd ha (Nat.not_lt_zero a), fun k hk => absurd hk (Nat.not_lt_zero k)⟩, ⟨Nat.zero_le _, List.Perm.refl _, List.Pairwise.nil, List.Pairwise.nil, fun p hp => by cases hp⟩, ?_, ?_, ?_, ?_, ?_, ?_, ?_⟩
  · rw [g]; exact nI_0.symm
  · rw [g]; exact nI_0.symm
  · rw [upd_at]
    exact (by decide +kernel : (4 : Int32) = nI 4)
  · rw [g]; rfl
  · rw [g]; rfl
  · rw [g, z]; exact Int.le_refl 0
  · rw [g, z]; omega
theorem law_goes {N0 b L : Nat} {xs : Nat → Int32} (hL : L ≤ 2048) (hb : b < N0) : lawX N0 b L xs := by
  unfold lawX
  obtain ⟨σ2, h, hc, p⟩ := open171 (σ := lawH N0 b L xs) (b := b) hb
  have ent : entL [.ref b] 4 = [.ref b, .null, .null, .null] := rfl
  rw [ent, p]
  have hx : (lawH N0 b L xs).2.1 = N0 := rfl
  rw [hx] at h ⊢
  have hra : RA zA (upd zF 0 4) := RA_mk RS_z RS_z rfl
  have hr : RelM zA idN 0 (fun _ => zA) (fun _ => zA) (fun _ => false) (zF, 0) zM := ⟨hra, fun i j _ _ e => e, rfl, fun i hi => absurd hi (Nat.not_lt_zero i), fun j _ => rfl, fun j _ q => (by cases q), rfl, fun k hk => absurd hk (Nat.not_lt_zero k)⟩
  have hs : St N0 (N0 + 174, (lawH N0 b L xs).2.2 + 7188) σ2 := ⟨_, _, _, _, _, _, _, _, _, _, h, hr⟩
  have e2 := St_n hs
  have hk : KS b L xs σ2 := by
    refine ⟨by rw [e2]; show b < N0 + 174; omega, hc.trans ?_⟩
    show (if b = b then _ else _) = _
    rw [if_pos rfl]
  rw [← nI_0]
  refine law_run hL L 0 σ2 (by omega) (by omega) hs hk _ (fun σ3 e3 => ⟨rfl, ?_, ?_⟩)
  · rw [e3]
    show N0 + 174 ≤ N0 + 600000
    omega
  · rw [e3]
    show 0 + 7188 ≤ 7302250
    omega
