/-! the law's check of seats and bounds -/
theorem okAB {A : StaM} (h : AB A) (s : Int32) : rT (sR (stOf A s)) ≤ 12 ∧ tN (sT (stOf A s)) ≤ 60 ∧ rS (sR (stOf A s)) ≤ 12 ∧ rT (sR (stOf A s)) ≤ rS (sR (stOf A s)) := by
  have hb := (AB_st h s).1
  have := hb.2.2.1.1
  have := hb.2.2.1.2.2.1
  have := hb.2.2.2.1
  omega
theorem l114a {w0 l6 l7 l8 l9 : Value} {tt : Int32} {x : Nat} {A : StaM} {pm : Nat → Nat} {sz : Nat} {S L : Nat → StaM} {u : Nat → Bool} {P : PadM} {O : OrdM} {J : RowM} {nn : Nat × Nat} {σ : Hp} {s : Int32} {K : Option Value → Hp → Prop} (h : Sys x A pm sz S L u P O J nn σ) (ho : AB A) (hs : isSt s = true) : ∀ (n k : Nat), k + n = rT (sR (stOf A s)) → X 114 18 [.ref x, .int s, w0, .int (nI (rT (sR (stOf A s)))), .int tt, .int (nI k), l6, l7, l8, l9] [] σ K = X 114 82 [.ref x, .int s, w0, .int (nI (rT (sR (stOf A s)))), .int tt, .int (nI (rT (sR (stOf A s)))), l6, l7, l8, l9] [] σ K := by
  have f0 := sysF h
  have ok := okAB ho s
  have hb := (AB_st ho s).1
  intro n
  induction n with
  | zero =>
    intro k hk
    have h1 : ¬ nI k < nI (rT (sR (stOf A s))) := nI_nlt (by omega) (by omega)
    have hk' : k = rT (sR (stOf A s)) := by omega
    rw [x114_18]
    simp only [x114_20, x114_21, pushO, List.length_cons, List.length_nil, Nat.reduceAdd, Nat.reduceLeDiff, Nat.le_refl, Nat.zero_le, isD_i, isD_r, isD_l, isD_n, if_true, if_false, ite_true, ite_false, reduceIte, h1, hk', Int32.lt_irrefl]
  | succ n ih =>
    intro k hk
    have h1 : nI k < nI (rT (sR (stOf A s))) := nI_lt (by omega) (by omega)
    obtain ⟨r1, r2, r3⟩ := see_row hs hb (show k < rT (sR (stOf A s)) by omega)
    rw [x114_18]
    simp only [x114_20, x114_21, x114_24, x114_25, x114_26, x114_28, x114_29, x114_32, x114_33, x114_34, x114_36, x114_37, x114_40, x114_43, x114_44, x114_45, x114_47, x114_48, x114_51, x114_52, x114_55, x114_56, x114_57, x114_58, x114_59, x114_61, x114_62, x114_65, x114_66, x114_69, x114_71, x114_74, x114_75, x114_76, x114_79, pushO, List.length_cons, List.length_nil, Nat.reduceAdd, Nat.reduceLeDiff, Nat.le_refl, Nat.zero_le, isD_i, isD_r, isD_l, isD_n, if_true, if_false, ite_true, ite_false, reduceIte, h1, f0, e85 h (AB_ok ho), e86 h (AB_ok ho), r1, r2, r3, ← nI_succ]
    exact ih (k + 1) (by omega)
/-- a guest of the true counts -/
theorem b114 {w0 l6 l7 l8 l9 : Value} {k : Nat} {x : Nat} {A : StaM} {pm : Nat → Nat} {sz : Nat} {S L : Nat → StaM} {u : Nat → Bool} {P : PadM} {O : OrdM} {J : RowM} {nn : Nat × Nat} {σ : Hp} {s : Int32} {K : Option Value → Hp → Prop} (h : Sys x A pm sz S L u P O J nn σ) (ho : AB A) (hs : isSt s = true) (h6 : isD l6 = false) (h7 : isD l7 = false) (h8 : isD l8 = false) (h9 : isD l9 = false) (hk : k < tN (sT (stOf A s))) : X 114 85 [.ref x, .int s, w0, .int (nI (rT (sR (stOf A s)))), .int (f87 A s 0), .int (nI k), l6, l7, l8, l9] [] σ K = X 114 179 [.ref x, .int s, w0, .int (nI (rT (sR (stOf A s)))), .int (f87 A s 0), .int (nI k), .int (f91 A s (nI k)), .int (f86 A s (f91 A s (nI k)) 3), .int (bI (btV A s (f91 A s (nI k)))), .int (bI (hqV A s (f91 A s (nI k))))] [] σ K := by
  have f0 := sysF h
  have ok := okAB ho s
  have h1 : nI k < nI (tN (sT (stOf A s))) := nI_lt (by omega) (by omega)
  have r1 : X 114 85 [.ref x, .int s, w0, .int (nI (rT (sR (stOf A s)))), .int (f87 A s 0), .int (nI k), l6, l7, l8, l9] [] σ K = X 114 148 [.ref x, .int s, w0, .int (nI (rT (sR (stOf A s)))), .int (f87 A s 0), .int (nI k), .int (f91 A s (nI k)), .int (f86 A s (f91 A s (nI k)) 3), .int (bI (btV A s (f91 A s (nI k)))), l9] [] σ K := by
    unfold btV
    by_cases c1 : f86 A s (f91 A s (nI k)) 3 < f86 A s (f91 A s (nI k)) 2
    · simp only [x114_85, x114_87, x114_88, x114_89, x114_90, x114_93, x114_96, x114_97, x114_98, x114_100, x114_103, x114_105, x114_106, x114_107, x114_109, x114_110, x114_113, x114_115, x114_116, x114_117, x114_119, x114_120, x114_123, x114_125, x114_128, x114_130, x114_131, x114_132, x114_134, x114_135, x114_138, x114_141, x114_142, x114_145, x114_146, pushO, List.length_cons, List.length_nil, Nat.reduceAdd, Nat.reduceLeDiff, Nat.le_refl, Nat.zero_le, isD_i, isD_r, isD_l, isD_n, if_true, if_false, ite_true, ite_false, reduceIte, h1, f0, e87 h (AB_ok ho), v872 hs, e91 h (AB_ok ho), e86 h (AB_ok ho), h6, h7, h8, c1, bI_f]
    · by_cases c2 : f86 A s (f91 A s (nI k)) 1 < f86 A s (f91 A s (nI k)) 3
      · simp only [x114_85, x114_87, x114_88, x114_89, x114_90, x114_93, x114_96, x114_97, x114_98, x114_100, x114_103, x114_105, x114_106, x114_107, x114_109, x114_110, x114_113, x114_115, x114_116, x114_117, x114_119, x114_120, x114_123, x114_125, x114_128, x114_130, x114_131, x114_132, x114_134, x114_135, x114_138, x114_141, x114_142, x114_145, x114_146, pushO, List.length_cons, List.length_nil, Nat.reduceAdd, Nat.reduceLeDiff, Nat.le_refl, Nat.zero_le, isD_i, isD_r, isD_l, isD_n, if_true, if_false, ite_true, ite_false, reduceIte, h1, f0, e87 h (AB_ok ho), v872 hs, e91 h (AB_ok ho), e86 h (AB_ok ho), h6, h7, h8, c1, c2, bI_f]
      · simp only [x114_85, x114_87, x114_88, x114_89, x114_90, x114_93, x114_96, x114_97, x114_98, x114_100, x114_103, x114_105, x114_106, x114_107, x114_109, x114_110, x114_113, x114_115, x114_116, x114_117, x114_119, x114_120, x114_123, x114_125, x114_128, x114_130, x114_131, x114_132, x114_134, x114_135, x114_138, x114_141, x114_142, x114_145, x114_146, pushO, List.length_cons, List.length_nil, Nat.reduceAdd, Nat.reduceLeDiff, Nat.le_refl, Nat.zero_le, isD_i, isD_r, isD_l, isD_n, if_true, if_false, ite_true, ite_false, reduceIte, h1, f0, e87 h (AB_ok ho), v872 hs, e91 h (AB_ok ho), e86 h (AB_ok ho), h6, h7, h8, c1, c2, bI_t]
  rw [r1]
  unfold hqV
  by_cases c1 : f87 A s 0 < f86 A s (f91 A s (nI k)) 3 * nI (rS (sR (aZ A)))
  · by_cases c2 : f86 A s (f91 A s (nI k)) 0 < 0
    · simp only [x114_148, x114_150, x114_151, x114_152, x114_155, x114_156, x114_158, x114_161, x114_162, x114_163, x114_165, x114_166, x114_169, x114_172, x114_173, x114_176, x114_177, pushO, List.length_cons, List.length_nil, Nat.reduceAdd, Nat.reduceLeDiff, Nat.le_refl, Nat.zero_le, isD_i, isD_r, isD_l, isD_n, if_true, if_false, ite_true, ite_false, reduceIte, f0, e88 h (AB_ok ho), v880, e86 h (AB_ok ho), h9, c1, c2, bI_f]
    · simp only [x114_148, x114_150, x114_151, x114_152, x114_155, x114_156, x114_158, x114_161, x114_162, x114_163, x114_165, x114_166, x114_169, x114_172, x114_173, x114_176, x114_177, pushO, List.length_cons, List.length_nil, Nat.reduceAdd, Nat.reduceLeDiff, Nat.le_refl, Nat.zero_le, isD_i, isD_r, isD_l, isD_n, if_true, if_false, ite_true, ite_false, reduceIte, f0, e88 h (AB_ok ho), v880, e86 h (AB_ok ho), h9, c1, c2, bI_t]
  · simp only [x114_148, x114_150, x114_151, x114_152, x114_155, x114_156, x114_158, x114_161, x114_162, x114_163, x114_165, x114_166, x114_169, x114_172, x114_173, x114_176, x114_177, pushO, List.length_cons, List.length_nil, Nat.reduceAdd, Nat.reduceLeDiff, Nat.le_refl, Nat.zero_le, isD_i, isD_r, isD_l, isD_n, if_true, if_false, ite_true, ite_false, reduceIte, f0, e88 h (AB_ok ho), v880, h9, c1, bI_t]
theorem d0 : ((0 : Int32) < 2) = True := by decide
theorem d1 : ((1 : Int32) < 2) = True := by decide
theorem d2 : ((2 : Int32) < 2) = False := by decide
theorem d3 : ((0 : Int32) < 0) = False := by decide
theorem d4 : ((0 : Int32) < 1) = True := by decide
theorem d5 : ((0 : Int32) < 2) = True := by decide
theorem d6 : ((1 : Int32) < 0) = False := by decide
theorem d7 : ((1 : Int32) < 1) = False := by decide
theorem d8 : ((1 : Int32) < 2) = True := by decide
theorem d9 : ((2 : Int32) = 0) = False := by decide
/-- the end of the check -/
theorem f114 {hw : Nat} {l5 l6 l7 l8 l9 : Value} {x : Nat} {A : StaM} {pm : Nat → Nat} {sz : Nat} {S L : Nat → StaM} {u : Nat → Bool} {P : PadM} {O : OrdM} {J : RowM} {nn : Nat × Nat} {σ : Hp} {s : Int32} {K : Option Value → Hp → Prop} (h : Sys x A pm sz S L u P O J nn σ) (ho : AB A) (hs : isSt s = true) (hh : hw ≤ 2) (hb : HB hw A) (h5 : isD l5 = false) (h6 : isD l6 = false) : X 114 206 [.ref x, .int s, .int (nI hw), .int (nI (rT (sR (stOf A s)))), .int (f87 A s 0), l5, l6, l7, l8, l9] [] σ K = K (some (.int 1)) σ := by
  have f0 := sysF h
  have ok := okAB ho s
  obtain ⟨sb, sz2⟩ := AB_st ho s
  have ht : ¬ nI (rS (sR (aZ A))) < nI (rT (sR (stOf A s))) := nI_nlt (by omega) (by omega)
  have hc : hw = 0 ∨ hw = 1 ∨ hw = 2 := by omega
  have e1 : nI 1 = 1 := rfl
  have e2 : nI 2 = 2 := rfl
  rcases hc with rfl | rfl | rfl
  · have c1 := see_sure hs sb ((HB_st hb s).1 (by omega))
    have c2 : f87 A s 4 = f87 A s 0 := by
      rw [v874 hs, v870 hs]
      exact (HB_st hb s).2 rfl
    rw [nI_0]
    simp only [x114_206, x114_207, x114_210, x114_211, x114_212, x114_213, x114_216, x114_218, x114_221, x114_222, x114_225, x114_226, x114_228, x114_229, x114_230, x114_233, x114_234, x114_235, x114_237, x114_238, x114_241, x114_242, x114_243, x114_245, x114_246, x114_249, x114_252, x114_253, x114_256, x114_257, x114_259, x114_261, x114_264, x114_266, x114_269, x114_270, x114_271, x114_272, x114_275, x114_278, x114_279, x114_282, x114_283, pushO, List.length_cons, List.length_nil, Nat.reduceAdd, Nat.reduceLeDiff, Nat.le_refl, Nat.zero_le, isD_i, isD_r, isD_l, isD_n, if_true, if_false, ite_true, ite_false, reduceIte, d0, d2, d3, d4, d6, d7, d8, d9, i1_ne, f0, e87 h (AB_ok ho), e88 h (AB_ok ho), e89 h (AB_ok ho), v880, h5, h6, c1, c2, ht, ok_1]
  · have c1 := see_sure hs sb ((HB_st hb s).1 (by omega))
    rw [e1]
    simp only [x114_206, x114_207, x114_210, x114_211, x114_212, x114_213, x114_216, x114_218, x114_221, x114_222, x114_225, x114_226, x114_228, x114_229, x114_230, x114_233, x114_234, x114_235, x114_237, x114_238, x114_241, x114_242, x114_243, x114_245, x114_246, x114_249, x114_252, x114_253, x114_256, x114_257, x114_259, x114_261, x114_264, x114_266, x114_269, x114_270, x114_271, x114_272, x114_275, x114_278, x114_279, x114_282, x114_283, pushO, List.length_cons, List.length_nil, Nat.reduceAdd, Nat.reduceLeDiff, Nat.le_refl, Nat.zero_le, isD_i, isD_r, isD_l, isD_n, if_true, if_false, ite_true, ite_false, reduceIte, d0, d2, d3, d4, d6, d7, d8, d9, i1_ne, f0, e87 h (AB_ok ho), e88 h (AB_ok ho), e89 h (AB_ok ho), v880, h5, h6, c1, ht, ok_1]
  · rw [e2]
    have g1 : ((0 : Int32) < 2) = True := by decide
    have g2 : ((1 : Int32) < 2) = True := by decide
    simp only [x114_206, x114_207, x114_210, x114_211, x114_212, x114_213, x114_216, x114_218, x114_221, x114_222, x114_225, x114_226, x114_228, x114_229, x114_230, x114_233, x114_234, x114_235, x114_237, x114_238, x114_241, x114_242, x114_243, x114_245, x114_246, x114_249, x114_252, x114_253, x114_256, x114_257, x114_259, x114_261, x114_264, x114_266, x114_269, x114_270, x114_271, x114_272, x114_275, x114_278, x114_279, x114_282, x114_283, pushO, List.length_cons, List.length_nil, Nat.reduceAdd, Nat.reduceLeDiff, Nat.le_refl, Nat.zero_le, isD_i, isD_r, isD_l, isD_n, if_true, if_false, ite_true, ite_false, reduceIte, d0, d2, d3, d4, d6, d7, d8, d9, i1_ne, g1, g2, f0, e88 h (AB_ok ho), v880, h5, h6, ht, ok_1]
theorem l114b {hw : Nat} {x : Nat} {A : StaM} {pm : Nat → Nat} {sz : Nat} {S L : Nat → StaM} {u : Nat → Bool} {P : PadM} {O : OrdM} {J : RowM} {nn : Nat × Nat} {σ : Hp} {s : Int32} {K : Option Value → Hp → Prop} (h : Sys x A pm sz S L u P O J nn σ) (ho : AB A) (hs : isSt s = true) (hh : hw ≤ 2) (hb : HB hw A) : ∀ (n k : Nat) (l6 l7 l8 l9 : Value), isD l6 = false → isD l7 = false → isD l8 = false → isD l9 = false → k + n = tN (sT (stOf A s)) → X 114 85 [.ref x, .int s, .int (nI hw), .int (nI (rT (sR (stOf A s)))), .int (f87 A s 0), .int (nI k), l6, l7, l8, l9] [] σ K = K (some (.int 1)) σ := by
  have f0 := sysF h
  have ok := okAB ho s
  obtain ⟨sb, sz2⟩ := AB_st ho s
  intro n
  induction n with
  | zero =>
    intro k l6 l7 l8 l9 h6 h7 h8 h9 hk
    have h1 : ¬ nI k < nI (tN (sT (stOf A s))) := nI_nlt (by omega) (by omega)
    simp only [x114_85, x114_87, x114_88, x114_89, x114_90, x114_93, pushO, List.length_cons, List.length_nil, Nat.reduceAdd, Nat.reduceLeDiff, Nat.le_refl, Nat.zero_le, isD_i, isD_r, isD_l, isD_n, if_true, if_false, ite_true, ite_false, reduceIte, f0, e87 h (AB_ok ho), v872 hs, h1]
    exact f114 h ho hs hh hb (isD_i _) h6
  | succ n ih =>
    intro k l6 l7 l8 l9 h6 h7 h8 h9 hk
    have hk2 : k < tN (sT (stOf A s)) := by omega
    rw [b114 h ho hs h6 h7 h8 h9 hk2]
    have nx := ih (k + 1) (.int (f91 A s (nI k))) (.int (f86 A s (f91 A s (nI k)) 3)) (.int (bI (btV A s (f91 A s (nI k))))) (.int (bI (hqV A s (f91 A s (nI k))))) (isD_i _) (isD_i _) (isD_i _) (isD_i _) (by omega)
    have hc : hw = 0 ∨ hw = 1 ∨ hw = 2 := by omega
    have e1 : nI 1 = 1 := rfl
    have e2 : nI 2 = 2 := rfl
    rcases hc with rfl | rfl | rfl
    · have b1 := see_bt hs sb ((HB_st hb s).1 (by omega)) hk2
      have b2 := see_hq hs sb sz2 ((HB_st hb s).1 (by omega)) ((HB_st hb s).2 rfl) hk2
      rw [nI_0] at nx ⊢
      rw [b1, b2] at nx ⊢
      simp only [x114_179, x114_180, x114_181, x114_184, x114_186, x114_189, x114_190, x114_193, x114_195, x114_198, x114_199, x114_200, x114_203, pushO, List.length_cons, List.length_nil, Nat.reduceAdd, Nat.reduceLeDiff, Nat.le_refl, Nat.zero_le, isD_i, isD_r, isD_l, isD_n, if_true, if_false, ite_true, ite_false, reduceIte, d0, d2, d3, d4, d6, d7, d8, d9, i1_ne, bI_t, ← nI_succ]
      exact nx
    · have b1 := see_bt hs sb ((HB_st hb s).1 (by omega)) hk2
      rw [e1] at nx ⊢
      rw [b1] at nx ⊢
      simp only [x114_179, x114_180, x114_181, x114_184, x114_186, x114_189, x114_190, x114_193, x114_195, x114_198, x114_199, x114_200, x114_203, pushO, List.length_cons, List.length_nil, Nat.reduceAdd, Nat.reduceLeDiff, Nat.le_refl, Nat.zero_le, isD_i, isD_r, isD_l, isD_n, if_true, if_false, ite_true, ite_false, reduceIte, d0, d2, d3, d4, d6, d7, d8, d9, i1_ne, bI_t, ← nI_succ]
      exact nx
    · rw [e2] at nx ⊢
      simp only [x114_179, x114_180, x114_181, x114_184, x114_186, x114_189, x114_190, x114_193, x114_195, x114_198, x114_199, x114_200, x114_203, pushO, List.length_cons, List.length_nil, Nat.reduceAdd, Nat.reduceLeDiff, Nat.le_refl, Nat.zero_le, isD_i, isD_r, isD_l, isD_n, if_true, if_false, ite_true, ite_false, reduceIte, d0, d2, d3, d4, d6, d7, d8, d9, i1_ne, ← nI_succ]
      exact nx
theorem e114 {hw : Nat} {x : Nat} {A : StaM} {pm : Nat → Nat} {sz : Nat} {S L : Nat → StaM} {u : Nat → Bool} {P : PadM} {O : OrdM} {J : RowM} {nn : Nat × Nat} {σ : Hp} {s : Int32} {K : Option Value → Hp → Prop} (h : Sys x A pm sz S L u P O J nn σ) (ho : AB A) (hs : isSt s = true) (hh : hw ≤ 2) (hb : HB hw A) : X 114 0 [.ref x, .int s, .int (nI hw), .null, .null, .null, .null, .null, .null, .null] [] σ K = K (some (.int 1)) σ := by
  have f0 := sysF h
  have ok := okAB ho s
  have q1 := l114a (w0 := .int (nI hw)) (l6 := .null) (l7 := .null) (l8 := .null) (l9 := .null) (tt := f87 A s 0) (K := K) h ho hs (rT (sR (stOf A s))) 0 (by omega)
  have q2 := l114b (K := K) h ho hs hh hb (tN (sT (stOf A s))) 0 .null .null .null .null isD_n isD_n isD_n isD_n (by omega)
  rw [nI_0] at q1 q2
  simp only [x114_0, x114_1, x114_2, x114_3, x114_6, x114_7, x114_8, x114_9, x114_10, x114_13, x114_15, x114_16, pushO, List.length_cons, List.length_nil, Nat.reduceAdd, Nat.reduceLeDiff, Nat.le_refl, Nat.zero_le, isD_i, isD_r, isD_l, isD_n, if_true, if_false, ite_true, ite_false, reduceIte, f0, e87 h (AB_ok ho), v871 hs, q1]
  simp only [x114_82, x114_83, pushO, List.length_cons, List.length_nil, Nat.reduceAdd, Nat.reduceLeDiff, Nat.le_refl, Nat.zero_le, isD_i, isD_r, isD_l, isD_n, if_true, if_false, ite_true, ite_false, reduceIte, q2]
