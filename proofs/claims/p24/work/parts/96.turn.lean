/-! a turn of the law's loop -/
theorem lg_self (a : Int64) : lg_cmp a a = 0 := by
  unfold lg_cmp
  rw [if_neg (by show ¬ a < a; exact Int64.lt_irrefl), if_pos rfl]
theorem q13 : ((1 : Int32) = 3) = False := by decide
theorem q03 : ((0 : Int32) = 3) = False := by decide
theorem q23 : ((2 : Int32) = 3) = False := by decide
theorem q01 : ((0 : Int32) = 1) = False := by decide
theorem q21 : ((2 : Int32) = 1) = False := by decide
theorem q02 : ((0 : Int32) = 2) = False := by decide
def wldV (A : StaM) (v w : Int32) : Int32 := if 3 < v &&& 15 then f93 A (strV v) (gstV w) else 0
theorem nI_2t (t : Nat) : 2 * nI t = nI (2 * t) := by
  rw [L2]
  exact (Int32.ofNat_mul 2 t).symm
theorem tA {x b L sz t how sh : Nat} {nn : Nat × Nat} {xs : Nat → Int32} {A L0 : StaM} {σ : Hp} {sv : Int64} {l7 l8 l9 l10 l11 l12 l13 l14 l15 l16 l17 : Value} {K : Option Value → Hp → Prop} (h : Ob x A L0 sz nn σ) (ha : AB A) (hk : KS b L xs σ) (hL : L ≤ 260) (ht : t < 44) (h7 : isD l7 = false) (h8 : isD l8 = false) (h9 : isD l9 = false) (h11 : isD l11 = false) (h12 : isD l12 = false) (h13 : isD l13 = false) : X 115 51 [.ref b, .ref x, .long sv, .double 0, .int (nI how), .int (nI sh), .int (nI t), l7, l8, l9, l10, l11, l12, l13, l14, l15, l16, l17] [] σ K = X 115 130 [.ref b, .ref x, .long sv, .double 0, .int (nI how), .int (nI sh), .int (nI t), .int (celV L xs (2 * t)), .int (celV L xs (2 * t + 1)), .long (dig A), .double 0, .int (nI (rS (sR (aZ A)))), .int (nI sz), .int (wldV A (celV L xs (2 * t)) (celV L xs (2 * t + 1))), l14, l15, l16, l17] [] σ K := by
  have f0 := Ob_o h
  have c1 := fun K => e109 (K := K) hk (show L < 2 ^ 31 by omega) (show 2 * t < 2 ^ 31 by omega)
  have c2 := fun K => e109 (K := K) hk (show L < 2 ^ 31 by omega) (show 2 * t + 1 < 2 ^ 31 by omega)
  have t1 : nI t < 44 := by rw [show (44 : Int32) = nI 44 by decide +kernel]; exact nI_lt ht (by omega)
  have g1 := fun K => (ob_88 (K := K) h ha).1
  have g2 := fun K => (ob_88 (K := K) h ha).2
  have g3 := fun K => ob_dig (K := K) h ha
  simp only [x115_51, x115_53, x115_55, x115_58, x115_59, x115_60, x115_62, x115_63, x115_66, x115_68, x115_69, x115_70, x115_72, x115_73, x115_74, x115_75, x115_78, x115_80, x115_81, x115_84, x115_86, x115_87, x115_88, x115_91, x115_93, x115_94, x115_95, x115_98, pushO, List.length_cons, List.length_nil, Nat.reduceAdd, Nat.reduceLeDiff, Nat.le_refl, Nat.zero_le, isD_i, isD_r, isD_l, isD_n, if_true, if_false, ite_true, ite_false, reduceIte, f0, t1, nI_2t, ← nI_succ, c1, c2, g1, g2, g3, h7, h8, h9, h11, h12]
  generalize celV L xs (2 * t) = v
  generalize celV L xs (2 * t + 1) = w
  unfold wldV
  by_cases q : 3 < v &&& 15
  · have g4 := fun K => ob_93 (K := K) (s := strV v) (y := gstV w) h ha
    unfold strV at g4 ⊢
    simp only [x115_100, x115_102, x115_104, x115_105, x115_106, x115_109, x115_110, x115_112, x115_113, x115_114, x115_115, x115_116, x115_118, x115_121, x115_124, x115_127, x115_128, pushO, List.length_cons, List.length_nil, Nat.reduceAdd, Nat.reduceLeDiff, Nat.le_refl, Nat.zero_le, isD_i, isD_r, isD_l, isD_n, if_true, if_false, ite_true, ite_false, reduceIte, f0, q, e111, g4, h13]
  · simp only [x115_100, x115_102, x115_104, x115_105, x115_106, x115_109, x115_110, x115_112, x115_113, x115_114, x115_115, x115_116, x115_118, x115_121, x115_124, x115_127, x115_128, pushO, List.length_cons, List.length_nil, Nat.reduceAdd, Nat.reduceLeDiff, Nat.le_refl, Nat.zero_le, isD_i, isD_r, isD_l, isD_n, if_true, if_false, ite_true, ite_false, reduceIte, q, h13]
/-- a call that fails -/
theorem tF {x b sz t how sh : Nat} {nn : Nat × Nat} {A L0 : StaM} {σ : Hp} {sv : Int64} {v w r : Int32} {l13 l14 l15 l16 l17 : Value} {K : Option Value → Hp → Prop} (h : Ob x A L0 sz nn σ) (ha : AB A) (hr : r < 0) (p1 : ∀ K : Option Value → Hp → Prop, X 113 0 [.ref x, .int v, .int w] [] σ K = K (some (.int r)) σ) (h14 : isD l14 = false) (h15 : isD l15 = false) (h17 : isD l17 = false) : X 115 130 [.ref b, .ref x, .long sv, .double 0, .int (nI how), .int (nI sh), .int (nI t), .int v, .int w, .long (dig A), .double 0, .int (nI (rS (sR (aZ A)))), .int (nI sz), l13, l14, l15, l16, l17] [] σ K = X 115 398 [.ref b, .ref x, .long sv, .double 0, .int (nI how), .int (nI sh), .int (nI t), .int v, .int w, .long (dig A), .double 0, .int (nI (rS (sR (aZ A)))), .int (nI sz), l13, .int r, .long (dig A), .double 0, .int 9] [] σ K := by
  have f0 := Ob_o h
  have g2 := fun K => (ob_88 (K := K) h ha).2
  have g3 := fun K => ob_dig (K := K) h ha
  have k1 : ((9 : Int32) = 3) = False := by decide
  have k2 : ((9 : Int32) = 1) = False := by decide
  have k3 : ((9 : Int32) = 0) = False := by decide
  have k4 : ((9 : Int32) = 2) = False := by decide
  simp only [x115_130, x115_131, x115_133, x115_135, x115_138, x115_140, x115_141, x115_144, x115_146, x115_148, x115_151, x115_153, x115_155, x115_156, x115_159, x115_160, x115_161, x115_164, x115_166, x115_169, pushO, List.length_cons, List.length_nil, Nat.reduceAdd, Nat.reduceLeDiff, Nat.le_refl, Nat.zero_le, isD_i, isD_r, isD_l, isD_n, if_true, if_false, ite_true, ite_false, reduceIte, f0, p1, g2, g3, hr, h14, h15, lg_self]
  simp only [x115_198, x115_200, x115_203, x115_205, x115_207, x115_208, x115_209, x115_212, x115_214, x115_215, x115_216, x115_219, x115_221, x115_223, x115_224, x115_225, x115_228, x115_230, x115_232, x115_235, x115_236, x115_237, x115_239, x115_242, x115_244, x115_246, x115_247, x115_248, x115_249, x115_252, x115_253, x115_254, x115_257, x115_258, x115_259, x115_261, x115_262, x115_265, x115_267, x115_270, x115_271, x115_274, x115_276, x115_277, x115_280, x115_281, x115_283, x115_285, x115_288, x115_290, x115_293, x115_294, x115_297, x115_299, x115_300, x115_303, x115_304, x115_305, x115_307, x115_310, x115_312, x115_315, x115_317, x115_319, x115_320, x115_322, x115_324, x115_325, x115_328, x115_330, x115_333, x115_335, x115_336, x115_339, x115_341, x115_344, x115_345, x115_346, x115_349, x115_351, x115_354, x115_355, x115_358, x115_360, x115_361, x115_364, x115_366, x115_369, x115_370, x115_371, x115_374, x115_376, x115_379, x115_381, x115_382, x115_385, x115_387, x115_390, x115_391, x115_394, x115_396, pushO, List.length_cons, List.length_nil, Nat.reduceAdd, Nat.reduceLeDiff, Nat.le_refl, Nat.zero_le, isD_i, isD_r, isD_l, isD_n, if_true, if_false, ite_true, ite_false, reduceIte, hr, h17, k1, k2, k3, k4]
/-- how it came about, behind a call that didn't fail -/
theorem tH {B : StaM} {sz1 : Nat} {x b how sh : Nat} {nn : Nat × Nat} {A L0 : StaM} {σ : Hp} {sv : Int64} {v r : Int32} {l6 l8 l9 l10 l12 l13 l15 l16 l17 : Value} {K : Option Value → Hp → Prop} (h : Ob x B L0 sz1 nn σ) (hB : AB B) (ha : AB A) (hh : how ≤ 2) (hr : ¬ r < 0) (h17 : isD l17 = false) : X 115 305 [.ref b, .ref x, .long sv, .double 0, .int (nI how), .int (nI sh), l6, .int v, l8, l9, l10, .int (nI (rS (sR (aZ A)))), l12, l13, .int r, l15, l16, l17] [] σ K = X 115 398 [.ref b, .ref x, .long sv, .double 0, .int (nI (howF A B v how sh)), .int (nI sh), l6, .int v, l8, l9, l10, .int (nI (rS (sR (aZ A)))), l12, l13, .int r, l15, l16, .int (v &&& 15)] [] σ K := by
  have f0 := Ob_o h
  have g1 := fun K => (ob_88 (K := K) h hB).1
  have a12 := ha.1.2.2.1.2.2.1
  have b12 := hB.1.2.2.1.2.2.1
  have e1 : nI 1 = 1 := rfl
  have e2 : nI 2 = 2 := rfl
  have eh : ((1 : Int32) < nI how) = (1 < how) := by rw [show (1 : Int32) = nI 1 from rfl]; exact nI_lt_iff (by omega) (by omega)
  unfold howF
  by_cases c3 : v &&& 15 = 3
  · rw [if_pos c3]
    simp only [x115_305, x115_307, x115_310, x115_312, x115_315, x115_317, x115_319, x115_320, x115_322, x115_324, x115_325, x115_328, x115_330, x115_333, x115_335, x115_336, x115_339, x115_341, x115_344, x115_345, x115_346, x115_349, x115_351, x115_354, x115_355, x115_358, x115_360, x115_361, x115_364, x115_366, x115_369, x115_370, x115_371, x115_374, x115_376, x115_379, x115_381, x115_382, x115_385, x115_387, x115_390, x115_391, x115_394, x115_396, pushO, List.length_cons, List.length_nil, Nat.reduceAdd, Nat.reduceLeDiff, Nat.le_refl, Nat.zero_le, isD_i, isD_r, isD_l, isD_n, if_true, if_false, ite_true, ite_false, reduceIte, hr, h17, c3]
  · rw [if_neg c3]
    by_cases c1 : v &&& 15 = 1
    · rw [if_pos c1, e2]
      simp only [x115_305, x115_307, x115_310, x115_312, x115_315, x115_317, x115_319, x115_320, x115_322, x115_324, x115_325, x115_328, x115_330, x115_333, x115_335, x115_336, x115_339, x115_341, x115_344, x115_345, x115_346, x115_349, x115_351, x115_354, x115_355, x115_358, x115_360, x115_361, x115_364, x115_366, x115_369, x115_370, x115_371, x115_374, x115_376, x115_379, x115_381, x115_382, x115_385, x115_387, x115_390, x115_391, x115_394, x115_396, pushO, List.length_cons, List.length_nil, Nat.reduceAdd, Nat.reduceLeDiff, Nat.le_refl, Nat.zero_le, isD_i, isD_r, isD_l, isD_n, if_true, if_false, ite_true, ite_false, reduceIte, q13, q03, q23, q01, q21, q02, d9, i1_ne, hr, h17, c1]
    · rw [if_neg c1]
      by_cases c0 : v &&& 15 = 0
      · rw [if_pos c0]
        have e3 : (nI (rS (sR (aZ A))) < nI (rS (sR (aZ B)))) = (rS (sR (aZ A)) < rS (sR (aZ B))) := nI_lt_iff (by omega) (by omega)
        have e4 : (nI (rS (sR (aZ B))) < nI (rS (sR (aZ A)))) = (rS (sR (aZ B)) < rS (sR (aZ A))) := nI_lt_iff (by omega) (by omega)
        by_cases q1 : rS (sR (aZ A)) < rS (sR (aZ B))
        · rw [if_pos q1, e2]
          simp only [x115_305, x115_307, x115_310, x115_312, x115_315, x115_317, x115_319, x115_320, x115_322, x115_324, x115_325, x115_328, x115_330, x115_333, x115_335, x115_336, x115_339, x115_341, x115_344, x115_345, x115_346, x115_349, x115_351, x115_354, x115_355, x115_358, x115_360, x115_361, x115_364, x115_366, x115_369, x115_370, x115_371, x115_374, x115_376, x115_379, x115_381, x115_382, x115_385, x115_387, x115_390, x115_391, x115_394, x115_396, pushO, List.length_cons, List.length_nil, Nat.reduceAdd, Nat.reduceLeDiff, Nat.le_refl, Nat.zero_le, isD_i, isD_r, isD_l, isD_n, if_true, if_false, ite_true, ite_false, reduceIte, q13, q03, q23, q01, q21, q02, d9, i1_ne, hr, h17, c0, f0, g1, e3, q1]
        · rw [if_neg q1]
          by_cases q2 : rS (sR (aZ B)) < rS (sR (aZ A))
          · rw [if_pos q2]
            by_cases q3 : 1 < how
            · rw [if_pos q3]
              simp only [x115_305, x115_307, x115_310, x115_312, x115_315, x115_317, x115_319, x115_320, x115_322, x115_324, x115_325, x115_328, x115_330, x115_333, x115_335, x115_336, x115_339, x115_341, x115_344, x115_345, x115_346, x115_349, x115_351, x115_354, x115_355, x115_358, x115_360, x115_361, x115_364, x115_366, x115_369, x115_370, x115_371, x115_374, x115_376, x115_379, x115_381, x115_382, x115_385, x115_387, x115_390, x115_391, x115_394, x115_396, pushO, List.length_cons, List.length_nil, Nat.reduceAdd, Nat.reduceLeDiff, Nat.le_refl, Nat.zero_le, isD_i, isD_r, isD_l, isD_n, if_true, if_false, ite_true, ite_false, reduceIte, q13, q03, q23, q01, q21, q02, d9, i1_ne, hr, h17, c0, f0, g1, e3, e4, eh, q1, q2, q3]
            · rw [if_neg q3, e1]
              simp only [x115_305, x115_307, x115_310, x115_312, x115_315, x115_317, x115_319, x115_320, x115_322, x115_324, x115_325, x115_328, x115_330, x115_333, x115_335, x115_336, x115_339, x115_341, x115_344, x115_345, x115_346, x115_349, x115_351, x115_354, x115_355, x115_358, x115_360, x115_361, x115_364, x115_366, x115_369, x115_370, x115_371, x115_374, x115_376, x115_379, x115_381, x115_382, x115_385, x115_387, x115_390, x115_391, x115_394, x115_396, pushO, List.length_cons, List.length_nil, Nat.reduceAdd, Nat.reduceLeDiff, Nat.le_refl, Nat.zero_le, isD_i, isD_r, isD_l, isD_n, if_true, if_false, ite_true, ite_false, reduceIte, q13, q03, q23, q01, q21, q02, d9, i1_ne, hr, h17, c0, f0, g1, e3, e4, eh, q1, q2, q3]
          · rw [if_neg q2]
            simp only [x115_305, x115_307, x115_310, x115_312, x115_315, x115_317, x115_319, x115_320, x115_322, x115_324, x115_325, x115_328, x115_330, x115_333, x115_335, x115_336, x115_339, x115_341, x115_344, x115_345, x115_346, x115_349, x115_351, x115_354, x115_355, x115_358, x115_360, x115_361, x115_364, x115_366, x115_369, x115_370, x115_371, x115_374, x115_376, x115_379, x115_381, x115_382, x115_385, x115_387, x115_390, x115_391, x115_394, x115_396, pushO, List.length_cons, List.length_nil, Nat.reduceAdd, Nat.reduceLeDiff, Nat.le_refl, Nat.zero_le, isD_i, isD_r, isD_l, isD_n, if_true, if_false, ite_true, ite_false, reduceIte, q13, q03, q23, q01, q21, q02, d9, i1_ne, hr, h17, c0, f0, g1, e3, e4, q1, q2]
      · rw [if_neg c0]
        by_cases c2 : v &&& 15 = 2
        · rw [if_pos c2]
          by_cases q3 : 1 < how
          · rw [if_pos q3]
            simp only [x115_305, x115_307, x115_310, x115_312, x115_315, x115_317, x115_319, x115_320, x115_322, x115_324, x115_325, x115_328, x115_330, x115_333, x115_335, x115_336, x115_339, x115_341, x115_344, x115_345, x115_346, x115_349, x115_351, x115_354, x115_355, x115_358, x115_360, x115_361, x115_364, x115_366, x115_369, x115_370, x115_371, x115_374, x115_376, x115_379, x115_381, x115_382, x115_385, x115_387, x115_390, x115_391, x115_394, x115_396, pushO, List.length_cons, List.length_nil, Nat.reduceAdd, Nat.reduceLeDiff, Nat.le_refl, Nat.zero_le, isD_i, isD_r, isD_l, isD_n, if_true, if_false, ite_true, ite_false, reduceIte, q13, q03, q23, q01, q21, q02, d9, i1_ne, hr, h17, c2, eh, q3]
          · rw [if_neg q3, e1]
            simp only [x115_305, x115_307, x115_310, x115_312, x115_315, x115_317, x115_319, x115_320, x115_322, x115_324, x115_325, x115_328, x115_330, x115_333, x115_335, x115_336, x115_339, x115_341, x115_344, x115_345, x115_346, x115_349, x115_351, x115_354, x115_355, x115_358, x115_360, x115_361, x115_364, x115_366, x115_369, x115_370, x115_371, x115_374, x115_376, x115_379, x115_381, x115_382, x115_385, x115_387, x115_390, x115_391, x115_394, x115_396, pushO, List.length_cons, List.length_nil, Nat.reduceAdd, Nat.reduceLeDiff, Nat.le_refl, Nat.zero_le, isD_i, isD_r, isD_l, isD_n, if_true, if_false, ite_true, ite_false, reduceIte, q13, q03, q23, q01, q21, q02, d9, i1_ne, hr, h17, c2, eh, q3]
        · rw [if_neg c2]
          simp only [x115_305, x115_307, x115_310, x115_312, x115_315, x115_317, x115_319, x115_320, x115_322, x115_324, x115_325, x115_328, x115_330, x115_333, x115_335, x115_336, x115_339, x115_341, x115_344, x115_345, x115_346, x115_349, x115_351, x115_354, x115_355, x115_358, x115_360, x115_361, x115_364, x115_366, x115_369, x115_370, x115_371, x115_374, x115_376, x115_379, x115_381, x115_382, x115_385, x115_387, x115_390, x115_391, x115_394, x115_396, pushO, List.length_cons, List.length_nil, Nat.reduceAdd, Nat.reduceLeDiff, Nat.le_refl, Nat.zero_le, isD_i, isD_r, isD_l, isD_n, if_true, if_false, ite_true, ite_false, reduceIte, hr, h17, c0, c1, c2, c3]
theorem remZ_cnt {sz : Nat} (h : sz ≤ 6) : nI (remZ sz + 1) = if nI sz < 6 then nI (sz + 1) else 6 := by
  unfold remZ
  by_cases e : sz = 6
  · subst e
    rw [if_pos rfl, if_neg (by decide)]
    rfl
  · have h6 : nI sz < 6 := by
      rw [show (6 : Int32) = nI 6 by decide +kernel]
      exact nI_lt (by omega) (by omega)
    rw [if_neg e, if_pos h6]
theorem remZ_2 {sz : Nat} (h : sz ≤ 6) : remZ (remZ sz) = remZ sz := by
  have := remZ_lt h
  show (if remZ sz = 6 then 5 else remZ sz) = remZ sz
  rw [if_neg (by omega)]
theorem act_some {x : Nat} {A L0 B : StaM} {sz : Nat} {nn : Nat × Nat} {v w r : Int32} {σ : Hp} (h : Ob x A L0 sz nn σ) (ha : AB A) (e : actF A L0 v w = (r, some B)) : ∃ σ' : Hp, ObU x B L0 A (remZ sz + 1) nn σ' ∧ ∀ K : Option Value → Hp → Prop, X 113 0 [.ref x, .int v, .int w] [] σ K = K (some (.int r)) σ' := by
  have q := act_X (v := v) (w := w) h ha
  rw [e] at q
  rcases q with ⟨q1, -⟩ | ⟨B2, σ', q1, q2, q3⟩
  · cases q1
  · cases q1
    exact ⟨σ', q2, q3⟩
/-- a call that doesn't fail, and again behind undo -/
theorem tS {B : StaM} {x b L sz t how sh : Nat} {nn : Nat × Nat} {xs : Nat → Int32} {A L0 : StaM} {σ : Hp} {sv : Int64} {v w r : Int32} {l14 l15 l16 l17 : Value} (h : Ob x A L0 sz nn σ) (ha : AB A) (hB : AB B) (hk : KS b L xs σ) (e : actF A L0 v w = (r, some B)) (hr : ¬ r < 0) (hsv : sv = dig L0) (h14 : isD l14 = false) (h15 : isD l15 = false) (h17 : isD l17 = false) : ∃ (σ' : Hp) (m17 : Value), isD m17 = false ∧ Ob x B L0 (remZ sz + 1) nn σ' ∧ KS b L xs σ' ∧ ∀ K : Option Value → Hp → Prop, X 115 130 [.ref b, .ref x, .long sv, .double 0, .int (nI how), .int (nI sh), .int (nI t), .int v, .int w, .long (dig A), .double 0, .int (nI (rS (sR (aZ A)))), .int (nI sz), .int (wldV A v w), l14, l15, l16, l17] [] σ K = X 115 305 [.ref b, .ref x, .long sv, .double 0, .int (nI how), .int (nI sh), .int (nI t), .int v, .int w, .long (dig A), .double 0, .int (nI (rS (sR (aZ A)))), .int (nI sz), .int (wldV A v w), .int r, .long (dig B), .double 0, m17] [] σ' K := by
  have z6 := Ob_z h
  have f0 := Ob_o h
  obtain ⟨σ1, u1, p1⟩ := act_some h ha e
  have o1 := ObU_o u1
  have f1 := Ob_o o1
  have k1 := ks_X hk p1
  have g2 := fun K => (ob_88 (K := K) o1 hB).2
  have g3 := fun K => ob_dig (K := K) o1 hB
  have s1 : ∀ K : Option Value → Hp → Prop, X 115 130 [.ref b, .ref x, .long sv, .double 0, .int (nI how), .int (nI sh), .int (nI t), .int v, .int w, .long (dig A), .double 0, .int (nI (rS (sR (aZ A)))), .int (nI sz), .int (wldV A v w), l14, l15, l16, l17] [] σ K = X 115 198 [.ref b, .ref x, .long sv, .double 0, .int (nI how), .int (nI sh), .int (nI t), .int v, .int w, .long (dig A), .double 0, .int (nI (rS (sR (aZ A)))), .int (nI sz), .int (wldV A v w), .int r, .long (dig B), .double 0, l17] [] σ1 K := fun K => by
    have rc := remZ_cnt z6
    by_cases q : nI sz < 6
    · rw [if_pos q] at rc
      simp only [x115_130, x115_131, x115_133, x115_135, x115_138, x115_140, x115_141, x115_144, x115_146, x115_148, x115_151, x115_153, x115_155, x115_156, x115_159, x115_160, x115_161, x115_164, x115_166, x115_169, x115_172, x115_173, x115_174, x115_177, x115_179, x115_181, x115_184, x115_186, x115_187, x115_188, x115_191, x115_193, pushO, List.length_cons, List.length_nil, Nat.reduceAdd, Nat.reduceLeDiff, Nat.le_refl, Nat.zero_le, isD_i, isD_r, isD_l, isD_n, if_true, if_false, ite_true, ite_false, reduceIte, f0, f1, p1, g2, g3, hr, h14, h15, q, rc, ← nI_succ]
    · rw [if_neg q] at rc
      simp only [x115_130, x115_131, x115_133, x115_135, x115_138, x115_140, x115_141, x115_144, x115_146, x115_148, x115_151, x115_153, x115_155, x115_156, x115_159, x115_160, x115_161, x115_164, x115_166, x115_169, x115_172, x115_173, x115_174, x115_177, x115_179, x115_181, x115_184, x115_186, x115_187, x115_188, x115_191, x115_193, pushO, List.length_cons, List.length_nil, Nat.reduceAdd, Nat.reduceLeDiff, Nat.le_refl, Nat.zero_le, isD_i, isD_r, isD_l, isD_n, if_true, if_false, ite_true, ite_false, reduceIte, f0, f1, p1, g2, g3, hr, h14, h15, q, rc]
  have s2 : ∀ K : Option Value → Hp → Prop, X 115 198 [.ref b, .ref x, .long sv, .double 0, .int (nI how), .int (nI sh), .int (nI t), .int v, .int w, .long (dig A), .double 0, .int (nI (rS (sR (aZ A)))), .int (nI sz), .int (wldV A v w), .int r, .long (dig B), .double 0, l17] [] σ1 K = X 115 237 [.ref b, .ref x, .long sv, .double 0, .int (nI how), .int (nI sh), .int (nI t), .int v, .int w, .long (dig A), .double 0, .int (nI (rS (sR (aZ A)))), .int (nI sz), .int (wldV A v w), .int r, .long (dig B), .double 0, l17] [] σ1 K := fun K => by
    have s3 : X 115 198 [.ref b, .ref x, .long sv, .double 0, .int (nI how), .int (nI sh), .int (nI t), .int v, .int w, .long (dig A), .double 0, .int (nI (rS (sR (aZ A)))), .int (nI sz), .int (wldV A v w), .int r, .long (dig B), .double 0, l17] [] σ1 K = X 115 219 [.ref b, .ref x, .long sv, .double 0, .int (nI how), .int (nI sh), .int (nI t), .int v, .int w, .long (dig A), .double 0, .int (nI (rS (sR (aZ A)))), .int (nI sz), .int (wldV A v w), .int r, .long (dig B), .double 0, l17] [] σ1 K := by
      by_cases c3 : v &&& 15 = 3
      · have eB : sv = dig B := by
          have c0 : ¬ v &&& 15 = 0 := by rw [c3]; decide
          have c1 : ¬ v &&& 15 = 1 := by rw [c3]; decide
          have c2 : ¬ v &&& 15 = 2 := by rw [c3]; decide
          unfold actF at e
          rw [if_neg c0, if_neg c1, if_neg c2, if_pos c3] at e
          unfold acR at e
          by_cases hy : w &&& 1 = 0
          · rw [if_pos hy] at e
            cases e
            exact hsv
          · rw [if_neg hy] at e
            by_cases hsl : isSl (w &&& 1) = true
            · rw [if_pos hsl] at e
              cases e
            · rw [if_neg hsl] at e
              cases e
        rw [eB]
        simp only [x115_198, x115_200, x115_203, x115_205, x115_207, x115_208, x115_209, x115_212, x115_214, x115_215, x115_216, pushO, List.length_cons, List.length_nil, Nat.reduceAdd, Nat.reduceLeDiff, Nat.le_refl, Nat.zero_le, isD_i, isD_r, isD_l, isD_n, if_true, if_false, ite_true, ite_false, reduceIte, hr, c3, lg_self]
      · simp only [x115_198, x115_200, x115_203, x115_205, x115_207, x115_208, x115_209, x115_212, x115_214, x115_215, x115_216, pushO, List.length_cons, List.length_nil, Nat.reduceAdd, Nat.reduceLeDiff, Nat.le_refl, Nat.zero_le, isD_i, isD_r, isD_l, isD_n, if_true, if_false, ite_true, ite_false, reduceIte, hr, c3]
    rw [s3]
    by_cases c3 : 3 < v &&& 15
    · have ew : r = wldV A v w := by
        unfold wldV
        rw [if_pos c3]
        exact act_would ha c3 e
      rw [← ew]
      simp only [x115_219, x115_221, x115_223, x115_224, x115_225, x115_228, x115_230, x115_232, pushO, List.length_cons, List.length_nil, Nat.reduceAdd, Nat.reduceLeDiff, Nat.le_refl, Nat.zero_le, isD_i, isD_r, isD_l, isD_n, if_true, if_false, ite_true, ite_false, reduceIte, c3]
    · simp only [x115_219, x115_221, x115_223, x115_224, x115_225, x115_228, x115_230, x115_232, pushO, List.length_cons, List.length_nil, Nat.reduceAdd, Nat.reduceLeDiff, Nat.le_refl, Nat.zero_le, isD_i, isD_r, isD_l, isD_n, if_true, if_false, ite_true, ite_false, reduceIte, c3]
  by_cases q : (v >>> ((8 : Int32) &&& 31)) &&& 1 = 0
  · obtain ⟨σ2, o2, p2⟩ := ob_undo u1
    have f2 := Ob_o o2
    have k2 := ks_X k1 p2
    have g4 := fun K => ob_dig (K := K) o2 ha
    obtain ⟨σ3, u3, p3⟩ := act_some o2 ha e
    have o3 := ObU_o u3
    have f3 := Ob_o o3
    have k3 := ks_X k2 p3
    have g5 := fun K => ob_dig (K := K) o3 hB
    rw [remZ_2 z6] at o3
    refine ⟨σ3, .int (nI (remZ sz)), isD_i _, o3, k3, fun K => ?_⟩
    rw [s1, s2]
    simp only [x115_237, x115_239, x115_242, x115_244, x115_246, x115_247, x115_248, x115_249, x115_252, x115_253, x115_254, x115_257, x115_258, x115_259, x115_261, x115_262, x115_265, x115_267, x115_270, x115_271, x115_274, x115_276, x115_277, x115_280, x115_281, x115_283, x115_285, x115_288, x115_290, x115_293, x115_294, x115_297, x115_299, x115_300, pushO, List.length_cons, List.length_nil, Nat.reduceAdd, Nat.reduceLeDiff, Nat.le_refl, Nat.zero_le, isD_i, isD_r, isD_l, isD_n, if_true, if_false, ite_true, ite_false, reduceIte, hr, q, f1, g2, nI_pred, h17, p2, f2, g4, lg_self, p3, f3, g5]
  · refine ⟨σ1, l17, h17, o1, k1, fun K => ?_⟩
    rw [s1, s2]
    simp only [x115_237, x115_239, x115_242, x115_244, x115_246, x115_247, x115_248, x115_249, x115_252, x115_253, x115_254, x115_257, x115_258, x115_259, x115_261, x115_262, x115_265, x115_267, x115_270, x115_271, x115_274, x115_276, x115_277, x115_280, x115_281, x115_283, x115_285, x115_288, x115_290, x115_293, x115_294, x115_297, x115_299, x115_300, pushO, List.length_cons, List.length_nil, Nat.reduceAdd, Nat.reduceLeDiff, Nat.le_refl, Nat.zero_le, isD_i, isD_r, isD_l, isD_n, if_true, if_false, ite_true, ite_false, reduceIte, hr, q]
theorem ob_114 {x : Nat} {A L0 : StaM} {sz how : Nat} {nn : Nat × Nat} {σ : Hp} {K : Option Value → Hp → Prop} (h : Ob x A L0 sz nn σ) (ha : AB A) (hb : HB how A) (hh : how ≤ 2) : X 114 0 [.ref x, .int 0, .int (nI how), .null, .null, .null, .null, .null, .null, .null] [] σ K = K (some (.int 1)) σ ∧ X 114 0 [.ref x, .int 1, .int (nI how), .null, .null, .null, .null, .null, .null, .null] [] σ K = K (some (.int 1)) σ := by
  obtain ⟨pm, S, L, u, P, O, J, h, h1⟩ := h
  exact ⟨e114 h ha (by decide) hh hb, e114 h ha (by decide) hh hb⟩
/-- the check, and saving -/
theorem tE {x b L sz t how sh : Nat} {nn : Nat × Nat} {xs : Nat → Int32} {A L0 : StaM} {σ : Hp} {sv : Int64} {v : Int32} {l8 l9 l10 l11 l12 l13 l14 l16 l17 : Value} (h : Ob x A L0 sz nn σ) (ha : AB A) (hb : HB how A) (hh : how ≤ 2) (hl : HB sh L0) (hs : sh ≤ 2) (hk : KS b L xs σ) (hsv : sv = dig L0) : ∃ (σ' : Hp) (L2 : StaM) (sh2 : Nat) (sv2 : Int64), Ob x A L2 sz nn σ' ∧ KS b L xs σ' ∧ HB sh2 L2 ∧ sh2 ≤ 2 ∧ sv2 = dig L2 ∧ ∀ K : Option Value → Hp → Prop, X 115 398 [.ref b, .ref x, .long sv, .double 0, .int (nI how), .int (nI sh), .int (nI t), .int v, l8, l9, l10, l11, l12, l13, l14, .long (dig A), l16, l17] [] σ K = X 115 51 [.ref b, .ref x, .long sv2, .double 0, .int (nI how), .int (nI sh2), .int (nI (t + 1)), .int v, l8, l9, l10, l11, l12, l13, l14, .long (dig A), l16, l17] [] σ' K := by
  have f0 := Ob_o h
  have g1 := fun K => (ob_114 (K := K) h ha hb hh).1
  have g2 := fun K => (ob_114 (K := K) h ha hb hh).2
  by_cases q : (v >>> ((9 : Int32) &&& 31)) &&& 7 = 0
  · obtain ⟨σ', o1, p1⟩ := ob_save h
    refine ⟨σ', A, how, dig A, o1, ks_X hk p1, hb, hh, rfl, fun K => ?_⟩
    simp only [x115_398, x115_399, x115_400, x115_402, x115_405, x115_408, x115_409, x115_410, x115_412, x115_415, x115_418, x115_419, x115_420, x115_422, x115_424, x115_425, x115_427, x115_428, x115_431, x115_432, x115_433, x115_436, x115_437, x115_439, x115_440, x115_442, x115_444, x115_447, pushO, List.length_cons, List.length_nil, Nat.reduceAdd, Nat.reduceLeDiff, Nat.le_refl, Nat.zero_le, isD_i, isD_r, isD_l, isD_n, if_true, if_false, ite_true, ite_false, reduceIte, f0, g1, g2, i1_ne, q, p1, ← nI_succ]
  · refine ⟨σ, L0, sh, sv, h, hk, hl, hs, hsv, fun K => ?_⟩
    simp only [x115_398, x115_399, x115_400, x115_402, x115_405, x115_408, x115_409, x115_410, x115_412, x115_415, x115_418, x115_419, x115_420, x115_422, x115_424, x115_425, x115_427, x115_428, x115_431, x115_432, x115_433, x115_436, x115_437, x115_439, x115_440, x115_442, x115_444, x115_447, pushO, List.length_cons, List.length_nil, Nat.reduceAdd, Nat.reduceLeDiff, Nat.le_refl, Nat.zero_le, isD_i, isD_r, isD_l, isD_n, if_true, if_false, ite_true, ite_false, reduceIte, f0, g1, g2, i1_ne, q, ← nI_succ]
