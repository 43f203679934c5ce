/-! the law's loop -/
theorem law_end {x b sz how sh : Nat} {nn : Nat × Nat} {A L0 : StaM} {σ : Hp} {sv : Int64} {l7 l8 l9 l10 l11 l12 l13 l14 l15 l16 l17 : Value} (h : Ob x A L0 sz nn σ) (hl : AB L0) (hsv : sv = dig L0) : ∃ σ' : Hp, σ'.2 = nn ∧ ∀ K : Option Value → Hp → Prop, X 115 51 [.ref b, .ref x, .long sv, .double 0, .int (nI how), .int (nI sh), .int (nI 44), l7, l8, l9, l10, l11, l12, l13, l14, l15, l16, l17] [] σ K = K (some (.int 1)) σ' := by
  have f0 := Ob_o h
  obtain ⟨σ1, o1, p1⟩ := ob_rest h
  have f1 := Ob_o o1
  have g1 := fun K => ob_87 (K := K) (s := 0) (w := 0) o1 hl
  have g2 := fun K => ob_dig (K := K) o1 hl
  have e0 : f87 L0 0 0 = sN (aZ L0) := (v870 (by decide)).trans (by rw [show stOf L0 0 = aZ L0 from if_pos rfl])
  have h1 : ¬ nI 44 < 44 := by decide
  subst hsv
  refine ⟨σ1, Ob_n o1, fun K => ?_⟩
  simp only [x115_51, x115_53, x115_55, x115_450, x115_451, x115_452, x115_455, x115_456, x115_457, x115_458, x115_461, x115_464, x115_465, x115_468, x115_469, x115_470, x115_473, x115_474, x115_477, x115_478, pushO, List.length_cons, List.length_nil, Nat.reduceAdd, Nat.reduceLeDiff, Nat.le_refl, Nat.zero_le, isD_i, isD_r, isD_l, isD_n, if_true, if_false, ite_true, ite_false, reduceIte, h1, f0, p1, f1, g1, e0, g2, lg_self, ok_1]
theorem law_turns {x b L : Nat} {nn : Nat × Nat} {xs : Nat → Int32} (hL : L ≤ 260) : ∀ (n t : Nat), t + n = 44 → ∀ (A L0 : StaM) (sz how sh : Nat) (σ : Hp) (sv : Int64) (l7 l8 l9 l10 l11 l12 l13 l14 l15 l16 l17 : Value), Ob x A L0 sz nn σ → HB how A → how ≤ 2 → HB sh L0 → sh ≤ 2 → sv = dig L0 → KS b L xs σ → isD l7 = false → isD l8 = false → isD l9 = false → isD l11 = false → isD l12 = false → isD l13 = false → isD l14 = false → isD l15 = false → isD l17 = false → ∀ K : Option Value → Hp → Prop, (∀ σ' : Hp, σ'.2 = nn → K (some (.int 1)) σ') → X 115 51 [.ref b, .ref x, .long sv, .double 0, .int (nI how), .int (nI sh), .int (nI t), l7, l8, l9, l10, l11, l12, l13, l14, l15, l16, l17] [] σ K := by
  intro n
  induction n with
  | zero =>
    intro t ht A L0 sz how sh σ sv l7 l8 l9 l10 l11 l12 l13 l14 l15 l16 l17 h hb hh hl hs hsv hk _ _ _ _ _ _ _ _ _ K hK
    have ht' : t = 44 := by omega
    subst ht'
    obtain ⟨σ', e1, e2⟩ := law_end (b := b) (how := how) (sh := sh) (l7 := l7) (l8 := l8) (l9 := l9) (l10 := l10) (l11 := l11) (l12 := l12) (l13 := l13) (l14 := l14) (l15 := l15) (l16 := l16) (l17 := l17) h hl.1 hsv
    rw [e2]
    exact hK σ' e1
  | succ n ih =>
    intro t ht A L0 sz how sh σ sv l7 l8 l9 l10 l11 l12 l13 l14 l15 l16 l17 h hb hh hl hs hsv hk h7 h8 h9 h11 h12 h13 h14 h15 h17 K hK
    rw [tA h hb.1 hk hL (by omega) h7 h8 h9 h11 h12 h13]
    generalize celV L xs (2 * t) = v
    generalize celV L xs (2 * t + 1) = w
    rcases act_ok (v := v) (w := w) hb.1 hl.1 with ⟨hr, hn⟩ | ⟨hr, B, hB⟩
    · rcases act_X (v := v) (w := w) h hb.1 with ⟨-, q2⟩ | ⟨B2, σ2, q1, -, -⟩
      · rw [tF h hb.1 hr q2 h14 h15 h17]
        obtain ⟨σ', L2, sh2, sv2, o1, k1, b1, s1, d1, p1⟩ := tE (v := v) (t := t) (b := b) (l8 := .int w) (l9 := .long (dig A)) (l10 := .double 0) (l11 := .int (nI (rS (sR (aZ A))))) (l12 := .int (nI sz)) (l13 := .int (wldV A v w)) (l14 := .int (actF A L0 v w).1) (l16 := .double 0) (l17 := .int 9) h hb.1 hb hh hl hs hk hsv
        rw [p1]
        exact ih (t + 1) (by omega) A L2 sz how sh2 σ' sv2 _ _ _ _ _ _ _ _ _ _ _ o1 hb hh b1 s1 d1 k1 (isD_i _) (isD_i _) (isD_l _) (isD_i _) (isD_i _) (isD_i _) (isD_i _) (isD_l _) (isD_i _) K hK
      · rw [hn] at q1
        cases q1
    · have e : actF A L0 v w = ((actF A L0 v w).1, some B) := Prod.ext rfl hB
      obtain ⟨c1, c2⟩ := act_HB hb hl e
      have c3 : howF A B v how sh ≤ 2 := by
        rcases c2 with q | q
        · exact q
        · exact absurd ⟨hh, hs⟩ q
      obtain ⟨σ1, m17, d17, o1, k1, p1⟩ := tS (b := b) (t := t) (how := how) (sh := sh) (l16 := l16) h hb.1 c1.1 hk e hr hsv h14 h15 h17
      rw [p1, tH o1 c1.1 hb.1 hh hr d17]
      obtain ⟨σ', L2, sh2, sv2, o2, k2, b2, s2, d2, p2⟩ := tE (v := v) (t := t) (b := b) (l8 := .int w) (l9 := .long (dig A)) (l10 := .double 0) (l11 := .int (nI (rS (sR (aZ A))))) (l12 := .int (nI sz)) (l13 := .int (wldV A v w)) (l14 := .int (actF A L0 v w).1) (l16 := .double 0) (l17 := .int (v &&& 15)) o1 c1.1 c1 c3 hl hs k1 hsv
      rw [p2]
      exact ih (t + 1) (by omega) B L2 _ _ sh2 σ' sv2 _ _ _ _ _ _ _ _ _ _ _ o2 c1 c3 b2 s2 d2 k2 (isD_i _) (isD_i _) (isD_l _) (isD_i _) (isD_i _) (isD_i _) (isD_i _) (isD_l _) (isD_i _) K hK
theorem law_open {x b : Nat} {nn : Nat × Nat} {σ : Hp} (h : Sys x zA idN 0 (fun _ => zA) (fun _ => zA) (fun _ => false) (zF, 0) zO (zR 24) nn σ) : ∃ σ' : Hp, Ob x zA zA 0 nn σ' ∧ (∀ c L xs, KS c L xs σ → KS c L xs σ') ∧ ∀ K : Option Value → Hp → Prop, X 115 8 [.ref b, .ref x, .null, .null, .null, .null, .null, .null, .null, .null, .null, .null, .null, .null, .null, .null, .null, .null] [] σ K = X 115 51 [.ref b, .ref x, .long (dig zA), .double 0, .int (nI 0), .int (nI 0), .int (nI 0), .null, .null, .null, .null, .null, .null, .null, .null, .null, .null, .null] [] σ' K := by
  have f0 := (sysF h).1
  have p1 := fun K => d99a (K := K) h rfl
  have p2 := fun K => d101c (K := K) h (k := 1) (by omega) rfl
  rw [show nI 1 = 1 from rfl] at p2
  obtain ⟨σ', g1, g2⟩ := d100b h (k := 0) (by omega)
  rw [nI_0] at g2
  have o1 : Ob x zA zA 0 nn σ' := ⟨_, _, _, _, _, _, _, g1, updN_s, updN_s, (updN_n (by omega)).trans rfl⟩
  have f1 := Ob_o o1
  have g3 := fun K => ob_dig (K := K) o1 zA_H.1
  have e0 : sN (aZ zA) = 0 := rfl
  refine ⟨σ', o1, fun c L xs q => ks_X q g2, fun K => ?_⟩
  simp only [x115_8, x115_9, x115_12, x115_14, x115_17, x115_18, x115_19, x115_22, x115_24, x115_27, x115_28, x115_29, x115_32, x115_35, x115_36, x115_37, x115_38, x115_41, x115_42, x115_43, x115_45, x115_46, x115_48, x115_49, pushO, List.length_cons, List.length_nil, Nat.reduceAdd, Nat.reduceLeDiff, Nat.le_refl, Nat.zero_le, isD_i, isD_r, isD_l, isD_n, if_true, if_false, ite_true, ite_false, reduceIte, f0, p1, p2, g2, e0, f1, g3, nI_0]
theorem law_goes {N0 b L : Nat} {xs : Nat → Int32} (hL : L ≤ 260) (hb : b < N0) : lawX N0 b L xs := by
  unfold lawX
  obtain ⟨σ2, h, hc, p⟩ := open115 (σ := lawH N0 b L xs) (b := b) hb
  have ent : entL [.ref b] 18 = [.ref b, .null, .null, .null, .null, .null, .null, .null, .null, .null, .null, .null, .null, .null, .null, .null, .null, .null] := rfl
  rw [ent, p]
  have hx : (lawH N0 b L xs).2.1 = N0 := rfl
  rw [hx] at h ⊢
  have e2 := ysNn h
  have hk : KS b L xs σ2 := by
    refine ⟨by rw [e2]; show b < N0 + 166; omega, hc.trans ?_⟩
    show (if b = b then _ else _) = _
    rw [if_pos rfl]
  obtain ⟨σ3, o3, k3, p3⟩ := law_open (b := b) h
  rw [p3]
  refine law_turns hL 44 0 rfl zA zA 0 0 0 σ3 (dig zA) _ _ _ _ _ _ _ _ _ _ _ o3 zA_H (by omega) zA_H (by omega) rfl (k3 _ _ _ hk) isD_n isD_n isD_n isD_n isD_n isD_n isD_n isD_n isD_n _ (fun σ' e3 => ⟨rfl, ?_, ?_⟩)
  · rw [e3]
    show N0 + 166 ≤ N0 + 600000
    omega
  · rw [e3]
    show 0 + 3875 ≤ 7302250
    omega
