/-! the reference's queries, in the class's own functions -/
theorem sbv {x y : Int32} (hx : 0 ≤ x.toInt) (hy : 0 ≤ y.toInt) : (x - y).toInt = x.toInt - y.toInt := by
  have h1 := Int32.toInt_lt x
  have h2 := Int32.toInt_lt y
  rw [Int32.toInt_sub]
  exact Int.bmod_eq_of_le (by omega) (by omega)
theorem sb_pos {x y : Int32} (hx : 0 ≤ x.toInt) (hy : 0 ≤ y.toInt) : (0 < x - y) = (y < x) := by
  rw [Int32.lt_iff_toInt_lt, Int32.lt_iff_toInt_lt, sbv hx hy, Int32.toInt_zero]
  exact propext ⟨fun _ => by omega, fun _ => by omega⟩
theorem sb_zero {x y : Int32} (hx : 0 ≤ x.toInt) (hy : 0 ≤ y.toInt) : (x - y = 0) = (x = y) := by
  refine propext ⟨fun h => ?_, fun h => by rw [h, Int32.sub_self]⟩
  have q := congrArg Int32.toInt h
  rw [sbv hx hy, Int32.toInt_zero] at q
  exact Int32.toInt_inj.mp (by omega)
theorem wk_1 {c e : Nat → Int32} {i a : Nat} (hi : 0 ≤ (c i).toInt) (ha : 0 ≤ (c a).toInt) : (if 0 < c a - c i then i else if c a - c i = 0 then (if e a < e i then i else a) else a) = if gbN c e i a = true then i else a := by
  unfold gbN
  simp only [sb_pos ha hi, sb_zero ha hi]
  by_cases h1 : c i = c a
  · rw [if_pos h1, h1, if_neg Int32.lt_irrefl, if_pos rfl]
    by_cases h2 : e a < e i
    · rw [if_pos h2, decide_eq_true h2, if_pos rfl]
    · rw [if_neg h2, decide_eq_false h2, if_neg Bool.false_ne_true]
  · rw [if_neg h1]
    by_cases h2 : c i < c a
    · rw [if_pos h2, decide_eq_true h2, if_pos rfl]
    · rw [if_neg h2, decide_eq_false h2, if_neg Bool.false_ne_true, if_neg (fun q => h1 q.symm)]
theorem wkF_fold {c e : Nat → Int32} {n : Nat} (hc : ∀ k, k < n → 0 ≤ (c k).toInt) : ∀ (d i a : Nat), n - i = d → a < n → wkF c e d i a = fold (fun b k => if gbN c e k b = true then k else b) d i a := by
  intro d
  induction d with
  | zero => intro i a _ _; rfl
  | succ d ih =>
    intro i a hd ha
    unfold wkF fold
    rw [wk_1 (hc i (by omega)) (hc a ha)]
    refine ih _ _ (by omega) ?_
    split
    · omega
    · exact ha
theorem wk_ftg {c e : Nat → Int32} {n : Nat} (hc : ∀ k, k < n → 0 ≤ (c k).toInt) : wk c e n = ftgN c e n := by
  unfold wk ftgN
  by_cases h0 : n = 0
  · subst h0
    rfl
  · exact wkF_fold hc _ _ _ rfl (by omega)
theorem wk_lt {c e : Nat → Int32} {n : Nat} (h0 : 0 < n) : wk c e n < n := wkF_lt _ _ _ rfl h0
theorem ftg_min {c e : Nat → Int32} : ∀ (d i b : Nat), c (fold (fun b k => if gbN c e k b = true then k else b) d i b) = fold (fun a k => if c k < a then c k else a) d i (c b) := by
  intro d
  induction d with
  | zero => intro i b; rfl
  | succ d ih =>
    intro i b
    unfold fold
    rw [ih]
    congr 1
    unfold gbN
    by_cases h1 : c i = c b
    · rw [if_pos h1, h1, if_neg Int32.lt_irrefl]
      split
      · exact h1
      · rfl
    · rw [if_neg h1]
      by_cases h2 : c i < c b
      · rw [if_pos h2, decide_eq_true h2, if_pos rfl]
      · rw [if_neg h2, decide_eq_false h2, if_neg Bool.false_ne_true]
/-- what holds of the reference's stream t: n seats taken of S, N true counts -/
def rvOK (s : Nat → Int32) (t n N S : Nat) : Prop := gt s t 1 = nI n ∧ n ≤ S ∧ 1 ≤ S ∧ S ≤ 12 ∧ s 0 = nI S ∧ gt s t 39 = nI N ∧ N ≤ 60 ∧ (∀ k, k < n → 0 ≤ (vC s t k).toInt)
theorem at_0 {f : Nat → Int32} {t : Nat} (h : 0 < t) (hb : t < 2 ^ 31) : at_ f t 0 = f 0 := by
  have := at_nI (f := f) h hb
  rwa [nI_0] at this
theorem e123 {t n N S : Nat} {K : Option Value → Hp → Prop} {m : Nat} {μ : ModM} {σ : Hp} (h : modAt m μ σ) (ht : t < 2) (o : rvOK (ks μ) t n N S) : X 123 0 [.ref m, .int (nI t)] [] σ K = K (some (.int (mwsR (vC (ks μ) t) S n))) σ := by
  obtain ⟨o1, o2, o3, o4, o5, o6, o7, o8⟩ := o
  unfold mwsR
  by_cases h1 : n = S
  · subst h1
    have w1 := wk_lt (c := vC (ks μ) t) (e := vE (ks μ) t) (n := n) (by omega)
    have p1 := fun K => e116 (K := K) h ht (show wk (vC (ks μ) t) (vE (ks μ) t) n < 52 by omega)
    have p2 : gt (ks μ) t (4 + 3 * wk (vC (ks μ) t) (vE (ks μ) t) n) = fold (fun a k => if vC (ks μ) t k < a then vC (ks μ) t k else a) (n - 1) 1 (at_ (vC (ks μ) t) n 0) := by
      show vC (ks μ) t _ = _
      rw [wk_ftg o8, at_0 (by omega) (by omega)]
      exact ftg_min _ _ _
    have d1 : ∀ K, X 122 0 [.ref m, .int (nI t)] [] σ K = K (some (.int 1)) σ := fun K => by
      rw [e122 h ht o1 (by omega) o5 o4, decide_eq_true rfl]
      rfl
    simp only [x123_0, x123_1, x123_2, x123_5, x123_8, x123_9, x123_10, x123_11, x123_12, x123_15, x123_18, x123_21, x123_22, pushO, List.length_cons, List.length_nil, Nat.reduceAdd, Nat.reduceLeDiff, Nat.le_refl, Nat.zero_le, isD_i, isD_r, isD_l, isD_n, if_true, if_false, ite_true, ite_false, reduceIte, mdF h, d1, i1_ne, e120 h ht o1 (by omega), p1, p2, Nat.lt_irrefl]
  · have d1 : decide (n = S) = false := decide_eq_false h1
    rw [if_pos (by omega)]
    simp only [x123_0, x123_1, x123_2, x123_5, x123_8, x123_9, x123_10, x123_11, x123_12, x123_15, x123_18, x123_21, x123_22, pushO, List.length_cons, List.length_nil, Nat.reduceAdd, Nat.reduceLeDiff, Nat.le_refl, Nat.zero_le, isD_i, isD_r, isD_l, isD_n, if_true, if_false, ite_true, ite_false, reduceIte, mdF h, e122 h ht o1 (by omega) o5 o4, d1, bI_f]
