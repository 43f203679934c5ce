/-! new objects -/
def sg (c : AC) : Nat → Option AC := fun j => if j = 0 then some c else none
def cat (g : Nat → Option AC) (n : Nat) (h : Nat → Option AC) : Nat → Option AC := fun j => if j < n then g j else h (j - n)
theorem cat_lt {g h : Nat → Option AC} {n j : Nat} (hj : j < n) : cat g n h j = g j := if_pos hj
theorem cat_ge {g h : Nat → Option AC} {n j : Nat} (hj : n ≤ j) : cat g n h j = h (j - n) := if_neg (by omega)
def alo (σ : Hp) (n k : Nat) (f : Nat → Option AC) : Hp := ((ov σ σ.2.1 n f).1, (σ.2.1 + n, σ.2.2 + k))
theorem alo_1 {σ : Hp} {n k : Nat} {f : Nat → Option AC} : (alo σ n k f).2.1 = σ.2.1 + n := rfl
theorem alo_in {σ : Hp} {n k j : Nat} {f : Nat → Option AC} (h : j < n) : (alo σ n k f).1 (σ.2.1 + j) = f j := ov_in h
theorem alo_off {σ : Hp} {n k q : Nat} {f : Nat → Option AC} (h : q < σ.2.1 ∨ σ.2.1 + n ≤ q) : (alo σ n k f).1 q = σ.1 q := ov_off h
theorem alo_congr {σ : Hp} {n k : Nat} {f g : Nat → Option AC} (h : ∀ j, j < n → f j = g j) : alo σ n k f = alo σ n k g := by
  unfold alo
  rw [ov_congr h]
theorem alo_alo {σ : Hp} {n k m l : Nat} {f g : Nat → Option AC} : alo (alo σ n k f) m l g = alo σ (n + m) (k + l) (cat f n g) := by
  refine Hp_ext (fun q => ?_) (by show (σ.2.1 + n + m, σ.2.2 + k + l) = _; rw [Nat.add_assoc, Nat.add_assoc]; rfl)
  by_cases h1 : q < σ.2.1 ∨ σ.2.1 + (n + m) ≤ q
  · rw [alo_off (by rw [alo_1]; omega), alo_off (by omega), alo_off h1]
  · obtain ⟨j, rfl⟩ : ∃ j, q = σ.2.1 + j := ⟨q - σ.2.1, by omega⟩
    rw [alo_in (n := n + m) (by omega)]
    by_cases h2 : j < n
    · rw [alo_off (by rw [alo_1]; omega), alo_in h2, cat_lt h2]
    · rw [cat_ge (by omega)]
      have := alo_in (σ := alo σ n k f) (n := m) (k := l) (f := g) (j := j - n) (by omega)
      rwa [alo_1, show σ.2.1 + n + (j - n) = σ.2.1 + j by omega] at this
theorem hnew_alo1 {σ : Hp} {c : AC} {N : Nat} : hnew σ c N = alo σ 1 N (sg c) := by
  refine Hp_ext (fun q => ?_) rfl
  by_cases h1 : q = σ.2.1
  · subst h1
    exact (if_pos rfl).trans ((alo_in (σ := σ) (n := 1) (k := N) (j := 0) (f := sg c) Nat.one_pos).trans rfl).symm
  · rw [alo_off (by omega)]
    exact if_neg h1
def obA (σ : Hp) (ci : Nat) (fs : List Value) (n k : Nat) (g : Nat → Option AC) : Hp := alo σ (1 + n) k (cat (sg (.inl (ci, fs))) 1 g)
def nul : Nat → Option AC := fun _ => none
theorem alo_ext {σ : Hp} {n k n2 k2 : Nat} {f g : Nat → Option AC} (hn : n = n2) (hk : k = k2) (h : ∀ j, j < n → f j = g j) : alo σ n k f = alo σ n2 k2 g := by
  subst hn
  subst hk
  exact alo_congr h
theorem obA_ext {σ : Hp} {ci n k : Nat} {fs fs2 : List Value} {g g2 : Nat → Option AC} (hf : fs = fs2) (h : ∀ j, j < n → g j = g2 j) : obA σ ci fs n k g = obA σ ci fs2 n k g2 := by
  subst hf
  refine alo_congr fun j hj => ?_
  by_cases h1 : j < 1
  · rw [cat_lt h1, cat_lt h1]
  · rw [cat_ge (by omega), cat_ge (by omega), h _ (by omega)]
theorem cat_cat {a b c : Nat → Option AC} {n m j : Nat} : cat (cat a n b) (n + m) c j = cat a n (cat b m c) j := by
  by_cases h1 : j < n
  · rw [cat_lt (by omega), cat_lt h1, cat_lt h1]
  · by_cases h2 : j < n + m
    · rw [cat_lt h2, cat_ge (by omega), cat_ge (by omega), cat_lt (by omega)]
    · rw [cat_ge (by omega), cat_ge (by omega), cat_ge (by omega)]
      congr 1
      omega
theorem alo_obA {σ : Hp} {ci n k m l : Nat} {fs : List Value} {g h : Nat → Option AC} : alo (obA σ ci fs n k g) m l h = obA σ ci fs (n + m) (k + l) (cat g n h) := by
  unfold obA
  rw [alo_alo]
  exact alo_ext (Nat.add_assoc _ _ _) rfl fun j _ => cat_cat
theorem hnew_o {σ : Hp} {ci N : Nat} {fs : List Value} : hnew σ (.inl (ci, fs)) N = obA σ ci fs 0 N nul := by
  rw [hnew_alo1]
  refine alo_congr fun j hj => ?_
  rw [cat_lt hj]
theorem hnew_obA {σ : Hp} {ci n k N : Nat} {fs : List Value} {g : Nat → Option AC} {c : (Nat × Nat × (Nat → Int32)) ⊕ ((Nat × Nat × (Nat → Option Nat)) ⊕ (Nat × (Nat → Int32)))} : hnew (obA σ ci fs n k g) (.inr c) N = obA σ ci fs (n + 1) (k + N) (cat g n (sg (.inr c))) := by
  rw [hnew_alo1, alo_obA]
theorem obA_1 {σ : Hp} {ci n k : Nat} {fs : List Value} {g : Nat → Option AC} : (obA σ ci fs n k g).2.1 = σ.2.1 + (n + 1) := by
  show σ.2.1 + (1 + n) = _
  omega
theorem obA_c {σ : Hp} {ci n k : Nat} {fs : List Value} {g : Nat → Option AC} : (obA σ ci fs n k g).1 σ.2.1 = some (.inl (ci, fs)) := (alo_in (j := 0) (by omega)).trans rfl
theorem obA_j {σ : Hp} {ci n k j : Nat} {fs : List Value} {g : Nat → Option AC} (h : j < n) : (obA σ ci fs n k g).1 (σ.2.1 + (j + 1)) = g j := (alo_in (by omega)).trans ((cat_ge (by omega)).trans rfl)
theorem obA_off {σ : Hp} {ci n k q : Nat} {fs : List Value} {g : Nat → Option AC} (h : q < σ.2.1 ∨ σ.2.1 + (n + 1) ≤ q) : (obA σ ci fs n k g).1 q = σ.1 q := alo_off (by omega)
theorem pF_obA {σ : Hp} {ci n k i : Nat} {fs : List Value} {g : Nat → Option AC} {v : Value} : pF (obA σ ci fs n k g) σ.2.1 i v = obA σ ci (fs.set i v) n k g := by
  rw [pF_ob obA_c]
  refine Hp_ext (fun q => ?_) rfl
  by_cases h1 : q = σ.2.1
  · subst h1
    rw [obA_c]
    exact if_pos rfl
  · refine (if_neg h1).trans ?_
    by_cases h2 : q < σ.2.1 ∨ σ.2.1 + (n + 1) ≤ q
    · rw [obA_off h2, obA_off h2]
    · obtain ⟨j, rfl⟩ : ∃ j, q = σ.2.1 + (j + 1) := ⟨q - σ.2.1 - 1, by omega⟩
      rw [obA_j (by omega), obA_j (by omega)]
theorem obA_alo {σ : Hp} {ci n m k : Nat} {fs : List Value} {g f : Nat → Option AC} (hm : 1 + n = m) (h0 : some (.inl (ci, fs)) = f 0) (h : ∀ j, j < n → g j = f (j + 1)) : obA σ ci fs n k g = alo σ m k f := by
  refine alo_ext hm rfl fun j hj => ?_
  by_cases h1 : j < 1
  · have : j = 0 := by omega
    subst this
    exact h0
  · rw [cat_ge (by omega), h _ (by omega)]
    congr 1
    omega
theorem okF_A0 {σ : Hp} {ci n k : Nat} {g : Nat → Option AC} {v0 : Value} {fs : List Value} : okF (obA σ ci (v0 :: fs) n k g) σ.2.1 ci 0 = true := by rw [okF_ob obA_c, Nat.beq_refl, Bool.true_and]; exact decide_eq_true (by simp only [List.length_cons]; omega)
theorem gF_A0 {σ : Hp} {ci n k : Nat} {g : Nat → Option AC} {v0 : Value} {fs : List Value} : gF (obA σ ci (v0 :: fs) n k g) σ.2.1 0 = v0 := (gF_ob obA_c).trans rfl
theorem pF_A0 {σ : Hp} {ci n k : Nat} {g : Nat → Option AC} {v0 w : Value} {fs : List Value} : pF (obA σ ci (v0 :: fs) n k g) σ.2.1 0 w = obA σ ci (w :: fs) n k g := pF_obA
theorem okF_A1 {σ : Hp} {ci n k : Nat} {g : Nat → Option AC} {v0 v1 : Value} {fs : List Value} : okF (obA σ ci (v0 :: v1 :: fs) n k g) σ.2.1 ci 1 = true := by rw [okF_ob obA_c, Nat.beq_refl, Bool.true_and]; exact decide_eq_true (by simp only [List.length_cons]; omega)
theorem gF_A1 {σ : Hp} {ci n k : Nat} {g : Nat → Option AC} {v0 v1 : Value} {fs : List Value} : gF (obA σ ci (v0 :: v1 :: fs) n k g) σ.2.1 1 = v1 := (gF_ob obA_c).trans rfl
theorem pF_A1 {σ : Hp} {ci n k : Nat} {g : Nat → Option AC} {v0 v1 w : Value} {fs : List Value} : pF (obA σ ci (v0 :: v1 :: fs) n k g) σ.2.1 1 w = obA σ ci (v0 :: w :: fs) n k g := pF_obA
theorem okF_A2 {σ : Hp} {ci n k : Nat} {g : Nat → Option AC} {v0 v1 v2 : Value} {fs : List Value} : okF (obA σ ci (v0 :: v1 :: v2 :: fs) n k g) σ.2.1 ci 2 = true := by rw [okF_ob obA_c, Nat.beq_refl, Bool.true_and]; exact decide_eq_true (by simp only [List.length_cons]; omega)
theorem gF_A2 {σ : Hp} {ci n k : Nat} {g : Nat → Option AC} {v0 v1 v2 : Value} {fs : List Value} : gF (obA σ ci (v0 :: v1 :: v2 :: fs) n k g) σ.2.1 2 = v2 := (gF_ob obA_c).trans rfl
theorem pF_A2 {σ : Hp} {ci n k : Nat} {g : Nat → Option AC} {v0 v1 v2 w : Value} {fs : List Value} : pF (obA σ ci (v0 :: v1 :: v2 :: fs) n k g) σ.2.1 2 w = obA σ ci (v0 :: v1 :: w :: fs) n k g := pF_obA
theorem okF_A3 {σ : Hp} {ci n k : Nat} {g : Nat → Option AC} {v0 v1 v2 v3 : Value} {fs : List Value} : okF (obA σ ci (v0 :: v1 :: v2 :: v3 :: fs) n k g) σ.2.1 ci 3 = true := by rw [okF_ob obA_c, Nat.beq_refl, Bool.true_and]; exact decide_eq_true (by simp only [List.length_cons]; omega)
theorem gF_A3 {σ : Hp} {ci n k : Nat} {g : Nat → Option AC} {v0 v1 v2 v3 : Value} {fs : List Value} : gF (obA σ ci (v0 :: v1 :: v2 :: v3 :: fs) n k g) σ.2.1 3 = v3 := (gF_ob obA_c).trans rfl
theorem pF_A3 {σ : Hp} {ci n k : Nat} {g : Nat → Option AC} {v0 v1 v2 v3 w : Value} {fs : List Value} : pF (obA σ ci (v0 :: v1 :: v2 :: v3 :: fs) n k g) σ.2.1 3 w = obA σ ci (v0 :: v1 :: v2 :: w :: fs) n k g := pF_obA
theorem okF_A4 {σ : Hp} {ci n k : Nat} {g : Nat → Option AC} {v0 v1 v2 v3 v4 : Value} {fs : List Value} : okF (obA σ ci (v0 :: v1 :: v2 :: v3 :: v4 :: fs) n k g) σ.2.1 ci 4 = true := by rw [okF_ob obA_c, Nat.beq_refl, Bool.true_and]; exact decide_eq_true (by simp only [List.length_cons]; omega)
theorem gF_A4 {σ : Hp} {ci n k : Nat} {g : Nat → Option AC} {v0 v1 v2 v3 v4 : Value} {fs : List Value} : gF (obA σ ci (v0 :: v1 :: v2 :: v3 :: v4 :: fs) n k g) σ.2.1 4 = v4 := (gF_ob obA_c).trans rfl
theorem pF_A4 {σ : Hp} {ci n k : Nat} {g : Nat → Option AC} {v0 v1 v2 v3 v4 w : Value} {fs : List Value} : pF (obA σ ci (v0 :: v1 :: v2 :: v3 :: v4 :: fs) n k g) σ.2.1 4 w = obA σ ci (v0 :: v1 :: v2 :: v3 :: w :: fs) n k g := pF_obA
theorem okF_A5 {σ : Hp} {ci n k : Nat} {g : Nat → Option AC} {v0 v1 v2 v3 v4 v5 : Value} {fs : List Value} : okF (obA σ ci (v0 :: v1 :: v2 :: v3 :: v4 :: v5 :: fs) n k g) σ.2.1 ci 5 = true := by rw [okF_ob obA_c, Nat.beq_refl, Bool.true_and]; exact decide_eq_true (by simp only [List.length_cons]; omega)
theorem gF_A5 {σ : Hp} {ci n k : Nat} {g : Nat → Option AC} {v0 v1 v2 v3 v4 v5 : Value} {fs : List Value} : gF (obA σ ci (v0 :: v1 :: v2 :: v3 :: v4 :: v5 :: fs) n k g) σ.2.1 5 = v5 := (gF_ob obA_c).trans rfl
theorem pF_A5 {σ : Hp} {ci n k : Nat} {g : Nat → Option AC} {v0 v1 v2 v3 v4 v5 w : Value} {fs : List Value} : pF (obA σ ci (v0 :: v1 :: v2 :: v3 :: v4 :: v5 :: fs) n k g) σ.2.1 5 w = obA σ ci (v0 :: v1 :: v2 :: v3 :: v4 :: w :: fs) n k g := pF_obA
theorem okF_A6 {σ : Hp} {ci n k : Nat} {g : Nat → Option AC} {v0 v1 v2 v3 v4 v5 v6 : Value} {fs : List Value} : okF (obA σ ci (v0 :: v1 :: v2 :: v3 :: v4 :: v5 :: v6 :: fs) n k g) σ.2.1 ci 6 = true := by rw [okF_ob obA_c, Nat.beq_refl, Bool.true_and]; exact decide_eq_true (by simp only [List.length_cons]; omega)
theorem gF_A6 {σ : Hp} {ci n k : Nat} {g : Nat → Option AC} {v0 v1 v2 v3 v4 v5 v6 : Value} {fs : List Value} : gF (obA σ ci (v0 :: v1 :: v2 :: v3 :: v4 :: v5 :: v6 :: fs) n k g) σ.2.1 6 = v6 := (gF_ob obA_c).trans rfl
theorem pF_A6 {σ : Hp} {ci n k : Nat} {g : Nat → Option AC} {v0 v1 v2 v3 v4 v5 v6 w : Value} {fs : List Value} : pF (obA σ ci (v0 :: v1 :: v2 :: v3 :: v4 :: v5 :: v6 :: fs) n k g) σ.2.1 6 w = obA σ ci (v0 :: v1 :: v2 :: v3 :: v4 :: v5 :: w :: fs) n k g := pF_obA
theorem okF_A7 {σ : Hp} {ci n k : Nat} {g : Nat → Option AC} {v0 v1 v2 v3 v4 v5 v6 v7 : Value} {fs : List Value} : okF (obA σ ci (v0 :: v1 :: v2 :: v3 :: v4 :: v5 :: v6 :: v7 :: fs) n k g) σ.2.1 ci 7 = true := by rw [okF_ob obA_c, Nat.beq_refl, Bool.true_and]; exact decide_eq_true (by simp only [List.length_cons]; omega)
theorem gF_A7 {σ : Hp} {ci n k : Nat} {g : Nat → Option AC} {v0 v1 v2 v3 v4 v5 v6 v7 : Value} {fs : List Value} : gF (obA σ ci (v0 :: v1 :: v2 :: v3 :: v4 :: v5 :: v6 :: v7 :: fs) n k g) σ.2.1 7 = v7 := (gF_ob obA_c).trans rfl
theorem pF_A7 {σ : Hp} {ci n k : Nat} {g : Nat → Option AC} {v0 v1 v2 v3 v4 v5 v6 v7 w : Value} {fs : List Value} : pF (obA σ ci (v0 :: v1 :: v2 :: v3 :: v4 :: v5 :: v6 :: v7 :: fs) n k g) σ.2.1 7 w = obA σ ci (v0 :: v1 :: v2 :: v3 :: v4 :: v5 :: v6 :: w :: fs) n k g := pF_obA
theorem okF_A8 {σ : Hp} {ci n k : Nat} {g : Nat → Option AC} {v0 v1 v2 v3 v4 v5 v6 v7 v8 : Value} {fs : List Value} : okF (obA σ ci (v0 :: v1 :: v2 :: v3 :: v4 :: v5 :: v6 :: v7 :: v8 :: fs) n k g) σ.2.1 ci 8 = true := by rw [okF_ob obA_c, Nat.beq_refl, Bool.true_and]; exact decide_eq_true (by simp only [List.length_cons]; omega)
theorem gF_A8 {σ : Hp} {ci n k : Nat} {g : Nat → Option AC} {v0 v1 v2 v3 v4 v5 v6 v7 v8 : Value} {fs : List Value} : gF (obA σ ci (v0 :: v1 :: v2 :: v3 :: v4 :: v5 :: v6 :: v7 :: v8 :: fs) n k g) σ.2.1 8 = v8 := (gF_ob obA_c).trans rfl
theorem pF_A8 {σ : Hp} {ci n k : Nat} {g : Nat → Option AC} {v0 v1 v2 v3 v4 v5 v6 v7 v8 w : Value} {fs : List Value} : pF (obA σ ci (v0 :: v1 :: v2 :: v3 :: v4 :: v5 :: v6 :: v7 :: v8 :: fs) n k g) σ.2.1 8 w = obA σ ci (v0 :: v1 :: v2 :: v3 :: v4 :: v5 :: v6 :: v7 :: w :: fs) n k g := pF_obA
theorem okF_A9 {σ : Hp} {ci n k : Nat} {g : Nat → Option AC} {v0 v1 v2 v3 v4 v5 v6 v7 v8 v9 : Value} {fs : List Value} : okF (obA σ ci (v0 :: v1 :: v2 :: v3 :: v4 :: v5 :: v6 :: v7 :: v8 :: v9 :: fs) n k g) σ.2.1 ci 9 = true := by rw [okF_ob obA_c, Nat.beq_refl, Bool.true_and]; exact decide_eq_true (by simp only [List.length_cons]; omega)
theorem gF_A9 {σ : Hp} {ci n k : Nat} {g : Nat → Option AC} {v0 v1 v2 v3 v4 v5 v6 v7 v8 v9 : Value} {fs : List Value} : gF (obA σ ci (v0 :: v1 :: v2 :: v3 :: v4 :: v5 :: v6 :: v7 :: v8 :: v9 :: fs) n k g) σ.2.1 9 = v9 := (gF_ob obA_c).trans rfl
theorem pF_A9 {σ : Hp} {ci n k : Nat} {g : Nat → Option AC} {v0 v1 v2 v3 v4 v5 v6 v7 v8 v9 w : Value} {fs : List Value} : pF (obA σ ci (v0 :: v1 :: v2 :: v3 :: v4 :: v5 :: v6 :: v7 :: v8 :: v9 :: fs) n k g) σ.2.1 9 w = obA σ ci (v0 :: v1 :: v2 :: v3 :: v4 :: v5 :: v6 :: v7 :: v8 :: w :: fs) n k g := pF_obA
theorem okF_A10 {σ : Hp} {ci n k : Nat} {g : Nat → Option AC} {v0 v1 v2 v3 v4 v5 v6 v7 v8 v9 v10 : Value} {fs : List Value} : okF (obA σ ci (v0 :: v1 :: v2 :: v3 :: v4 :: v5 :: v6 :: v7 :: v8 :: v9 :: v10 :: fs) n k g) σ.2.1 ci 10 = true := by rw [okF_ob obA_c, Nat.beq_refl, Bool.true_and]; exact decide_eq_true (by simp only [List.length_cons]; omega)
theorem gF_A10 {σ : Hp} {ci n k : Nat} {g : Nat → Option AC} {v0 v1 v2 v3 v4 v5 v6 v7 v8 v9 v10 : Value} {fs : List Value} : gF (obA σ ci (v0 :: v1 :: v2 :: v3 :: v4 :: v5 :: v6 :: v7 :: v8 :: v9 :: v10 :: fs) n k g) σ.2.1 10 = v10 := (gF_ob obA_c).trans rfl
theorem pF_A10 {σ : Hp} {ci n k : Nat} {g : Nat → Option AC} {v0 v1 v2 v3 v4 v5 v6 v7 v8 v9 v10 w : Value} {fs : List Value} : pF (obA σ ci (v0 :: v1 :: v2 :: v3 :: v4 :: v5 :: v6 :: v7 :: v8 :: v9 :: v10 :: fs) n k g) σ.2.1 10 w = obA σ ci (v0 :: v1 :: v2 :: v3 :: v4 :: v5 :: v6 :: v7 :: v8 :: v9 :: w :: fs) n k g := pF_obA
theorem okF_A11 {σ : Hp} {ci n k : Nat} {g : Nat → Option AC} {v0 v1 v2 v3 v4 v5 v6 v7 v8 v9 v10 v11 : Value} {fs : List Value} : okF (obA σ ci (v0 :: v1 :: v2 :: v3 :: v4 :: v5 :: v6 :: v7 :: v8 :: v9 :: v10 :: v11 :: fs) n k g) σ.2.1 ci 11 = true := by rw [okF_ob obA_c, Nat.beq_refl, Bool.true_and]; exact decide_eq_true (by simp only [List.length_cons]; omega)
theorem gF_A11 {σ : Hp} {ci n k : Nat} {g : Nat → Option AC} {v0 v1 v2 v3 v4 v5 v6 v7 v8 v9 v10 v11 : Value} {fs : List Value} : gF (obA σ ci (v0 :: v1 :: v2 :: v3 :: v4 :: v5 :: v6 :: v7 :: v8 :: v9 :: v10 :: v11 :: fs) n k g) σ.2.1 11 = v11 := (gF_ob obA_c).trans rfl
theorem pF_A11 {σ : Hp} {ci n k : Nat} {g : Nat → Option AC} {v0 v1 v2 v3 v4 v5 v6 v7 v8 v9 v10 v11 w : Value} {fs : List Value} : pF (obA σ ci (v0 :: v1 :: v2 :: v3 :: v4 :: v5 :: v6 :: v7 :: v8 :: v9 :: v10 :: v11 :: fs) n k g) σ.2.1 11 w = obA σ ci (v0 :: v1 :: v2 :: v3 :: v4 :: v5 :: v6 :: v7 :: v8 :: v9 :: v10 :: w :: fs) n k g := pF_obA
theorem okF_A12 {σ : Hp} {ci n k : Nat} {g : Nat → Option AC} {v0 v1 v2 v3 v4 v5 v6 v7 v8 v9 v10 v11 v12 : Value} {fs : List Value} : okF (obA σ ci (v0 :: v1 :: v2 :: v3 :: v4 :: v5 :: v6 :: v7 :: v8 :: v9 :: v10 :: v11 :: v12 :: fs) n k g) σ.2.1 ci 12 = true := by rw [okF_ob obA_c, Nat.beq_refl, Bool.true_and]; exact decide_eq_true (by simp only [List.length_cons]; omega)
theorem gF_A12 {σ : Hp} {ci n k : Nat} {g : Nat → Option AC} {v0 v1 v2 v3 v4 v5 v6 v7 v8 v9 v10 v11 v12 : Value} {fs : List Value} : gF (obA σ ci (v0 :: v1 :: v2 :: v3 :: v4 :: v5 :: v6 :: v7 :: v8 :: v9 :: v10 :: v11 :: v12 :: fs) n k g) σ.2.1 12 = v12 := (gF_ob obA_c).trans rfl
theorem pF_A12 {σ : Hp} {ci n k : Nat} {g : Nat → Option AC} {v0 v1 v2 v3 v4 v5 v6 v7 v8 v9 v10 v11 v12 w : Value} {fs : List Value} : pF (obA σ ci (v0 :: v1 :: v2 :: v3 :: v4 :: v5 :: v6 :: v7 :: v8 :: v9 :: v10 :: v11 :: v12 :: fs) n k g) σ.2.1 12 w = obA σ ci (v0 :: v1 :: v2 :: v3 :: v4 :: v5 :: v6 :: v7 :: v8 :: v9 :: v10 :: v11 :: w :: fs) n k g := pF_obA
theorem okF_A13 {σ : Hp} {ci n k : Nat} {g : Nat → Option AC} {v0 v1 v2 v3 v4 v5 v6 v7 v8 v9 v10 v11 v12 v13 : Value} {fs : List Value} : okF (obA σ ci (v0 :: v1 :: v2 :: v3 :: v4 :: v5 :: v6 :: v7 :: v8 :: v9 :: v10 :: v11 :: v12 :: v13 :: fs) n k g) σ.2.1 ci 13 = true := by rw [okF_ob obA_c, Nat.beq_refl, Bool.true_and]; exact decide_eq_true (by simp only [List.length_cons]; omega)
theorem gF_A13 {σ : Hp} {ci n k : Nat} {g : Nat → Option AC} {v0 v1 v2 v3 v4 v5 v6 v7 v8 v9 v10 v11 v12 v13 : Value} {fs : List Value} : gF (obA σ ci (v0 :: v1 :: v2 :: v3 :: v4 :: v5 :: v6 :: v7 :: v8 :: v9 :: v10 :: v11 :: v12 :: v13 :: fs) n k g) σ.2.1 13 = v13 := (gF_ob obA_c).trans rfl
theorem pF_A13 {σ : Hp} {ci n k : Nat} {g : Nat → Option AC} {v0 v1 v2 v3 v4 v5 v6 v7 v8 v9 v10 v11 v12 v13 w : Value} {fs : List Value} : pF (obA σ ci (v0 :: v1 :: v2 :: v3 :: v4 :: v5 :: v6 :: v7 :: v8 :: v9 :: v10 :: v11 :: v12 :: v13 :: fs) n k g) σ.2.1 13 w = obA σ ci (v0 :: v1 :: v2 :: v3 :: v4 :: v5 :: v6 :: v7 :: v8 :: v9 :: v10 :: v11 :: v12 :: w :: fs) n k g := pF_obA
def zF : Nat → Int32 := fun _ => 0
def zR (s : Nat) : RowM := (zF, zF, zF, s, 0)
def zT : TalM := (zF, zF, 0)
def zS : StrM := (zR 4, zT, 0, 0)
def zA : StaM := (zS, zS)
theorem n19 {s : Nat} {σ : Hp} {a : Nat} {K : Option Value → Hp → Prop} (ha : a = σ.2.1) : X 19 0 [.ref a, .int (nI s)] [] (hnew σ (.inl (3, [.null, .null, .null, .int 0, .int 0])) 5) K = K none (alo σ 4 77 (rowC σ.2.1 (zR s))) := by
  subst ha
  rw [hnew_o]
  simp only [x19_0, x19_1, x19_4, x19_5, x19_9, x19_12, x19_13, x19_17, x19_20, x19_21, x19_25, x19_28, x19_29, x19_30, x19_33, x19_7 (n := 24) (N := 24) (by decide +kernel) (by decide +kernel) (by decide +kernel), x19_15 (n := 24) (N := 24) (by decide +kernel) (by decide +kernel) (by decide +kernel), x19_23 (n := 24) (N := 24) (by decide +kernel) (by decide +kernel) (by decide +kernel), pushO, List.length_cons, List.length_nil, Nat.reduceAdd, Nat.reduceLeDiff, Nat.le_refl, Nat.zero_le, isD_i, isD_r, isD_l, isD_n, if_true, if_false, ite_true, ite_false, reduceIte, okF_A0, okF_A1, okF_A2, okF_A3, okF_A4, okF_A5, okF_A6, okF_A7, okF_A8, okF_A9, okF_A10, okF_A11, okF_A12, okF_A13, gF_A0, gF_A1, gF_A2, gF_A3, gF_A4, gF_A5, gF_A6, gF_A7, gF_A8, gF_A9, gF_A10, gF_A11, gF_A12, gF_A13, pF_A0, pF_A1, pF_A2, pF_A3, pF_A4, pF_A5, pF_A6, pF_A7, pF_A8, pF_A9, pF_A10, pF_A11, pF_A12, pF_A13, hnew_obA, obA_1, alo_obA]
  refine congrArg (K none) (obA_alo rfl rfl (j3 rfl rfl rfl))
theorem n65 {σ : Hp} {a : Nat} {K : Option Value → Hp → Prop} (ha : a = σ.2.1) : X 65 0 [.ref a] [] (hnew σ (.inl (7, [.null, .null, .int 0])) 3) K = K none (alo σ 3 123 (talC σ.2.1 zT)) := by
  subst ha
  rw [hnew_o]
  simp only [x65_0, x65_1, x65_4, x65_5, x65_9, x65_12, x65_13, x65_17, x65_20, x65_7 (n := 60) (N := 60) (by decide +kernel) (by decide +kernel) (by decide +kernel), x65_15 (n := 60) (N := 60) (by decide +kernel) (by decide +kernel) (by decide +kernel), pushO, List.length_cons, List.length_nil, Nat.reduceAdd, Nat.reduceLeDiff, Nat.le_refl, Nat.zero_le, isD_i, isD_r, isD_l, isD_n, if_true, if_false, ite_true, ite_false, reduceIte, okF_A0, okF_A1, okF_A2, okF_A3, okF_A4, okF_A5, okF_A6, okF_A7, okF_A8, okF_A9, okF_A10, okF_A11, okF_A12, okF_A13, gF_A0, gF_A1, gF_A2, gF_A3, gF_A4, gF_A5, gF_A6, gF_A7, gF_A8, gF_A9, gF_A10, gF_A11, gF_A12, gF_A13, pF_A0, pF_A1, pF_A2, pF_A3, pF_A4, pF_A5, pF_A6, pF_A7, pF_A8, pF_A9, pF_A10, pF_A11, pF_A12, pF_A13, hnew_obA, obA_1, alo_obA]
  refine congrArg (K none) (obA_alo rfl rfl (j2 rfl rfl))
theorem n16 {σ : Hp} {a : Nat} {K : Option Value → Hp → Prop} (ha : a = σ.2.1) : X 16 0 [.ref a] [] (hnew σ (.inl (2, [.null, .int 0])) 2) K = K none (alo σ 2 82 (padC σ.2.1 (zF, 0))) := by
  subst ha
  rw [hnew_o]
  simp only [x16_0, x16_1, x16_4, x16_5, x16_9, x16_12, x16_7 (n := 80) (N := 80) (by decide +kernel) (by decide +kernel) (by decide +kernel), pushO, List.length_cons, List.length_nil, Nat.reduceAdd, Nat.reduceLeDiff, Nat.le_refl, Nat.zero_le, isD_i, isD_r, isD_l, isD_n, if_true, if_false, ite_true, ite_false, reduceIte, okF_A0, okF_A1, okF_A2, okF_A3, okF_A4, okF_A5, okF_A6, okF_A7, okF_A8, okF_A9, okF_A10, okF_A11, okF_A12, okF_A13, gF_A0, gF_A1, gF_A2, gF_A3, gF_A4, gF_A5, gF_A6, gF_A7, gF_A8, gF_A9, gF_A10, gF_A11, gF_A12, gF_A13, pF_A0, pF_A1, pF_A2, pF_A3, pF_A4, pF_A5, pF_A6, pF_A7, pF_A8, pF_A9, pF_A10, pF_A11, pF_A12, pF_A13, hnew_obA, obA_1, alo_obA]
  refine congrArg (K none) (obA_alo rfl rfl fun j hj => ?_)
  have : j = 0 := by omega
  subst this
  rfl
theorem n4 {σ : Hp} {a : Nat} {K : Option Value → Hp → Prop} (ha : a = σ.2.1) : X 4 0 [.ref a] [] (hnew σ (.inl (1, [.int 0, .int 0, .int 0, .int 0, .int 0, .int 0])) 6) K = K none (alo σ 1 6 (ordC σ.2.1 (0, 0, 0, 0, 0, 0))) := by
  subst ha
  rw [hnew_o]
  simp only [x4_0, x4_1, x4_4, pushO, List.length_cons, List.length_nil, Nat.reduceAdd, Nat.reduceLeDiff, Nat.le_refl, Nat.zero_le, isD_i, isD_r, isD_l, isD_n, if_true, if_false, ite_true, ite_false, reduceIte, okF_A0, okF_A1, okF_A2, okF_A3, okF_A4, okF_A5, okF_A6, okF_A7, okF_A8, okF_A9, okF_A10, okF_A11, okF_A12, okF_A13, gF_A0, gF_A1, gF_A2, gF_A3, gF_A4, gF_A5, gF_A6, gF_A7, gF_A8, gF_A9, gF_A10, gF_A11, gF_A12, gF_A13, pF_A0, pF_A1, pF_A2, pF_A3, pF_A4, pF_A5, pF_A6, pF_A7, pF_A8, pF_A9, pF_A10, pF_A11, pF_A12, pF_A13, hnew_obA, obA_1, alo_obA]
  refine congrArg (K none) (obA_alo rfl rfl fun j hj => ?_)
  omega
theorem n19_4 {σ : Hp} {a : Nat} {K : Option Value → Hp → Prop} (ha : a = σ.2.1) : X 19 0 [.ref a, .int 4] [] (hnew σ (.inl (3, [.null, .null, .null, .int 0, .int 0])) 5) K = K none (alo σ 4 77 (rowC σ.2.1 (zR 4))) := by
  have e : (4 : Int32) = nI 4 := by decide +kernel
  rw [e, n19 ha]
theorem n19_24 {σ : Hp} {a : Nat} {K : Option Value → Hp → Prop} (ha : a = σ.2.1) : X 19 0 [.ref a, .int 24] [] (hnew σ (.inl (3, [.null, .null, .null, .int 0, .int 0])) 5) K = K none (alo σ 4 77 (rowC σ.2.1 (zR 24))) := by
  have e : (24 : Int32) = nI 24 := by decide +kernel
  rw [e, n19 ha]
theorem n59 {σ : Hp} {a : Nat} {K : Option Value → Hp → Prop} (ha : a = σ.2.1) : X 59 0 [.ref a] [] (hnew σ (.inl (6, [.null, .null, .int 0, .int 0])) 4) K = K none (alo σ 8 204 (strC σ.2.1 zS)) := by
  subst ha
  rw [hnew_o]
  simp only [x59_0, x59_1, x59_4, x59_5, x59_8, x59_8i, x59_9, x59_10, x59_13, x59_16, x59_17, x59_20, x59_20i, x59_21, x59_24, x59_27, pushO, List.length_cons, List.length_nil, Nat.reduceAdd, Nat.reduceLeDiff, Nat.le_refl, Nat.zero_le, isD_i, isD_r, isD_l, isD_n, if_true, if_false, ite_true, ite_false, reduceIte, okF_A0, okF_A1, okF_A2, okF_A3, okF_A4, okF_A5, okF_A6, okF_A7, okF_A8, okF_A9, okF_A10, okF_A11, okF_A12, okF_A13, gF_A0, gF_A1, gF_A2, gF_A3, gF_A4, gF_A5, gF_A6, gF_A7, gF_A8, gF_A9, gF_A10, gF_A11, gF_A12, gF_A13, pF_A0, pF_A1, pF_A2, pF_A3, pF_A4, pF_A5, pF_A6, pF_A7, pF_A8, pF_A9, pF_A10, pF_A11, pF_A12, pF_A13, hnew_obA, obA_1, alo_obA, n19_4, n65]
  refine congrArg (K none) (obA_alo rfl rfl fun j hj => ?_)
  match j, hj with
  | 0, _ => rfl
  | 1, _ => rfl
  | 2, _ => rfl
  | 3, _ => rfl
  | 4, _ => rfl
  | 5, _ => rfl
  | 6, _ => rfl
theorem n51 {σ : Hp} {a : Nat} {K : Option Value → Hp → Prop} (ha : a = σ.2.1) : X 51 0 [.ref a] [] (hnew σ (.inl (5, [.null, .null])) 2) K = K none (alo σ 17 410 (staC σ.2.1 zA)) := by
  subst ha
  rw [hnew_o]
  simp only [x51_0, x51_1, x51_4, x51_5, x51_8, x51_8i, x51_9, x51_12, x51_15, x51_16, x51_19, x51_19i, x51_20, x51_23, x51_26, pushO, List.length_cons, List.length_nil, Nat.reduceAdd, Nat.reduceLeDiff, Nat.le_refl, Nat.zero_le, isD_i, isD_r, isD_l, isD_n, if_true, if_false, ite_true, ite_false, reduceIte, okF_A0, okF_A1, okF_A2, okF_A3, okF_A4, okF_A5, okF_A6, okF_A7, okF_A8, okF_A9, okF_A10, okF_A11, okF_A12, okF_A13, gF_A0, gF_A1, gF_A2, gF_A3, gF_A4, gF_A5, gF_A6, gF_A7, gF_A8, gF_A9, gF_A10, gF_A11, gF_A12, gF_A13, pF_A0, pF_A1, pF_A2, pF_A3, pF_A4, pF_A5, pF_A6, pF_A7, pF_A8, pF_A9, pF_A10, pF_A11, pF_A12, pF_A13, hnew_obA, obA_1, alo_obA, n59]
  refine congrArg (K none) (obA_alo rfl rfl fun j hj => ?_)
  by_cases h1 : j < 8
  · rw [cat_lt h1, cat_ge (by omega)]
    unfold staC
    rw [if_neg (by omega), if_pos (by omega)]
    rfl
  · rw [cat_ge (by omega)]
    unfold staC
    rw [if_neg (by omega), if_neg (by omega)]
    congr 1
theorem n50 {σ : Hp} {a : Nat} {K : Option Value → Hp → Prop} (ha : a = σ.2.1) : X 50 0 [.ref a] [] (hnew σ (.inl (4, [.null, .int 0])) 2) K = K none (alo σ 18 412 (cat (sg (.inl (4, [.ref (σ.2.1 + 1), .int 0]))) 1 (staC (σ.2.1 + 1) zA))) := by
  subst ha
  rw [hnew_o]
  simp only [x50_0, x50_1, x50_4, x50_5, x50_8, x50_8i, x50_9, x50_12, x50_15, pushO, List.length_cons, List.length_nil, Nat.reduceAdd, Nat.reduceLeDiff, Nat.le_refl, Nat.zero_le, isD_i, isD_r, isD_l, isD_n, if_true, if_false, ite_true, ite_false, reduceIte, okF_A0, okF_A1, okF_A2, okF_A3, okF_A4, okF_A5, okF_A6, okF_A7, okF_A8, okF_A9, okF_A10, okF_A11, okF_A12, okF_A13, gF_A0, gF_A1, gF_A2, gF_A3, gF_A4, gF_A5, gF_A6, gF_A7, gF_A8, gF_A9, gF_A10, gF_A11, gF_A12, gF_A13, pF_A0, pF_A1, pF_A2, pF_A3, pF_A4, pF_A5, pF_A6, pF_A7, pF_A8, pF_A9, pF_A10, pF_A11, pF_A12, pF_A13, hnew_obA, obA_1, alo_obA, n51]
  refine congrArg (K none) (obA_alo rfl rfl fun j hj => ?_)
  rw [cat_ge (by omega), cat_ge (by omega)]
  rfl
/-- a row of objects laid down in turn -/
def hF (h i : Nat) : Nat → Option Nat := fun j => if j < i then some (h + 2 + 17 * j) else none
def hG (h : Nat) (i : Nat) : Nat → Option AC := fun j => if j = 0 then some (.inr (.inr (.inl (2, 6, hF h i)))) else staC (h + 2 + 17 * ((j - 1) / 17)) zA ((j - 1) % 17)
theorem obA_g {σ : Hp} {ci n k : Nat} {fs : List Value} {g f : Nat → Option AC} (h : ∀ j, j < n → g j = f j) : obA σ ci fs n k g = obA σ ci fs n k f := obA_ext rfl h
theorem obA_r {σ : Hp} {ci n k p t m : Nat} {fs : List Value} {g : Nat → Option AC} {f : Nat → Option Nat} {i : Int32} {v : Nat} (hp : p < n) (hg : g p = some (.inr (.inr (.inl (t, m, f))))) : pQ (obA σ ci fs n k g) (σ.2.1 + (p + 1)) i v = obA σ ci fs n k (updN g p (some (.inr (.inr (.inl (t, m, va_up f i.toNatClampNeg (some v))))))) := by
  have e := (obA_j (σ := σ) (ci := ci) (fs := fs) (k := k) (g := g) hp).trans hg
  unfold pQ
  rw [e]
  refine Hp_ext (fun q => ?_) rfl
  by_cases h1 : q = σ.2.1 + (p + 1)
  · subst h1
    rw [obA_j hp, updN_s]
    exact if_pos rfl
  · refine (if_neg h1).trans ?_
    by_cases h2 : q < σ.2.1 ∨ σ.2.1 + (n + 1) ≤ q
    · rw [obA_off h2, obA_off h2]
    · by_cases h3 : q = σ.2.1
      · subst h3
        rw [obA_c, obA_c]
      · obtain ⟨j, rfl⟩ : ∃ j, q = σ.2.1 + (j + 1) := ⟨q - σ.2.1 - 1, by omega⟩
        rw [obA_j (by omega), obA_j (by omega), updN_n (by omega)]
theorem obA_L {σ : Hp} {ci n k p t m : Nat} {fs : List Value} {g : Nat → Option AC} {f : Nat → Option Nat} (hp : p < n) (hg : g p = some (.inr (.inr (.inl (t, m, f))))) (ht : (Nat.beq t 2 || Nat.beq t 3) = true) : okL (obA σ ci fs n k g) (σ.2.1 + (p + 1)) = true ∧ gL (obA σ ci fs n k g) (σ.2.1 + (p + 1)) = nI m := by
  have e := (obA_j (σ := σ) (ci := ci) (fs := fs) (k := k) (g := g) hp).trans hg
  refine ⟨?_, ?_⟩
  · unfold okL
    rw [e]
    exact ht
  · unfold gL
    rw [e]
theorem obA_w {σ : Hp} {ci n k p t m v cv : Nat} {fs vs : List Value} {g : Nat → Option AC} {f : Nat → Option Nat} {i : Int32} (hp : p < n) (hg : g p = some (.inr (.inr (.inl (t, m, f))))) (ht : (Nat.beq t 2 || Nat.beq t 3) = true) (hi : inB i m = true) (hv : v < n) (hgv : g v = some (.inl (cv, vs))) (hc : Nat.beq cv (elC t) = true) : okQw (obA σ ci fs n k g) (σ.2.1 + (p + 1)) i (σ.2.1 + (v + 1)) = true := by
  have e := (obA_j (σ := σ) (ci := ci) (fs := fs) (k := k) (g := g) hp).trans hg
  have e2 := (obA_j (σ := σ) (ci := ci) (fs := fs) (k := k) (g := g) hv).trans hgv
  unfold okQw
  rw [e]
  show ((Nat.beq t 2 || Nat.beq t 3) && inB i m && okO _ _ (elC t)) = true
  rw [ht, hi, okO_ob e2, hc]
  rfl
