theorem okLP0 : ltab0.all okLP = true := by decide +kernel
theorem okLP1 : ltab1.all okLP = true := by decide +kernel
theorem okLP2 : ltab2.all okLP = true := by decide +kernel
theorem okLP3 : ltab3.all okLP = true := by decide +kernel
theorem okLP4 : ltab4.all okLP = true := by decide +kernel
theorem okLP5 : ltab5.all okLP = true := by decide +kernel
theorem okLP6 : ltab6.all okLP = true := by decide +kernel
theorem okLP7 : ltab7.all okLP = true := by decide +kernel
theorem okLP8 : ltab8.all okLP = true := by decide +kernel
theorem okLP9 : ltab9.all okLP = true := by decide +kernel
theorem okLP10 : ltab10.all okLP = true := by decide +kernel
theorem okLP11 : ltab11.all okLP = true := by decide +kernel
theorem okLP12 : ltab12.all okLP = true := by decide +kernel
theorem okLP13 : ltab13.all okLP = true := by decide +kernel
theorem okLP14 : ltab14.all okLP = true := by decide +kernel
theorem okLP15 : ltab15.all okLP = true := by decide +kernel
theorem okLP_all : ∀ q ∈ ltabP, okLP q = true := by
  intro q h
  simp only [ltabP, List.mem_append] at h
  rcases h with h | h | h | h | h | h | h | h | h | h | h | h | h | h | h | h
  · exact List.all_eq_true.mp okLP0 q h
  · exact List.all_eq_true.mp okLP1 q h
  · exact List.all_eq_true.mp okLP2 q h
  · exact List.all_eq_true.mp okLP3 q h
  · exact List.all_eq_true.mp okLP4 q h
  · exact List.all_eq_true.mp okLP5 q h
  · exact List.all_eq_true.mp okLP6 q h
  · exact List.all_eq_true.mp okLP7 q h
  · exact List.all_eq_true.mp okLP8 q h
  · exact List.all_eq_true.mp okLP9 q h
  · exact List.all_eq_true.mp okLP10 q h
  · exact List.all_eq_true.mp okLP11 q h
  · exact List.all_eq_true.mp okLP12 q h
  · exact List.all_eq_true.mp okLP13 q h
  · exact List.all_eq_true.mp okLP14 q h
  · exact List.all_eq_true.mp okLP15 q h
theorem zip_in {α β : Type} {P : α → β → Prop} : ∀ {as : List α} {bs : List β}, as.length = bs.length → (∀ q ∈ as.zip bs, P q.1 q.2) → ∀ x ∈ as, ∃ b, P x b
  | [], _, _, _, x, hx => by cases hx
  | a :: as, [], hl, _, _, _ => by simp at hl
  | a :: as, b :: bs, hl, h, x, hx => by
    rcases List.mem_cons.mp hx with rfl | hx
    · exact ⟨b, h (x, b) (by simp)⟩
    · exact zip_in (by simpa using hl) (fun q hq => h q (by simp [hq])) x hx
def lw_U : List Cond := lw_tbl.filter goodWord
theorem lcs_in {q : LE} (h : q ∈ ltab) : ∀ w ∈ lcs q, w ∈ lw_tbl ∧ okW w = true := by
  obtain ⟨z, hz, rfl⟩ := List.mem_map.mp h
  have h1 := okLP_all z hz
  simp only [okLP, Bool.and_eq_true, beq_iff_eq] at h1
  intro w hw
  obtain ⟨b, hb⟩ := zip_in (P := fun x b => okW x = true ∧ lw_tbl[b]? = some x) h1.1 (fun q hq => by
    have := List.all_eq_true.mp h1.2 q hq
    simpa using this) w hw
  exact ⟨List.mem_of_getElem? hb.2, hb.1⟩
theorem lw_goodIn : GoodIn lw_U lw_U := fun w hw => ⟨hw, good_of_word (List.mem_filter.mp hw).2⟩
def lk (own idx : Nat) : Option (Nat × Nat × Nat × Int) := (ltab.find? (fun q => Nat.beq q.1 own && Nat.beq q.2.1 idx)).map (fun q => q.2.2)
theorem lk_in {own idx : Nat} {r : Nat × Nat × Nat × Int} (h : lk own idx = some r) : (own, idx, r) ∈ ltab := by
  unfold lk at h
  cases hf : ltab.find? (fun q => Nat.beq q.1 own && Nat.beq q.2.1 idx) with
  | none => rw [hf] at h; cases h
  | some z =>
    rw [hf] at h
    have h1 := List.mem_of_find?_eq_some hf
    have h2 := List.find?_some hf
    simp only [Bool.and_eq_true, Nat.beq_eq_true_eq] at h2
    obtain ⟨z1, z2, z3⟩ := z
    cases h
    obtain ⟨e1, e2⟩ := h2
    have e1 : z1 = own := Nat.eq_of_beq_eq_true e1
    have e2 : z2 = idx := Nat.eq_of_beq_eq_true e2
    subst e1; subst e2
    exact h1
theorem cin_0 : ∀ w ∈ u_ws RX0 TX0 2, w ∈ lw_U := fun w hw => List.mem_filter.mpr ⟨(by decide +kernel : ∀ w ∈ u_ws RX0 TX0 2, w ∈ lw_tbl) w hw, (by decide +kernel : ∀ w ∈ u_ws RX0 TX0 2, goodWord w = true) w hw⟩
theorem cin_1 : ∀ w ∈ u_ws RX1 TX1 6, w ∈ lw_U := fun w hw => List.mem_filter.mpr ⟨(by decide +kernel : ∀ w ∈ u_ws RX1 TX1 6, w ∈ lw_tbl) w hw, (by decide +kernel : ∀ w ∈ u_ws RX1 TX1 6, goodWord w = true) w hw⟩
theorem cin_2 : ∀ w ∈ u_ws RX2 TX2 2, w ∈ lw_U := fun w hw => List.mem_filter.mpr ⟨(by decide +kernel : ∀ w ∈ u_ws RX2 TX2 2, w ∈ lw_tbl) w hw, (by decide +kernel : ∀ w ∈ u_ws RX2 TX2 2, goodWord w = true) w hw⟩
theorem cin_3 : ∀ w ∈ u_ws RX3 TX3 5, w ∈ lw_U := fun w hw => List.mem_filter.mpr ⟨(by decide +kernel : ∀ w ∈ u_ws RX3 TX3 5, w ∈ lw_tbl) w hw, (by decide +kernel : ∀ w ∈ u_ws RX3 TX3 5, goodWord w = true) w hw⟩
theorem cin_4 : ∀ w ∈ u_ws RX4 TX4 2, w ∈ lw_U := fun w hw => List.mem_filter.mpr ⟨(by decide +kernel : ∀ w ∈ u_ws RX4 TX4 2, w ∈ lw_tbl) w hw, (by decide +kernel : ∀ w ∈ u_ws RX4 TX4 2, goodWord w = true) w hw⟩
theorem cin_5 : ∀ w ∈ u_ws RX5 TX5 2, w ∈ lw_U := fun w hw => List.mem_filter.mpr ⟨(by decide +kernel : ∀ w ∈ u_ws RX5 TX5 2, w ∈ lw_tbl) w hw, (by decide +kernel : ∀ w ∈ u_ws RX5 TX5 2, goodWord w = true) w hw⟩
theorem cin_6 : ∀ w ∈ u_ws RX6 TX6 4, w ∈ lw_U := fun w hw => List.mem_filter.mpr ⟨(by decide +kernel : ∀ w ∈ u_ws RX6 TX6 4, w ∈ lw_tbl) w hw, (by decide +kernel : ∀ w ∈ u_ws RX6 TX6 4, goodWord w = true) w hw⟩
theorem cin_7 : ∀ w ∈ u_ws RX7 TX7 3, w ∈ lw_U := fun w hw => List.mem_filter.mpr ⟨(by decide +kernel : ∀ w ∈ u_ws RX7 TX7 3, w ∈ lw_tbl) w hw, (by decide +kernel : ∀ w ∈ u_ws RX7 TX7 3, goodWord w = true) w hw⟩
theorem cin_8 : ∀ w ∈ u_ws RX8 TX8 6, w ∈ lw_U := fun w hw => List.mem_filter.mpr ⟨(by decide +kernel : ∀ w ∈ u_ws RX8 TX8 6, w ∈ lw_tbl) w hw, (by decide +kernel : ∀ w ∈ u_ws RX8 TX8 6, goodWord w = true) w hw⟩
/-- what is known of each kind of object -/
def cOK (C : String) (T : u_T) (N : Nat) (ty : Nat → FieldType) (vs : List Value) : Prop := (∀ w ∈ u_ws C T N, w ∈ lw_U) ∧ (∀ k, k < N → parseFieldDescriptor (T k).2.2.1 = some (ty k)) ∧ (∀ a, a < N → ∀ b, b < N → a ≠ b → (T a).2.1 ≠ (T b).2.1) ∧ (∀ k, k < N → (T k).1 = C) ∧ vs.length = N ∧ ∀ j, j < N → defaultValue (ty j) = vp_V vs j
theorem cok_0 : cOK RX0 TX0 2 tyX0 (cV 0) := ⟨cin_0, tyX0_ok, nmX0, by decide +kernel, rfl, by decide +kernel⟩
theorem cok_1 : cOK RX1 TX1 6 tyX1 (cV 1) := ⟨cin_1, tyX1_ok, nmX1, by decide +kernel, rfl, by decide +kernel⟩
theorem cok_2 : cOK RX2 TX2 2 tyX2 (cV 2) := ⟨cin_2, tyX2_ok, nmX2, by decide +kernel, rfl, by decide +kernel⟩
theorem cok_3 : cOK RX3 TX3 5 tyX3 (cV 3) := ⟨cin_3, tyX3_ok, nmX3, by decide +kernel, rfl, by decide +kernel⟩
theorem cok_4 : cOK RX4 TX4 2 tyX4 (cV 4) := ⟨cin_4, tyX4_ok, nmX4, by decide +kernel, rfl, by decide +kernel⟩
theorem cok_5 : cOK RX5 TX5 2 tyX5 (cV 5) := ⟨cin_5, tyX5_ok, nmX5, by decide +kernel, rfl, by decide +kernel⟩
theorem cok_6 : cOK RX6 TX6 4 tyX6 (cV 6) := ⟨cin_6, tyX6_ok, nmX6, by decide +kernel, rfl, by decide +kernel⟩
theorem cok_7 : cOK RX7 TX7 3 tyX7 (cV 7) := ⟨cin_7, tyX7_ok, nmX7, by decide +kernel, rfl, by decide +kernel⟩
theorem cok_8 : cOK RX8 TX8 6 tyX8 (cV 8) := ⟨cin_8, tyX8_ok, nmX8, by decide +kernel, rfl, by decide +kernel⟩
theorem cok {ci : Nat} {q : vw_C} (h : vcl[ci]? = some q) : q = (cNm ci, cT ci, cN ci) ∧ cOK (cNm ci) (cT ci) (cN ci) (cY ci) (cV ci) := by
  match ci, h with
  | 0, h => cases h; exact ⟨rfl, cok_0⟩
  | 1, h => cases h; exact ⟨rfl, cok_1⟩
  | 2, h => cases h; exact ⟨rfl, cok_2⟩
  | 3, h => cases h; exact ⟨rfl, cok_3⟩
  | 4, h => cases h; exact ⟨rfl, cok_4⟩
  | 5, h => cases h; exact ⟨rfl, cok_5⟩
  | 6, h => cases h; exact ⟨rfl, cok_6⟩
  | 7, h => cases h; exact ⟨rfl, cok_7⟩
  | 8, h => cases h; exact ⟨rfl, cok_8⟩
  | k + 9, h => simp [vcl] at h
def mOK (q : MI) : Bool := decide (q.1.cls ≠ "java/lang/invoke/MethodHandle") && decide (q.1.cls ≠ "java/lang/invoke/VarHandle") && plainName q.1.cls && decide (q.1.cls = cNm q.2.2.2.2.1) && decide ((parseMethodDescriptor q.1.desc).map (fun d => d.parameters.length) = some q.2.2.2.2.2.1)
theorem mOK0 : mtab0.all mOK = true := by decide +kernel
theorem mOK1 : mtab1.all mOK = true := by decide +kernel
theorem mOK2 : mtab2.all mOK = true := by decide +kernel
theorem mOK_all : ∀ q ∈ mtab, mOK q = true := by
  intro q h
  simp only [mtab, List.mem_append] at h
  rcases h with h | h | h
  · exact List.all_eq_true.mp mOK0 q h
  · exact List.all_eq_true.mp mOK1 q h
  · exact List.all_eq_true.mp mOK2 q h
theorem mOK_d : mOK m_d = true := by decide +kernel
theorem mOK_y (y : Nat) : mOK (mI y) = true := by
  unfold mI
  rw [List.getD_eq_getElem?_getD]
  cases h : mtab[y]? with
  | none => exact mOK_d
  | some q => exact mOK_all q (List.mem_of_getElem? h)
