/-! the whole object: its cells from x on, behind them the reference's -/
theorem hset_ov {σ : Hp} {a : Nat} {c : AC} : hset σ a c = ov σ a 1 (fun j => if j = 0 then some c else none) := by
  refine ov_cases (a := a) (n := 1) (fun j hj => ?_) (fun q hq => ?_) rfl
  · rw [ov_in hj]
    have : j = 0 := by omega
    subst this
    show (if a + 0 = a then some c else σ.1 (a + 0)) = _
    simp
  · rw [ov_off hq]
    show (if q = a then some c else σ.1 q) = _
    rw [if_neg (by omega)]
def sltF (x : Nat) : Nat → Option Nat := fun i => if i < 2 then some (x + 123 + 18 * i) else none
def slO (x : Nat) (u : Nat → Bool) (j : Nat) : AC := .inl (4, [.ref (x + 124 + 18 * j), .int (bI (u j))])
def xO (x : Nat) : AC := .inl (8, [.ref (x + 1), .ref (x + 18), .ref (x + 122), .ref (x + 159), .ref (x + 161), .ref (x + 162)])
def Sys (x : Nat) (A : StaM) (pm : Nat → Nat) (sz : Nat) (S L : Nat → StaM) (u : Nat → Bool) (P : PadM) (O : OrdM) (J : RowM) (nn : Nat × Nat) (σ : Hp) : Prop :=
  σ.1 x = some (xO x) ∧ staAt (x + 1) A σ ∧ hisAt (x + 18) pm sz σ ∧ (∀ j, j < 6 → staAt (x + 18 + 2 + 17 * j) (S j) σ) ∧ σ.1 (x + 122) = some (.inr (.inr (.inl (3, 2, sltF x)))) ∧ (∀ j, j < 2 → σ.1 (x + 123 + 18 * j) = some (slO x u j)) ∧ (∀ j, j < 2 → staAt (x + 124 + 18 * j) (L j) σ) ∧ padAt (x + 159) P σ ∧ ordAt (x + 161) O σ ∧ rowAt (x + 162) J σ ∧ σ.2 = nn ∧ ((∀ i, i < 6 → pm i < 6) ∧ sz ≤ 6 ∧ P.2 ≤ 80 ∧ rS J = 24)
theorem sysA {x : Nat} {A : StaM} {pm : Nat → Nat} {sz : Nat} {S L : Nat → StaM} {u : Nat → Bool} {P : PadM} {O : OrdM} {J : RowM} {nn : Nat × Nat} {σ : Hp} {B : StaM} (h : Sys x A pm sz S L u P O J nn σ) : Sys x B pm sz S L u P O J nn (staPut (x + 1) B σ) := by
  obtain ⟨c0, c1, c2, c3, c4, c5, c6, c7, c8, c9, c11, c12⟩ := h
  exact ⟨(ov_off (by omega)).trans c0, staAP, hisOff c2 (by omega), fun j hj => staOff (c3 j hj) (by omega), (ov_off (by omega)).trans c4, fun j hj => (ov_off (by omega)).trans (c5 j hj), fun j hj => staOff (c6 j hj) (by omega), padOff c7 (by omega), ordOff c8 (by omega), rowOff c9 (by omega), c11, c12⟩
theorem sysH {x : Nat} {A : StaM} {pm : Nat → Nat} {sz : Nat} {S L : Nat → StaM} {u : Nat → Bool} {P : PadM} {O : OrdM} {J : RowM} {nn : Nat × Nat} {σ : Hp} {pm2 : Nat → Nat} {sz2 : Nat} (h : Sys x A pm sz S L u P O J nn σ) (hp : ∀ i, i < 6 → pm2 i < 6) (hz : sz2 ≤ 6) : Sys x A pm2 sz2 S L u P O J nn (hisPut (x + 18) pm2 sz2 σ) := by
  obtain ⟨c0, c1, c2, c3, c4, c5, c6, c7, c8, c9, c11, c12⟩ := h
  exact ⟨(ov_off (by omega)).trans c0, staOff c1 (by omega), hisAP, fun j hj => staOff (c3 j hj) (by omega), (ov_off (by omega)).trans c4, fun j hj => (ov_off (by omega)).trans (c5 j hj), fun j hj => staOff (c6 j hj) (by omega), padOff c7 (by omega), ordOff c8 (by omega), rowOff c9 (by omega), c11, ⟨hp, hz, c12.2.2⟩⟩
theorem updN_s {α : Type} {f : Nat → α} {k : Nat} {x : α} : updN f k x k = x := if_pos rfl
theorem updN_n {α : Type} {f : Nat → α} {k j : Nat} {x : α} (h : j ≠ k) : updN f k x j = f j := if_neg h
theorem sysS {x : Nat} {A : StaM} {pm : Nat → Nat} {sz : Nat} {S L : Nat → StaM} {u : Nat → Bool} {P : PadM} {O : OrdM} {J : RowM} {nn : Nat × Nat} {σ : Hp} {k : Nat} {B : StaM} (h : Sys x A pm sz S L u P O J nn σ) (hk : k < 6) : Sys x A pm sz (updN S k B) L u P O J nn (staPut (x + 18 + 2 + 17 * k) B σ) := by
  obtain ⟨c0, c1, c2, c3, c4, c5, c6, c7, c8, c9, c11, c12⟩ := h
  exact ⟨(ov_off (by omega)).trans c0, staOff c1 (by omega), hisOff c2 (by omega), fun j hj => (by
    by_cases e : j = k
    · subst e
      rw [updN_s]
      exact staAP
    · rw [updN_n e]
      exact staOff (c3 j hj) (by omega)), (ov_off (by omega)).trans c4, fun j hj => (ov_off (by omega)).trans (c5 j hj), fun j hj => staOff (c6 j hj) (by omega), padOff c7 (by omega), ordOff c8 (by omega), rowOff c9 (by omega), c11, c12⟩
theorem sysL {x : Nat} {A : StaM} {pm : Nat → Nat} {sz : Nat} {S L : Nat → StaM} {u : Nat → Bool} {P : PadM} {O : OrdM} {J : RowM} {nn : Nat × Nat} {σ : Hp} {k : Nat} {B : StaM} (h : Sys x A pm sz S L u P O J nn σ) (hk : k < 2) : Sys x A pm sz S (updN L k B) u P O J nn (staPut (x + 124 + 18 * k) B σ) := by
  obtain ⟨c0, c1, c2, c3, c4, c5, c6, c7, c8, c9, c11, c12⟩ := h
  exact ⟨(ov_off (by omega)).trans c0, staOff c1 (by omega), hisOff c2 (by omega), fun j hj => staOff (c3 j hj) (by omega), (ov_off (by omega)).trans c4, fun j hj => (ov_off (by omega)).trans (c5 j hj), fun j hj => (by
    by_cases e : j = k
    · subst e
      rw [updN_s]
      exact staAP
    · rw [updN_n e]
      exact staOff (c6 j hj) (by omega)), padOff c7 (by omega), ordOff c8 (by omega), rowOff c9 (by omega), c11, c12⟩
theorem sysP {x : Nat} {A : StaM} {pm : Nat → Nat} {sz : Nat} {S L : Nat → StaM} {u : Nat → Bool} {P : PadM} {O : OrdM} {J : RowM} {nn : Nat × Nat} {σ : Hp} {P2 : PadM} (h : Sys x A pm sz S L u P O J nn σ) (hp : P2.2 ≤ 80) : Sys x A pm sz S L u P2 O J nn (padPut (x + 159) P2 σ) := by
  obtain ⟨c0, c1, c2, c3, c4, c5, c6, c7, c8, c9, c11, c12⟩ := h
  exact ⟨(ov_off (by omega)).trans c0, staOff c1 (by omega), hisOff c2 (by omega), fun j hj => staOff (c3 j hj) (by omega), (ov_off (by omega)).trans c4, fun j hj => (ov_off (by omega)).trans (c5 j hj), fun j hj => staOff (c6 j hj) (by omega), padAP, ordOff c8 (by omega), rowOff c9 (by omega), c11, ⟨c12.1, c12.2.1, hp, c12.2.2.2⟩⟩
theorem sysO {x : Nat} {A : StaM} {pm : Nat → Nat} {sz : Nat} {S L : Nat → StaM} {u : Nat → Bool} {P : PadM} {O : OrdM} {J : RowM} {nn : Nat × Nat} {σ : Hp} {O2 : OrdM} (h : Sys x A pm sz S L u P O J nn σ) : Sys x A pm sz S L u P O2 J nn (ordPut (x + 161) O2 σ) := by
  obtain ⟨c0, c1, c2, c3, c4, c5, c6, c7, c8, c9, c11, c12⟩ := h
  exact ⟨(ov_off (by omega)).trans c0, staOff c1 (by omega), hisOff c2 (by omega), fun j hj => staOff (c3 j hj) (by omega), (ov_off (by omega)).trans c4, fun j hj => (ov_off (by omega)).trans (c5 j hj), fun j hj => staOff (c6 j hj) (by omega), padOff c7 (by omega), ordAP, rowOff c9 (by omega), c11, c12⟩
theorem sysJ {x : Nat} {A : StaM} {pm : Nat → Nat} {sz : Nat} {S L : Nat → StaM} {u : Nat → Bool} {P : PadM} {O : OrdM} {J : RowM} {nn : Nat × Nat} {σ : Hp} {J2 : RowM} (h : Sys x A pm sz S L u P O J nn σ) (hj : rS J2 = 24) : Sys x A pm sz S L u P O J2 nn (rowPut (x + 162) J2 σ) := by
  obtain ⟨c0, c1, c2, c3, c4, c5, c6, c7, c8, c9, c11, c12⟩ := h
  exact ⟨(ov_off (by omega)).trans c0, staOff c1 (by omega), hisOff c2 (by omega), fun j hj => staOff (c3 j hj) (by omega), (ov_off (by omega)).trans c4, fun j hj => (ov_off (by omega)).trans (c5 j hj), fun j hj => staOff (c6 j hj) (by omega), padOff c7 (by omega), ordOff c8 (by omega), rowAP, c11, ⟨c12.1, c12.2.1, c12.2.2.1, hj⟩⟩
theorem sysU {x : Nat} {A : StaM} {pm : Nat → Nat} {sz : Nat} {S L : Nat → StaM} {u : Nat → Bool} {P : PadM} {O : OrdM} {J : RowM} {nn : Nat × Nat} {σ : Hp} {k : Nat} {b : Bool} (h : Sys x A pm sz S L u P O J nn σ) (hk : k < 2) : Sys x A pm sz S L (updN u k b) P O J nn (pF σ (x + 123 + 18 * k) 1 (.int (bI b))) := by
  obtain ⟨c0, c1, c2, c3, c4, c5, c6, c7, c8, c9, c11, c12⟩ := h
  rw [pF_ob (c5 k hk), hset_ov]
  exact ⟨(ov_off (by omega)).trans c0, staOff c1 (by omega), hisOff c2 (by omega), fun j hj => staOff (c3 j hj) (by omega), (ov_off (by omega)).trans c4, fun j hj => (by
    by_cases e : j = k
    · subst e
      have := ov_in (σ := σ) (a := x + 123 + 18 * j) (n := 1) (j := 0) (f := fun i => if i = 0 then some (Sum.inl (4, List.set [.ref (x + 124 + 18 * j), .int (bI (u j))] 1 (.int (bI b)))) else none) (by omega)
      refine this.trans ?_
      unfold slO
      rw [updN_s]
      rfl
    · refine (ov_off (by omega)).trans ((c5 j hj).trans ?_)
      unfold slO
      rw [updN_n e]), fun j hj => staOff (c6 j hj) (by omega), padOff c7 (by omega), ordOff c8 (by omega), rowOff c9 (by omega), c11, c12⟩
theorem sysF {x : Nat} {A : StaM} {pm : Nat → Nat} {sz : Nat} {S L : Nat → StaM} {u : Nat → Bool} {P : PadM} {O : OrdM} {J : RowM} {nn : Nat × Nat} {σ : Hp} (h : Sys x A pm sz S L u P O J nn σ) : okO σ x 8 = true ∧ okF σ x 8 0 = true ∧ okF σ x 8 1 = true ∧ okF σ x 8 2 = true ∧ okF σ x 8 3 = true ∧ okF σ x 8 4 = true ∧ okF σ x 8 5 = true ∧ gF σ x 0 = .ref (x + 1) ∧ gF σ x 1 = .ref (x + 18) ∧ gF σ x 2 = .ref (x + 122) ∧ gF σ x 3 = .ref (x + 159) ∧ gF σ x 4 = .ref (x + 161) ∧ gF σ x 5 = .ref (x + 162) :=
  ⟨(okO_ob h.1).trans rfl, (okF_ob h.1).trans rfl, (okF_ob h.1).trans rfl, (okF_ob h.1).trans rfl, (okF_ob h.1).trans rfl, (okF_ob h.1).trans rfl, (okF_ob h.1).trans rfl, (gF_ob h.1).trans rfl, (gF_ob h.1).trans rfl, (gF_ob h.1).trans rfl, (gF_ob h.1).trans rfl, (gF_ob h.1).trans rfl, (gF_ob h.1).trans rfl⟩
theorem ysA {x : Nat} {A : StaM} {pm : Nat → Nat} {sz : Nat} {S L : Nat → StaM} {u : Nat → Bool} {P : PadM} {O : OrdM} {J : RowM} {nn : Nat × Nat} {σ : Hp} (h : Sys x A pm sz S L u P O J nn σ) : staAt (x + 1) A σ := h.2.1
theorem ysH {x : Nat} {A : StaM} {pm : Nat → Nat} {sz : Nat} {S L : Nat → StaM} {u : Nat → Bool} {P : PadM} {O : OrdM} {J : RowM} {nn : Nat × Nat} {σ : Hp} (h : Sys x A pm sz S L u P O J nn σ) : hisAt (x + 18) pm sz σ := h.2.2.1
theorem ysSt {x : Nat} {A : StaM} {pm : Nat → Nat} {sz : Nat} {S L : Nat → StaM} {u : Nat → Bool} {P : PadM} {O : OrdM} {J : RowM} {nn : Nat × Nat} {σ : Hp} (h : Sys x A pm sz S L u P O J nn σ) : ∀ j, j < 6 → staAt (x + 18 + 2 + 17 * j) (S j) σ := h.2.2.2.1
theorem ysQ {x : Nat} {A : StaM} {pm : Nat → Nat} {sz : Nat} {S L : Nat → StaM} {u : Nat → Bool} {P : PadM} {O : OrdM} {J : RowM} {nn : Nat × Nat} {σ : Hp} (h : Sys x A pm sz S L u P O J nn σ) : σ.1 (x + 122) = some (.inr (.inr (.inl (3, 2, sltF x)))) := h.2.2.2.2.1
theorem ysU {x : Nat} {A : StaM} {pm : Nat → Nat} {sz : Nat} {S L : Nat → StaM} {u : Nat → Bool} {P : PadM} {O : OrdM} {J : RowM} {nn : Nat × Nat} {σ : Hp} (h : Sys x A pm sz S L u P O J nn σ) : ∀ j, j < 2 → σ.1 (x + 123 + 18 * j) = some (slO x u j) := h.2.2.2.2.2.1
theorem ysL {x : Nat} {A : StaM} {pm : Nat → Nat} {sz : Nat} {S L : Nat → StaM} {u : Nat → Bool} {P : PadM} {O : OrdM} {J : RowM} {nn : Nat × Nat} {σ : Hp} (h : Sys x A pm sz S L u P O J nn σ) : ∀ j, j < 2 → staAt (x + 124 + 18 * j) (L j) σ := h.2.2.2.2.2.2.1
theorem ysP {x : Nat} {A : StaM} {pm : Nat → Nat} {sz : Nat} {S L : Nat → StaM} {u : Nat → Bool} {P : PadM} {O : OrdM} {J : RowM} {nn : Nat × Nat} {σ : Hp} (h : Sys x A pm sz S L u P O J nn σ) : padAt (x + 159) P σ := h.2.2.2.2.2.2.2.1
theorem ysO {x : Nat} {A : StaM} {pm : Nat → Nat} {sz : Nat} {S L : Nat → StaM} {u : Nat → Bool} {P : PadM} {O : OrdM} {J : RowM} {nn : Nat × Nat} {σ : Hp} (h : Sys x A pm sz S L u P O J nn σ) : ordAt (x + 161) O σ := h.2.2.2.2.2.2.2.2.1
theorem ysJ {x : Nat} {A : StaM} {pm : Nat → Nat} {sz : Nat} {S L : Nat → StaM} {u : Nat → Bool} {P : PadM} {O : OrdM} {J : RowM} {nn : Nat × Nat} {σ : Hp} (h : Sys x A pm sz S L u P O J nn σ) : rowAt (x + 162) J σ := h.2.2.2.2.2.2.2.2.2.1
theorem ysNn {x : Nat} {A : StaM} {pm : Nat → Nat} {sz : Nat} {S L : Nat → StaM} {u : Nat → Bool} {P : PadM} {O : OrdM} {J : RowM} {nn : Nat × Nat} {σ : Hp} (h : Sys x A pm sz S L u P O J nn σ) : σ.2 = nn := h.2.2.2.2.2.2.2.2.2.2.1
theorem ysB {x : Nat} {A : StaM} {pm : Nat → Nat} {sz : Nat} {S L : Nat → StaM} {u : Nat → Bool} {P : PadM} {O : OrdM} {J : RowM} {nn : Nat × Nat} {σ : Hp} (h : Sys x A pm sz S L u P O J nn σ) : (∀ i, i < 6 → pm i < 6) ∧ sz ≤ 6 ∧ P.2 ≤ 80 ∧ rS J = 24 := h.2.2.2.2.2.2.2.2.2.2.2
/-- the stream of that number, and where it is -/
def stOf (A : StaM) (s : Int32) : StrM := if s = 0 then aZ A else aO A
def stSet (A : StaM) (s : Int32) (S : StrM) : StaM := if s = 0 then (S, aO A) else (aZ A, S)
theorem staSt {a : Nat} {A : StaM} {σ : Hp} (h : staAt a A σ) (s : Int32) : strAt (if s = 0 then a + 1 else a + 9) (stOf A s) σ := by
  unfold stOf
  by_cases h0 : s = 0
  · rw [if_pos h0, if_pos h0]; exact staZ h
  · rw [if_neg h0, if_neg h0]; exact staO h
theorem staStP {a : Nat} {A : StaM} {σ : Hp} (h : staAt a A σ) (s : Int32) {S : StrM} : strPut (if s = 0 then a + 1 else a + 9) S σ = staPut a (stSet A s S) σ := by
  unfold stSet
  by_cases h0 : s = 0
  · rw [if_pos h0, if_pos h0]; exact staZP h
  · rw [if_neg h0, if_neg h0]; exact staOP h
theorem okSt_of {A : StaM} (h : okSa A) (s : Int32) : okSt (stOf A s) := by
  unfold stOf
  by_cases h0 : s = 0
  · rw [if_pos h0]; exact h.1
  · rw [if_neg h0]; exact h.2
theorem b28 {i : Int32} {r : Nat} {ρ : RowM} {σ : Hp} {K : Option Value → Hp → Prop} (h : rowAt r ρ σ) (ht : rT ρ ≤ 24) : X 28 0 [.ref r, .int i] [] σ K = K (some (.int (leastAtR (rC ρ) (rE ρ) (rT ρ) i))) σ := by
  obtain ⟨g, c, e, s, t⟩ := ρ
  exact e28 h ht
theorem b29 {r : Nat} {ρ : RowM} {σ : Hp} {K : Option Value → Hp → Prop} (h : rowAt r ρ σ) (ht : rT ρ ≤ 24) (hs : rS ρ ≤ 24) : X 29 0 [.ref r, .null, .null] [] σ K = K (some (.int (mwsR (rC ρ) (rS ρ) (rT ρ)))) σ := by
  obtain ⟨g, c, e, s, t⟩ := ρ
  exact e29 h ht hs
theorem b30 {r : Nat} {ρ : RowM} {σ : Hp} {K : Option Value → Hp → Prop} (h : rowAt r ρ σ) (ht : rT ρ ≤ 24) : X 30 0 [.ref r, .null, .null] [] σ K = K (some (.int (fold (fun a k => a + rC ρ k) (rT ρ) 0 0))) σ := by
  obtain ⟨g, c, e, s, t⟩ := ρ
  exact e30 h ht
theorem b31 {r : Nat} {ρ : RowM} {σ : Hp} {K : Option Value → Hp → Prop} (h : rowAt r ρ σ) (ht : rT ρ ≤ 24) : X 31 0 [.ref r, .null, .null] [] σ K = K (some (.int (fold (fun a k => if a < rE ρ k then rE ρ k else a) (rT ρ) 0 0))) σ := by
  obtain ⟨g, c, e, s, t⟩ := ρ
  exact e31 h ht
theorem b32 {y : Int32} {r : Nat} {ρ : RowM} {σ : Hp} {K : Option Value → Hp → Prop} (h : rowAt r ρ σ) (ht : rT ρ ≤ 24) : X 32 0 [.ref r, .int y, .null, .null] [] σ K = K (some (.int (nI (fold (fun a k => if y < 100 * (rC ρ k - rE ρ k) then a + 1 else a) (rT ρ) 0 0)))) σ := by
  obtain ⟨g, c, e, s, t⟩ := ρ
  exact e32 h ht
theorem b33 {y : Int32} {r : Nat} {ρ : RowM} {σ : Hp} {K : Option Value → Hp → Prop} (h : rowAt r ρ σ) (ht : rT ρ ≤ 24) : X 33 0 [.ref r, .int y, .null, .null] [] σ K = K (some (.int (nI (fold (fun a k => if y < 100 * rC ρ k then a + 1 else a) (rT ρ) 0 0)))) σ := by
  obtain ⟨g, c, e, s, t⟩ := ρ
  exact e33 h ht
theorem b67 {i : Int32} {r : Nat} {τ : TalM} {σ : Hp} {K : Option Value → Hp → Prop} (h : talAt r τ σ) (hn : tN τ ≤ 60) : X 67 0 [.ref r, .int i] [] σ K = K (some (.int (bI (in_ (tN τ) i)))) σ := by
  obtain ⟨g, c, n⟩ := τ
  exact e67 h hn
theorem b71 {y : Int32} {r : Nat} {τ : TalM} {σ : Hp} {K : Option Value → Hp → Prop} (h : talAt r τ σ) (hn : tN τ ≤ 60) : X 71 0 [.ref r, .int y] [] σ K = K (some (.int (at_ (tC τ) (tN τ) (seatOfR (tG τ) (tN τ) y)))) σ := by
  obtain ⟨g, c, n⟩ := τ
  exact e71 h hn
theorem b72 {y : Int32} {r : Nat} {τ : TalM} {σ : Hp} {K : Option Value → Hp → Prop} (h : talAt r τ σ) (hn : tN τ ≤ 60) : X 72 0 [.ref r, .int y, .null, .null] [] σ K = K (some (.int (nI (fold (fun a k => if y < 100 * tC τ k then a + 1 else a) (tN τ) 0 0)))) σ := by
  obtain ⟨g, c, n⟩ := τ
  exact e72 h hn
/-- seat -/
def f85 (A : StaM) (s i w : Int32) : Int32 := if isSt s = true then (if in_ (rT (sR (stOf A s))) i = true then (if w = 0 then at_ (rG (sR (stOf A s))) (rT (sR (stOf A s))) i else if w = 1 then at_ (rC (sR (stOf A s))) (rT (sR (stOf A s))) i else if w = 2 then at_ (rE (sR (stOf A s))) (rT (sR (stOf A s))) i else if w = 3 then at_ (tC (sT (stOf A s))) (tN (sT (stOf A s))) (seatOfR (tG (sT (stOf A s))) (tN (sT (stOf A s))) (at_ (rG (sR (stOf A s))) (rT (sR (stOf A s))) i)) else -2) else -1) else -1
theorem e85 {s i w : Int32} {x : Nat} {A : StaM} {pm : Nat → Nat} {sz : Nat} {S L : Nat → StaM} {u : Nat → Bool} {P : PadM} {O : OrdM} {J : RowM} {nn : Nat × Nat} {σ : Hp} {K : Option Value → Hp → Prop} (h : Sys x A pm sz S L u P O J nn σ) (ho : okSa A) : X 85 0 [.ref x, .int s, .int i, .int w, .null] [] σ K = K (some (.int (f85 A s i w))) σ := by
  unfold f85
  have hst := staSt (ysA h) s
  have hr := strRow hst
  have ht := strTal hst
  obtain ⟨o1, o2, o3, o4⟩ := okSt_of ho s
  have o5 : rT (sR (stOf A s)) ≤ 24 := by omega
  cases h1 : isSt s
  · simp only [x85_0, x85_1, x85_4, x85_7, x85_8, x85_9, x85_10, x85_13, x85_14, x85_17, x85_19, x85_21, x85_24, x85_25, x85_28, x85_31, x85_32, x85_33, x85_34, x85_64, x85_66, x85_69, x85_70, x85_73, x85_74, x85_76, x85_79, x85_80, x85_83, x85_84, x85_86, x85_89, x85_90, x85_93, x85_94, x85_96, x85_99, x85_101, x85_104, x85_105, x85_108, x85_111, x85_112, x85_114, pushO, List.length_cons, List.length_nil, Nat.reduceAdd, Nat.reduceLeDiff, Nat.le_refl, Nat.zero_le, isD_i, isD_r, isD_l, isD_n, if_true, if_false, ite_true, ite_false, reduceIte, e102, h1, sysF h, e53 (ysA h), strS hst, rowF hr, talF ht, staS (ysA h), bI_t, bI_f, i1_ne, Bool.false_eq_true]
  · cases h2 : in_ (rT (sR (stOf A s))) i
    · simp only [x85_0, x85_1, x85_4, x85_7, x85_8, x85_9, x85_10, x85_13, x85_14, x85_17, x85_19, x85_21, x85_24, x85_25, x85_28, x85_31, x85_32, x85_33, x85_34, x85_64, x85_66, x85_69, x85_70, x85_73, x85_74, x85_76, x85_79, x85_80, x85_83, x85_84, x85_86, x85_89, x85_90, x85_93, x85_94, x85_96, x85_99, x85_101, x85_104, x85_105, x85_108, x85_111, x85_112, x85_114, pushO, List.length_cons, List.length_nil, Nat.reduceAdd, Nat.reduceLeDiff, Nat.le_refl, Nat.zero_le, isD_i, isD_r, isD_l, isD_n, if_true, if_false, ite_true, ite_false, reduceIte, e102, h1, h2, sysF h, e53 (ysA h), strS hst, rowF hr, talF ht, staS (ysA h), bI_t, bI_f, i1_ne, Bool.false_eq_true, b21 hr o5]
    · by_cases w0 : w = 0
      · simp only [x85_0, x85_1, x85_4, x85_7, x85_8, x85_9, x85_10, x85_13, x85_14, x85_17, x85_19, x85_21, x85_24, x85_25, x85_28, x85_31, x85_32, x85_33, x85_34, x85_64, x85_66, x85_69, x85_70, x85_73, x85_74, x85_76, x85_79, x85_80, x85_83, x85_84, x85_86, x85_89, x85_90, x85_93, x85_94, x85_96, x85_99, x85_101, x85_104, x85_105, x85_108, x85_111, x85_112, x85_114, pushO, List.length_cons, List.length_nil, Nat.reduceAdd, Nat.reduceLeDiff, Nat.le_refl, Nat.zero_le, isD_i, isD_r, isD_l, isD_n, if_true, if_false, ite_true, ite_false, reduceIte, e102, h1, h2, sysF h, e53 (ysA h), strS hst, rowF hr, talF ht, staS (ysA h), bI_t, bI_f, i1_ne, Bool.false_eq_true, b21 hr o5, w0, b22 hr o5]
      · by_cases w1 : w = 1
        · subst w1
          simp only [x85_0, x85_1, x85_4, x85_7, x85_8, x85_9, x85_10, x85_13, x85_14, x85_17, x85_19, x85_21, x85_24, x85_25, x85_28, x85_31, x85_32, x85_33, x85_34, x85_64, x85_66, x85_69, x85_70, x85_73, x85_74, x85_76, x85_79, x85_80, x85_83, x85_84, x85_86, x85_89, x85_90, x85_93, x85_94, x85_96, x85_99, x85_101, x85_104, x85_105, x85_108, x85_111, x85_112, x85_114, pushO, List.length_cons, List.length_nil, Nat.reduceAdd, Nat.reduceLeDiff, Nat.le_refl, Nat.zero_le, isD_i, isD_r, isD_l, isD_n, if_true, if_false, ite_true, ite_false, reduceIte, e102, h1, h2, sysF h, e53 (ysA h), strS hst, rowF hr, talF ht, staS (ysA h), bI_t, bI_f, i1_ne, Bool.false_eq_true, b21 hr o5, b23 hr o5]
        · by_cases w2 : w = 2
          · subst w2
            simp only [x85_0, x85_1, x85_4, x85_7, x85_8, x85_9, x85_10, x85_13, x85_14, x85_17, x85_19, x85_21, x85_24, x85_25, x85_28, x85_31, x85_32, x85_33, x85_34, x85_64, x85_66, x85_69, x85_70, x85_73, x85_74, x85_76, x85_79, x85_80, x85_83, x85_84, x85_86, x85_89, x85_90, x85_93, x85_94, x85_96, x85_99, x85_101, x85_104, x85_105, x85_108, x85_111, x85_112, x85_114, pushO, List.length_cons, List.length_nil, Nat.reduceAdd, Nat.reduceLeDiff, Nat.le_refl, Nat.zero_le, isD_i, isD_r, isD_l, isD_n, if_true, if_false, ite_true, ite_false, reduceIte, e102, h1, h2, sysF h, e53 (ysA h), strS hst, rowF hr, talF ht, staS (ysA h), bI_t, bI_f, i1_ne, Bool.false_eq_true, b21 hr o5, w0, w1, b24 hr o5]
          · by_cases w3 : w = 3
            · subst w3
              simp only [x85_0, x85_1, x85_4, x85_7, x85_8, x85_9, x85_10, x85_13, x85_14, x85_17, x85_19, x85_21, x85_24, x85_25, x85_28, x85_31, x85_32, x85_33, x85_34, x85_64, x85_66, x85_69, x85_70, x85_73, x85_74, x85_76, x85_79, x85_80, x85_83, x85_84, x85_86, x85_89, x85_90, x85_93, x85_94, x85_96, x85_99, x85_101, x85_104, x85_105, x85_108, x85_111, x85_112, x85_114, pushO, List.length_cons, List.length_nil, Nat.reduceAdd, Nat.reduceLeDiff, Nat.le_refl, Nat.zero_le, isD_i, isD_r, isD_l, isD_n, if_true, if_false, ite_true, ite_false, reduceIte, e102, h1, h2, sysF h, e53 (ysA h), strS hst, rowF hr, talF ht, staS (ysA h), bI_t, bI_f, i1_ne, Bool.false_eq_true, b21 hr o5, w0, w1, w2, b22 hr o5, b71 ht o4]
            · simp only [x85_0, x85_1, x85_4, x85_7, x85_8, x85_9, x85_10, x85_13, x85_14, x85_17, x85_19, x85_21, x85_24, x85_25, x85_28, x85_31, x85_32, x85_33, x85_34, x85_64, x85_66, x85_69, x85_70, x85_73, x85_74, x85_76, x85_79, x85_80, x85_83, x85_84, x85_86, x85_89, x85_90, x85_93, x85_94, x85_96, x85_99, x85_101, x85_104, x85_105, x85_108, x85_111, x85_112, x85_114, pushO, List.length_cons, List.length_nil, Nat.reduceAdd, Nat.reduceLeDiff, Nat.le_refl, Nat.zero_le, isD_i, isD_r, isD_l, isD_n, if_true, if_false, ite_true, ite_false, reduceIte, e102, h1, h2, sysF h, e53 (ysA h), strS hst, rowF hr, talF ht, staS (ysA h), bI_t, bI_f, i1_ne, Bool.false_eq_true, b21 hr o5, w0, w1, w2, w3]
def f86 (A : StaM) (s y w : Int32) : Int32 := if errA s y = 0 then (if w = 0 then seatOfR (rG (sR (stOf A s))) (rT (sR (stOf A s))) y else if w = 1 then mosR (sR (stOf A s)) y else if w = 2 then lesR (sR (stOf A s)) y else if w = 3 then at_ (tC (sT (stOf A s))) (tN (sT (stOf A s))) (seatOfR (tG (sT (stOf A s))) (tN (sT (stOf A s))) y) else if w = 4 then nI (letS y) else -2) else errA s y
theorem errA_0 {s y : Int32} (h : errA s y = 0) : isSt s = true ∧ isCd y = true := by
  unfold errA at h
  cases h1 : isSt s
  · rw [h1] at h; exact absurd h (by simp only [Bool.false_eq_true, if_false]; decide +kernel)
  · cases h2 : isCd y
    · rw [h1, h2] at h; exact absurd h (by simp only [Bool.false_eq_true, if_false, if_true]; decide +kernel)
    · exact ⟨rfl, rfl⟩
theorem e86 {s y w : Int32} {x : Nat} {A : StaM} {pm : Nat → Nat} {sz : Nat} {S L : Nat → StaM} {u : Nat → Bool} {P : PadM} {O : OrdM} {J : RowM} {nn : Nat × Nat} {σ : Hp} {K : Option Value → Hp → Prop} (h : Sys x A pm sz S L u P O J nn σ) (ho : okSa A) : X 86 0 [.ref x, .int s, .int y, .int w, .null, .null] [] σ K = K (some (.int (f86 A s y w))) σ := by
  unfold f86
  have hst := staSt (ysA h) s
  have hr := strRow hst
  have ht := strTal hst
  obtain ⟨o1, o2, o3, o4⟩ := okSt_of ho s
  have o5 : rT (sR (stOf A s)) ≤ 24 := by omega
  have o6 : rS (sR (stOf A s)) ≤ 24 := by omega
  by_cases h1 : errA s y = 0
  · by_cases w0 : w = 0
    · simp only [x86_0, x86_1, x86_2, x86_5, x86_7, x86_9, x86_12, x86_14, x86_15, x86_16, x86_19, x86_20, x86_23, x86_25, x86_26, x86_60, x86_62, x86_65, x86_66, x86_69, x86_70, x86_72, x86_75, x86_76, x86_79, x86_80, x86_82, x86_85, x86_86, x86_89, x86_90, x86_92, x86_95, x86_96, x86_99, x86_100, x86_101, x86_104, x86_105, x86_107, pushO, List.length_cons, List.length_nil, Nat.reduceAdd, Nat.reduceLeDiff, Nat.le_refl, Nat.zero_le, isD_i, isD_r, isD_l, isD_n, if_true, if_false, ite_true, ite_false, reduceIte, e104, h1, sysF h, e53 (ysA h), strS hst, rowF hr, talF ht, staS (ysA h), bI_t, bI_f, i1_ne, Bool.false_eq_true, w0, b25 hr o5]
    · by_cases w1 : w = 1
      · subst w1
        simp only [x86_0, x86_1, x86_2, x86_5, x86_7, x86_9, x86_12, x86_14, x86_15, x86_16, x86_19, x86_20, x86_23, x86_25, x86_26, x86_60, x86_62, x86_65, x86_66, x86_69, x86_70, x86_72, x86_75, x86_76, x86_79, x86_80, x86_82, x86_85, x86_86, x86_89, x86_90, x86_92, x86_95, x86_96, x86_99, x86_100, x86_101, x86_104, x86_105, x86_107, pushO, List.length_cons, List.length_nil, Nat.reduceAdd, Nat.reduceLeDiff, Nat.le_refl, Nat.zero_le, isD_i, isD_r, isD_l, isD_n, if_true, if_false, ite_true, ite_false, reduceIte, e104, h1, sysF h, e53 (ysA h), strS hst, rowF hr, talF ht, staS (ysA h), bI_t, bI_f, i1_ne, Bool.false_eq_true, b26 hr o5 o6]
      · by_cases w2 : w = 2
        · subst w2
          simp only [x86_0, x86_1, x86_2, x86_5, x86_7, x86_9, x86_12, x86_14, x86_15, x86_16, x86_19, x86_20, x86_23, x86_25, x86_26, x86_60, x86_62, x86_65, x86_66, x86_69, x86_70, x86_72, x86_75, x86_76, x86_79, x86_80, x86_82, x86_85, x86_86, x86_89, x86_90, x86_92, x86_95, x86_96, x86_99, x86_100, x86_101, x86_104, x86_105, x86_107, pushO, List.length_cons, List.length_nil, Nat.reduceAdd, Nat.reduceLeDiff, Nat.le_refl, Nat.zero_le, isD_i, isD_r, isD_l, isD_n, if_true, if_false, ite_true, ite_false, reduceIte, e104, h1, sysF h, e53 (ysA h), strS hst, rowF hr, talF ht, staS (ysA h), bI_t, bI_f, i1_ne, Bool.false_eq_true, w0, w1, b27 hr o5]
        · by_cases w3 : w = 3
          · subst w3
            simp only [x86_0, x86_1, x86_2, x86_5, x86_7, x86_9, x86_12, x86_14, x86_15, x86_16, x86_19, x86_20, x86_23, x86_25, x86_26, x86_60, x86_62, x86_65, x86_66, x86_69, x86_70, x86_72, x86_75, x86_76, x86_79, x86_80, x86_82, x86_85, x86_86, x86_89, x86_90, x86_92, x86_95, x86_96, x86_99, x86_100, x86_101, x86_104, x86_105, x86_107, pushO, List.length_cons, List.length_nil, Nat.reduceAdd, Nat.reduceLeDiff, Nat.le_refl, Nat.zero_le, isD_i, isD_r, isD_l, isD_n, if_true, if_false, ite_true, ite_false, reduceIte, e104, h1, sysF h, e53 (ysA h), strS hst, rowF hr, talF ht, staS (ysA h), bI_t, bI_f, i1_ne, Bool.false_eq_true, w0, w1, w2, b71 ht o4]
          · by_cases w4 : w = 4
            · subst w4
              simp only [x86_0, x86_1, x86_2, x86_5, x86_7, x86_9, x86_12, x86_14, x86_15, x86_16, x86_19, x86_20, x86_23, x86_25, x86_26, x86_60, x86_62, x86_65, x86_66, x86_69, x86_70, x86_72, x86_75, x86_76, x86_79, x86_80, x86_82, x86_85, x86_86, x86_89, x86_90, x86_92, x86_95, x86_96, x86_99, x86_100, x86_101, x86_104, x86_105, x86_107, pushO, List.length_cons, List.length_nil, Nat.reduceAdd, Nat.reduceLeDiff, Nat.le_refl, Nat.zero_le, isD_i, isD_r, isD_l, isD_n, if_true, if_false, ite_true, ite_false, reduceIte, e104, h1, sysF h, e53 (ysA h), strS hst, rowF hr, talF ht, staS (ysA h), bI_t, bI_f, i1_ne, Bool.false_eq_true, w0, w1, w2, w3, e106 (errA_0 h1).2]
            · simp only [x86_0, x86_1, x86_2, x86_5, x86_7, x86_9, x86_12, x86_14, x86_15, x86_16, x86_19, x86_20, x86_23, x86_25, x86_26, x86_60, x86_62, x86_65, x86_66, x86_69, x86_70, x86_72, x86_75, x86_76, x86_79, x86_80, x86_82, x86_85, x86_86, x86_89, x86_90, x86_92, x86_95, x86_96, x86_99, x86_100, x86_101, x86_104, x86_105, x86_107, pushO, List.length_cons, List.length_nil, Nat.reduceAdd, Nat.reduceLeDiff, Nat.le_refl, Nat.zero_le, isD_i, isD_r, isD_l, isD_n, if_true, if_false, ite_true, ite_false, reduceIte, e104, h1, sysF h, e53 (ysA h), strS hst, rowF hr, talF ht, staS (ysA h), bI_t, bI_f, i1_ne, Bool.false_eq_true, w0, w1, w2, w3, w4]
  · simp only [x86_0, x86_1, x86_2, x86_5, x86_7, x86_9, x86_12, x86_14, x86_15, x86_16, x86_19, x86_20, x86_23, x86_25, x86_26, x86_60, x86_62, x86_65, x86_66, x86_69, x86_70, x86_72, x86_75, x86_76, x86_79, x86_80, x86_82, x86_85, x86_86, x86_89, x86_90, x86_92, x86_95, x86_96, x86_99, x86_100, x86_101, x86_104, x86_105, x86_107, pushO, List.length_cons, List.length_nil, Nat.reduceAdd, Nat.reduceLeDiff, Nat.le_refl, Nat.zero_le, isD_i, isD_r, isD_l, isD_n, if_true, if_false, ite_true, ite_false, reduceIte, e104, h1]
def f87 (A : StaM) (s w : Int32) : Int32 := if isSt s = true then (if w = 0 then sN (stOf A s) else if w = 1 then nI (rT (sR (stOf A s))) else if w = 2 then nI (tN (sT (stOf A s))) else if w = 3 then mwsR (rC (sR (stOf A s))) (rS (sR (stOf A s))) (rT (sR (stOf A s))) else if w = 4 then fold (fun a k => a + rC (sR (stOf A s)) k) (rT (sR (stOf A s))) 0 0 else if w = 5 then fold (fun a k => if a < rE (sR (stOf A s)) k then rE (sR (stOf A s)) k else a) (rT (sR (stOf A s))) 0 0 else if w = 6 then sV (stOf A s) else -2) else -1
theorem e87 {s w : Int32} {x : Nat} {A : StaM} {pm : Nat → Nat} {sz : Nat} {S L : Nat → StaM} {u : Nat → Bool} {P : PadM} {O : OrdM} {J : RowM} {nn : Nat × Nat} {σ : Hp} {K : Option Value → Hp → Prop} (h : Sys x A pm sz S L u P O J nn σ) (ho : okSa A) : X 87 0 [.ref x, .int s, .int w, .null] [] σ K = K (some (.int (f87 A s w))) σ := by
  unfold f87
  have hst := staSt (ysA h) s
  have hr := strRow hst
  have ht := strTal hst
  obtain ⟨o1, o2, o3, o4⟩ := okSt_of ho s
  have o5 : rT (sR (stOf A s)) ≤ 24 := by omega
  have o6 : rS (sR (stOf A s)) ≤ 24 := by omega
  cases h1 : isSt s
  · simp only [x87_0, x87_1, x87_4, x87_7, x87_8, x87_9, x87_10, x87_13, x87_14, x87_17, x87_18, x87_19, x87_60, x87_61, x87_64, x87_65, x87_66, x87_69, x87_72, x87_73, x87_74, x87_77, x87_80, x87_81, x87_82, x87_85, x87_88, x87_89, x87_90, x87_93, x87_96, x87_97, x87_98, x87_101, x87_104, x87_105, x87_106, x87_109, x87_110, x87_112, pushO, List.length_cons, List.length_nil, Nat.reduceAdd, Nat.reduceLeDiff, Nat.le_refl, Nat.zero_le, isD_i, isD_r, isD_l, isD_n, if_true, if_false, ite_true, ite_false, reduceIte, e102, h1, sysF h, e53 (ysA h), strS hst, rowF hr, talF ht, staS (ysA h), bI_t, bI_f, i1_ne, Bool.false_eq_true]
  · by_cases w0 : w = 0
    · simp only [x87_0, x87_1, x87_4, x87_7, x87_8, x87_9, x87_10, x87_13, x87_14, x87_17, x87_18, x87_19, x87_60, x87_61, x87_64, x87_65, x87_66, x87_69, x87_72, x87_73, x87_74, x87_77, x87_80, x87_81, x87_82, x87_85, x87_88, x87_89, x87_90, x87_93, x87_96, x87_97, x87_98, x87_101, x87_104, x87_105, x87_106, x87_109, x87_110, x87_112, pushO, List.length_cons, List.length_nil, Nat.reduceAdd, Nat.reduceLeDiff, Nat.le_refl, Nat.zero_le, isD_i, isD_r, isD_l, isD_n, if_true, if_false, ite_true, ite_false, reduceIte, e102, h1, sysF h, e53 (ysA h), strS hst, rowF hr, talF ht, staS (ysA h), bI_t, bI_f, i1_ne, Bool.false_eq_true, w0]
    · by_cases w1 : w = 1
      · subst w1
        simp only [x87_0, x87_1, x87_4, x87_7, x87_8, x87_9, x87_10, x87_13, x87_14, x87_17, x87_18, x87_19, x87_60, x87_61, x87_64, x87_65, x87_66, x87_69, x87_72, x87_73, x87_74, x87_77, x87_80, x87_81, x87_82, x87_85, x87_88, x87_89, x87_90, x87_93, x87_96, x87_97, x87_98, x87_101, x87_104, x87_105, x87_106, x87_109, x87_110, x87_112, pushO, List.length_cons, List.length_nil, Nat.reduceAdd, Nat.reduceLeDiff, Nat.le_refl, Nat.zero_le, isD_i, isD_r, isD_l, isD_n, if_true, if_false, ite_true, ite_false, reduceIte, e102, h1, sysF h, e53 (ysA h), strS hst, rowF hr, talF ht, staS (ysA h), bI_t, bI_f, i1_ne, Bool.false_eq_true]
      · by_cases w2 : w = 2
        · subst w2
          simp only [x87_0, x87_1, x87_4, x87_7, x87_8, x87_9, x87_10, x87_13, x87_14, x87_17, x87_18, x87_19, x87_60, x87_61, x87_64, x87_65, x87_66, x87_69, x87_72, x87_73, x87_74, x87_77, x87_80, x87_81, x87_82, x87_85, x87_88, x87_89, x87_90, x87_93, x87_96, x87_97, x87_98, x87_101, x87_104, x87_105, x87_106, x87_109, x87_110, x87_112, pushO, List.length_cons, List.length_nil, Nat.reduceAdd, Nat.reduceLeDiff, Nat.le_refl, Nat.zero_le, isD_i, isD_r, isD_l, isD_n, if_true, if_false, ite_true, ite_false, reduceIte, e102, h1, sysF h, e53 (ysA h), strS hst, rowF hr, talF ht, staS (ysA h), bI_t, bI_f, i1_ne, Bool.false_eq_true, w0, w1]
        · by_cases w3 : w = 3
          · subst w3
            simp only [x87_0, x87_1, x87_4, x87_7, x87_8, x87_9, x87_10, x87_13, x87_14, x87_17, x87_18, x87_19, x87_60, x87_61, x87_64, x87_65, x87_66, x87_69, x87_72, x87_73, x87_74, x87_77, x87_80, x87_81, x87_82, x87_85, x87_88, x87_89, x87_90, x87_93, x87_96, x87_97, x87_98, x87_101, x87_104, x87_105, x87_106, x87_109, x87_110, x87_112, pushO, List.length_cons, List.length_nil, Nat.reduceAdd, Nat.reduceLeDiff, Nat.le_refl, Nat.zero_le, isD_i, isD_r, isD_l, isD_n, if_true, if_false, ite_true, ite_false, reduceIte, e102, h1, sysF h, e53 (ysA h), strS hst, rowF hr, talF ht, staS (ysA h), bI_t, bI_f, i1_ne, Bool.false_eq_true, w0, w1, w2, b29 hr o5 o6]
          · by_cases w4 : w = 4
            · subst w4
              simp only [x87_0, x87_1, x87_4, x87_7, x87_8, x87_9, x87_10, x87_13, x87_14, x87_17, x87_18, x87_19, x87_60, x87_61, x87_64, x87_65, x87_66, x87_69, x87_72, x87_73, x87_74, x87_77, x87_80, x87_81, x87_82, x87_85, x87_88, x87_89, x87_90, x87_93, x87_96, x87_97, x87_98, x87_101, x87_104, x87_105, x87_106, x87_109, x87_110, x87_112, pushO, List.length_cons, List.length_nil, Nat.reduceAdd, Nat.reduceLeDiff, Nat.le_refl, Nat.zero_le, isD_i, isD_r, isD_l, isD_n, if_true, if_false, ite_true, ite_false, reduceIte, e102, h1, sysF h, e53 (ysA h), strS hst, rowF hr, talF ht, staS (ysA h), bI_t, bI_f, i1_ne, Bool.false_eq_true, w0, w1, w2, w3, b30 hr o5]
            · by_cases w5 : w = 5
              · subst w5
                simp only [x87_0, x87_1, x87_4, x87_7, x87_8, x87_9, x87_10, x87_13, x87_14, x87_17, x87_18, x87_19, x87_60, x87_61, x87_64, x87_65, x87_66, x87_69, x87_72, x87_73, x87_74, x87_77, x87_80, x87_81, x87_82, x87_85, x87_88, x87_89, x87_90, x87_93, x87_96, x87_97, x87_98, x87_101, x87_104, x87_105, x87_106, x87_109, x87_110, x87_112, pushO, List.length_cons, List.length_nil, Nat.reduceAdd, Nat.reduceLeDiff, Nat.le_refl, Nat.zero_le, isD_i, isD_r, isD_l, isD_n, if_true, if_false, ite_true, ite_false, reduceIte, e102, h1, sysF h, e53 (ysA h), strS hst, rowF hr, talF ht, staS (ysA h), bI_t, bI_f, i1_ne, Bool.false_eq_true, w0, w1, w2, w3, w4, b31 hr o5]
              · by_cases w6 : w = 6
                · subst w6
                  simp only [x87_0, x87_1, x87_4, x87_7, x87_8, x87_9, x87_10, x87_13, x87_14, x87_17, x87_18, x87_19, x87_60, x87_61, x87_64, x87_65, x87_66, x87_69, x87_72, x87_73, x87_74, x87_77, x87_80, x87_81, x87_82, x87_85, x87_88, x87_89, x87_90, x87_93, x87_96, x87_97, x87_98, x87_101, x87_104, x87_105, x87_106, x87_109, x87_110, x87_112, pushO, List.length_cons, List.length_nil, Nat.reduceAdd, Nat.reduceLeDiff, Nat.le_refl, Nat.zero_le, isD_i, isD_r, isD_l, isD_n, if_true, if_false, ite_true, ite_false, reduceIte, e102, h1, sysF h, e53 (ysA h), strS hst, rowF hr, talF ht, staS (ysA h), bI_t, bI_f, i1_ne, Bool.false_eq_true, w0, w1, w2, w3, w4, w5]
                · simp only [x87_0, x87_1, x87_4, x87_7, x87_8, x87_9, x87_10, x87_13, x87_14, x87_17, x87_18, x87_19, x87_60, x87_61, x87_64, x87_65, x87_66, x87_69, x87_72, x87_73, x87_74, x87_77, x87_80, x87_81, x87_82, x87_85, x87_88, x87_89, x87_90, x87_93, x87_96, x87_97, x87_98, x87_101, x87_104, x87_105, x87_106, x87_109, x87_110, x87_112, pushO, List.length_cons, List.length_nil, Nat.reduceAdd, Nat.reduceLeDiff, Nat.le_refl, Nat.zero_le, isD_i, isD_r, isD_l, isD_n, if_true, if_false, ite_true, ite_false, reduceIte, e102, h1, sysF h, e53 (ysA h), strS hst, rowF hr, talF ht, staS (ysA h), bI_t, bI_f, i1_ne, Bool.false_eq_true, w0, w1, w2, w3, w4, w5, w6]
def f88 (A : StaM) (sz : Nat) (P : PadM) (w : Int32) : Int32 := if w = 0 then nI (rS (sR (aZ A))) else if w = 1 then nI P.2 else if w = 2 then nI sz else -2
theorem padF {r : Nat} {P : PadM} {σ : Hp} (h : padAt r P σ) : okO σ r 2 = true ∧ okF σ r 2 1 = true ∧ gF σ r 1 = .int (nI P.2) := by
  obtain ⟨p, n⟩ := P
  have q := padS h
  exact ⟨q.1, q.2.2.2.1, q.2.2.2.2.1⟩
theorem e88 {w : Int32} {x : Nat} {A : StaM} {pm : Nat → Nat} {sz : Nat} {S L : Nat → StaM} {u : Nat → Bool} {P : PadM} {O : OrdM} {J : RowM} {nn : Nat × Nat} {σ : Hp} {K : Option Value → Hp → Prop} (h : Sys x A pm sz S L u P O J nn σ) (ho : okSa A) : X 88 0 [.ref x, .int w] [] σ K = K (some (.int (f88 A sz P w))) σ := by
  unfold f88
  by_cases w0 : w = 0
  · simp only [x88_0, x88_1, x88_28, x88_29, x88_32, x88_35, x88_36, x88_37, x88_40, x88_43, x88_44, x88_45, x88_48, x88_51, x88_52, x88_54, pushO, List.length_cons, List.length_nil, Nat.reduceAdd, Nat.reduceLeDiff, Nat.le_refl, Nat.zero_le, isD_i, isD_r, isD_l, isD_n, if_true, if_false, ite_true, ite_false, reduceIte, sysF h, staS (ysA h), e54 (ysA h), w0]
  · by_cases w1 : w = 1
    · subst w1
      simp only [x88_0, x88_1, x88_28, x88_29, x88_32, x88_35, x88_36, x88_37, x88_40, x88_43, x88_44, x88_45, x88_48, x88_51, x88_52, x88_54, pushO, List.length_cons, List.length_nil, Nat.reduceAdd, Nat.reduceLeDiff, Nat.le_refl, Nat.zero_le, isD_i, isD_r, isD_l, isD_n, if_true, if_false, ite_true, ite_false, reduceIte, sysF h, padF (ysP h), w0]
    · by_cases w2 : w = 2
      · subst w2
        simp only [x88_0, x88_1, x88_28, x88_29, x88_32, x88_35, x88_36, x88_37, x88_40, x88_43, x88_44, x88_45, x88_48, x88_51, x88_52, x88_54, pushO, List.length_cons, List.length_nil, Nat.reduceAdd, Nat.reduceLeDiff, Nat.le_refl, Nat.zero_le, isD_i, isD_r, isD_l, isD_n, if_true, if_false, ite_true, ite_false, reduceIte, sysF h, hisS (ysH h), w0, w1]
      · simp only [x88_0, x88_1, x88_28, x88_29, x88_32, x88_35, x88_36, x88_37, x88_40, x88_43, x88_44, x88_45, x88_48, x88_51, x88_52, x88_54, pushO, List.length_cons, List.length_nil, Nat.reduceAdd, Nat.reduceLeDiff, Nat.le_refl, Nat.zero_le, isD_i, isD_r, isD_l, isD_n, if_true, if_false, ite_true, ite_false, reduceIte, w0, w1, w2]
def f89 (A : StaM) (s y w : Int32) : Int32 := if isSt s = true then (if y < 0 then -2 else if 100 < y then -2 else if w = 0 then nI (fold (fun a k => if y * sN (stOf A s) < 100 * (rC (sR (stOf A s)) k - rE (sR (stOf A s)) k) then a + 1 else a) (rT (sR (stOf A s))) 0 0) else if w = 1 then nI (fold (fun a k => if y * sN (stOf A s) < 100 * rC (sR (stOf A s)) k then a + 1 else a) (rT (sR (stOf A s))) 0 0) else if w = 2 then nI (fold (fun a k => if y * sN (stOf A s) < 100 * tC (sT (stOf A s)) k then a + 1 else a) (tN (sT (stOf A s))) 0 0) else -2) else -1
theorem e89 {s y w : Int32} {x : Nat} {A : StaM} {pm : Nat → Nat} {sz : Nat} {S L : Nat → StaM} {u : Nat → Bool} {P : PadM} {O : OrdM} {J : RowM} {nn : Nat × Nat} {σ : Hp} {K : Option Value → Hp → Prop} (h : Sys x A pm sz S L u P O J nn σ) (ho : okSa A) : X 89 0 [.ref x, .int s, .int y, .int w, .null, .null] [] σ K = K (some (.int (f89 A s y w))) σ := by
  unfold f89
  have hst := staSt (ysA h) s
  have hr := strRow hst
  have ht := strTal hst
  obtain ⟨o1, o2, o3, o4⟩ := okSt_of ho s
  have o5 : rT (sR (stOf A s)) ≤ 24 := by omega
  cases h1 : isSt s
  · simp only [x89_0, x89_1, x89_4, x89_7, x89_8, x89_9, x89_10, x89_13, x89_14, x89_16, x89_19, x89_21, x89_22, x89_23, x89_26, x89_27, x89_30, x89_32, x89_33, x89_35, x89_38, x89_39, x89_41, x89_42, x89_68, x89_70, x89_73, x89_75, x89_78, x89_79, x89_81, x89_84, x89_86, x89_89, x89_90, x89_92, x89_95, x89_97, x89_100, x89_101, x89_103, pushO, List.length_cons, List.length_nil, Nat.reduceAdd, Nat.reduceLeDiff, Nat.le_refl, Nat.zero_le, isD_i, isD_r, isD_l, isD_n, if_true, if_false, ite_true, ite_false, reduceIte, e102, h1, sysF h, e53 (ysA h), strS hst, rowF hr, talF ht, staS (ysA h), bI_t, bI_f, i1_ne, Bool.false_eq_true]
  · by_cases y0 : y < 0
    · simp only [x89_0, x89_1, x89_4, x89_7, x89_8, x89_9, x89_10, x89_13, x89_14, x89_16, x89_19, x89_21, x89_22, x89_23, x89_26, x89_27, x89_30, x89_32, x89_33, x89_35, x89_38, x89_39, x89_41, x89_42, x89_68, x89_70, x89_73, x89_75, x89_78, x89_79, x89_81, x89_84, x89_86, x89_89, x89_90, x89_92, x89_95, x89_97, x89_100, x89_101, x89_103, pushO, List.length_cons, List.length_nil, Nat.reduceAdd, Nat.reduceLeDiff, Nat.le_refl, Nat.zero_le, isD_i, isD_r, isD_l, isD_n, if_true, if_false, ite_true, ite_false, reduceIte, e102, h1, sysF h, e53 (ysA h), strS hst, rowF hr, talF ht, staS (ysA h), bI_t, bI_f, i1_ne, Bool.false_eq_true, y0]
    · by_cases y1 : 100 < y
      · simp only [x89_0, x89_1, x89_4, x89_7, x89_8, x89_9, x89_10, x89_13, x89_14, x89_16, x89_19, x89_21, x89_22, x89_23, x89_26, x89_27, x89_30, x89_32, x89_33, x89_35, x89_38, x89_39, x89_41, x89_42, x89_68, x89_70, x89_73, x89_75, x89_78, x89_79, x89_81, x89_84, x89_86, x89_89, x89_90, x89_92, x89_95, x89_97, x89_100, x89_101, x89_103, pushO, List.length_cons, List.length_nil, Nat.reduceAdd, Nat.reduceLeDiff, Nat.le_refl, Nat.zero_le, isD_i, isD_r, isD_l, isD_n, if_true, if_false, ite_true, ite_false, reduceIte, e102, h1, sysF h, e53 (ysA h), strS hst, rowF hr, talF ht, staS (ysA h), bI_t, bI_f, i1_ne, Bool.false_eq_true, y0, y1]
      · by_cases w0 : w = 0
        · simp only [x89_0, x89_1, x89_4, x89_7, x89_8, x89_9, x89_10, x89_13, x89_14, x89_16, x89_19, x89_21, x89_22, x89_23, x89_26, x89_27, x89_30, x89_32, x89_33, x89_35, x89_38, x89_39, x89_41, x89_42, x89_68, x89_70, x89_73, x89_75, x89_78, x89_79, x89_81, x89_84, x89_86, x89_89, x89_90, x89_92, x89_95, x89_97, x89_100, x89_101, x89_103, pushO, List.length_cons, List.length_nil, Nat.reduceAdd, Nat.reduceLeDiff, Nat.le_refl, Nat.zero_le, isD_i, isD_r, isD_l, isD_n, if_true, if_false, ite_true, ite_false, reduceIte, e102, h1, sysF h, e53 (ysA h), strS hst, rowF hr, talF ht, staS (ysA h), bI_t, bI_f, i1_ne, Bool.false_eq_true, y0, y1, w0, b32 hr o5]
        · by_cases w1 : w = 1
          · subst w1
            simp only [x89_0, x89_1, x89_4, x89_7, x89_8, x89_9, x89_10, x89_13, x89_14, x89_16, x89_19, x89_21, x89_22, x89_23, x89_26, x89_27, x89_30, x89_32, x89_33, x89_35, x89_38, x89_39, x89_41, x89_42, x89_68, x89_70, x89_73, x89_75, x89_78, x89_79, x89_81, x89_84, x89_86, x89_89, x89_90, x89_92, x89_95, x89_97, x89_100, x89_101, x89_103, pushO, List.length_cons, List.length_nil, Nat.reduceAdd, Nat.reduceLeDiff, Nat.le_refl, Nat.zero_le, isD_i, isD_r, isD_l, isD_n, if_true, if_false, ite_true, ite_false, reduceIte, e102, h1, sysF h, e53 (ysA h), strS hst, rowF hr, talF ht, staS (ysA h), bI_t, bI_f, i1_ne, Bool.false_eq_true, y0, y1, w0, b33 hr o5]
          · by_cases w2 : w = 2
            · subst w2
              simp only [x89_0, x89_1, x89_4, x89_7, x89_8, x89_9, x89_10, x89_13, x89_14, x89_16, x89_19, x89_21, x89_22, x89_23, x89_26, x89_27, x89_30, x89_32, x89_33, x89_35, x89_38, x89_39, x89_41, x89_42, x89_68, x89_70, x89_73, x89_75, x89_78, x89_79, x89_81, x89_84, x89_86, x89_89, x89_90, x89_92, x89_95, x89_97, x89_100, x89_101, x89_103, pushO, List.length_cons, List.length_nil, Nat.reduceAdd, Nat.reduceLeDiff, Nat.le_refl, Nat.zero_le, isD_i, isD_r, isD_l, isD_n, if_true, if_false, ite_true, ite_false, reduceIte, e102, h1, sysF h, e53 (ysA h), strS hst, rowF hr, talF ht, staS (ysA h), bI_t, bI_f, i1_ne, Bool.false_eq_true, y0, y1, w0, w1, b72 ht o4]
            · simp only [x89_0, x89_1, x89_4, x89_7, x89_8, x89_9, x89_10, x89_13, x89_14, x89_16, x89_19, x89_21, x89_22, x89_23, x89_26, x89_27, x89_30, x89_32, x89_33, x89_35, x89_38, x89_39, x89_41, x89_42, x89_68, x89_70, x89_73, x89_75, x89_78, x89_79, x89_81, x89_84, x89_86, x89_89, x89_90, x89_92, x89_95, x89_97, x89_100, x89_101, x89_103, pushO, List.length_cons, List.length_nil, Nat.reduceAdd, Nat.reduceLeDiff, Nat.le_refl, Nat.zero_le, isD_i, isD_r, isD_l, isD_n, if_true, if_false, ite_true, ite_false, reduceIte, e102, h1, sysF h, e53 (ysA h), strS hst, rowF hr, talF ht, staS (ysA h), bI_t, bI_f, i1_ne, Bool.false_eq_true, y0, y1, w0, w1, w2]
def f91 (A : StaM) (s i : Int32) : Int32 := if isSt s = true then (if in_ (tN (sT (stOf A s))) i = true then at_ (tG (sT (stOf A s))) (tN (sT (stOf A s))) i else -1) else -1
theorem e91 {s i : Int32} {x : Nat} {A : StaM} {pm : Nat → Nat} {sz : Nat} {S L : Nat → StaM} {u : Nat → Bool} {P : PadM} {O : OrdM} {J : RowM} {nn : Nat × Nat} {σ : Hp} {K : Option Value → Hp → Prop} (h : Sys x A pm sz S L u P O J nn σ) (ho : okSa A) : X 91 0 [.ref x, .int s, .int i, .null] [] σ K = K (some (.int (f91 A s i))) σ := by
  unfold f91
  have hst := staSt (ysA h) s
  have hr := strRow hst
  have ht := strTal hst
  obtain ⟨o1, o2, o3, o4⟩ := okSt_of ho s
  cases h1 : isSt s
  · simp only [x91_0, x91_1, x91_4, x91_7, x91_8, x91_9, x91_10, x91_13, x91_14, x91_17, x91_20, x91_21, x91_22, x91_23, x91_26, x91_29, x91_30, x91_31, x91_32, x91_33, x91_36, pushO, List.length_cons, List.length_nil, Nat.reduceAdd, Nat.reduceLeDiff, Nat.le_refl, Nat.zero_le, isD_i, isD_r, isD_l, isD_n, if_true, if_false, ite_true, ite_false, reduceIte, e102, h1, sysF h, e53 (ysA h), strS hst, rowF hr, talF ht, staS (ysA h), bI_t, bI_f, i1_ne, Bool.false_eq_true]
  · cases h2 : in_ (tN (sT (stOf A s))) i
    · simp only [x91_0, x91_1, x91_4, x91_7, x91_8, x91_9, x91_10, x91_13, x91_14, x91_17, x91_20, x91_21, x91_22, x91_23, x91_26, x91_29, x91_30, x91_31, x91_32, x91_33, x91_36, pushO, List.length_cons, List.length_nil, Nat.reduceAdd, Nat.reduceLeDiff, Nat.le_refl, Nat.zero_le, isD_i, isD_r, isD_l, isD_n, if_true, if_false, ite_true, ite_false, reduceIte, e102, h1, h2, sysF h, e53 (ysA h), strS hst, rowF hr, talF ht, staS (ysA h), bI_t, bI_f, i1_ne, Bool.false_eq_true, b67 ht o4]
    · simp only [x91_0, x91_1, x91_4, x91_7, x91_8, x91_9, x91_10, x91_13, x91_14, x91_17, x91_20, x91_21, x91_22, x91_23, x91_26, x91_29, x91_30, x91_31, x91_32, x91_33, x91_36, pushO, List.length_cons, List.length_nil, Nat.reduceAdd, Nat.reduceLeDiff, Nat.le_refl, Nat.zero_le, isD_i, isD_r, isD_l, isD_n, if_true, if_false, ite_true, ite_false, reduceIte, e102, h1, h2, sysF h, e53 (ysA h), strS hst, rowF hr, talF ht, staS (ysA h), bI_t, bI_f, i1_ne, Bool.false_eq_true, b67 ht o4, b68 ht o4]
def f93 (A : StaM) (s y : Int32) : Int32 := if errA s y = 0 then sefR (sR (stOf A s)) y else errA s y
theorem e93 {s y : Int32} {x : Nat} {A : StaM} {pm : Nat → Nat} {sz : Nat} {S L : Nat → StaM} {u : Nat → Bool} {P : PadM} {O : OrdM} {J : RowM} {nn : Nat × Nat} {σ : Hp} {K : Option Value → Hp → Prop} (h : Sys x A pm sz S L u P O J nn σ) (ho : okSa A) : X 93 0 [.ref x, .int s, .int y, .null] [] σ K = K (some (.int (f93 A s y))) σ := by
  unfold f93
  have hst := staSt (ysA h) s
  have hr := strRow hst
  have ht := strTal hst
  obtain ⟨o1, o2, o3, o4⟩ := okSt_of ho s
  have o5 : rT (sR (stOf A s)) ≤ 24 := by omega
  have o6 : rS (sR (stOf A s)) ≤ 24 := by omega
  by_cases h1 : errA s y = 0
  · simp only [x93_0, x93_1, x93_2, x93_5, x93_6, x93_7, x93_10, x93_11, x93_12, x93_13, x93_16, x93_17, x93_20, x93_23, x93_24, x93_27, pushO, List.length_cons, List.length_nil, Nat.reduceAdd, Nat.reduceLeDiff, Nat.le_refl, Nat.zero_le, isD_i, isD_r, isD_l, isD_n, if_true, if_false, ite_true, ite_false, reduceIte, e104, h1, sysF h, e53 (ysA h), strS hst, rowF hr, talF ht, staS (ysA h), bI_t, bI_f, i1_ne, Bool.false_eq_true, b34 hr o5 o6]
  · simp only [x93_0, x93_1, x93_2, x93_5, x93_6, x93_7, x93_10, x93_11, x93_12, x93_13, x93_16, x93_17, x93_20, x93_23, x93_24, x93_27, pushO, List.length_cons, List.length_nil, Nat.reduceAdd, Nat.reduceLeDiff, Nat.le_refl, Nat.zero_le, isD_i, isD_r, isD_l, isD_n, if_true, if_false, ite_true, ite_false, reduceIte, e104, h1]