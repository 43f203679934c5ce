/-! rows and tallies under any heap that holds them; streams -/
abbrev rG (ρ : RowM) : Nat → Int32 := ρ.1
abbrev rC (ρ : RowM) : Nat → Int32 := ρ.2.1
abbrev rE (ρ : RowM) : Nat → Int32 := ρ.2.2.1
abbrev rS (ρ : RowM) : Nat := ρ.2.2.2.1
abbrev rT (ρ : RowM) : Nat := ρ.2.2.2.2
abbrev tG (τ : TalM) : Nat → Int32 := τ.1
abbrev tC (τ : TalM) : Nat → Int32 := τ.2.1
abbrev tN (τ : TalM) : Nat := τ.2.2
def clrR (ρ : RowM) : RowM := (rG ρ, rC ρ, rE ρ, rS ρ, 0)
theorem a45 {r : Nat} {ρ : RowM} {σ : Hp} {K : Option Value → Hp → Prop} (h : rowAt r ρ σ) : X 45 0 [.ref r] [] σ K = K none (rowPut r (clrR ρ) σ) := by
  obtain ⟨g, c, e, s, t⟩ := ρ
  have := q45 (r := r) (g := g) (c := c) (e := e) (s := s) (t := t) (σ := σ) (K := K)
  rwa [rowPS h] at this
/-- a guest is served at the seat j: the answer, and the row then -/
def srvR (ρ : RowM) (j : Nat) (x y : Int32) : Bool × RowM := if j < rT ρ then (if rG ρ j = x then (false, rG ρ, upd (rC ρ) j (rC ρ j + y), rE ρ, rS ρ, rT ρ) else (true, upd (rG ρ) j x, upd (rC ρ) j (rC ρ j + y), upd (rE ρ) j (rC ρ j), rS ρ, rT ρ)) else (false, appR (rG ρ) (rC ρ) (rE ρ) (rS ρ) (rT ρ) x y 0)
theorem a41 {j : Nat} {x y : Int32} {r : Nat} {ρ : RowM} {σ : Hp} {K : Option Value → Hp → Prop} (h : rowAt r ρ σ) (ht : rT ρ ≤ 24) (hs : rS ρ ≤ 24) (hj : j ≤ rT ρ) : X 41 0 [.ref r, .int (nI j), .int x, .int y, .null] [] σ K = K (some (.int (bI (srvR ρ j x y).1))) (rowPut r (srvR ρ j x y).2 σ) := by
  obtain ⟨g, c, e, s, t⟩ := ρ
  unfold srvR
  by_cases hjt : j < t
  · have := q41a (r := r) (g := g) (c := c) (e := e) (s := s) (t := t) (σ := σ) (K := K) (k := j) (x := x) (y := y) ht hjt isD_n
    rw [rowPS h] at this
    rw [this]
    by_cases h1 : g j = x
    · simp only [rG, rC, rE, rS, rT, h1, hjt, if_true, bI_f]
    · simp only [rG, rC, rE, rS, rT, h1, hjt, if_true, if_false, bI_t]
  · have ej : j = t := Nat.le_antisymm hj (Nat.le_of_not_lt hjt)
    subst ej
    have := q41b (r := r) (g := g) (c := c) (e := e) (s := s) (t := j) (σ := σ) (K := K) (x := x) (y := y) (w := .null) ht hs
    rw [rowPS h] at this
    rw [this]
    simp only [rG, rC, rE, rS, rT, Nat.lt_irrefl, if_false, bI_f]
/-- a guest is joined to a row that stands in the order of weight -/
def ibwR (ρ : RowM) (x y z : Int32) : RowM := ((insF (rT ρ) (upd (rG ρ) (rT ρ) x, upd (rC ρ) (rT ρ) y, upd (rE ρ) (rT ρ) z)).1, (insF (rT ρ) (upd (rG ρ) (rT ρ) x, upd (rC ρ) (rT ρ) y, upd (rE ρ) (rT ρ) z)).2.1, (insF (rT ρ) (upd (rG ρ) (rT ρ) x, upd (rC ρ) (rT ρ) y, upd (rE ρ) (rT ρ) z)).2.2, rS ρ, rT ρ + 1)
theorem a43 {x y z : Int32} {r : Nat} {ρ : RowM} {σ : Hp} {K : Option Value → Hp → Prop} (h : rowAt r ρ σ) (hs : rS ρ ≤ 24) (ht : rT ρ < rS ρ) : X 43 0 [.ref r, .int x, .int y, .int z, .null] [] σ K = K none (rowPut r (ibwR ρ x y z) σ) := by
  obtain ⟨g, c, e, s, t⟩ := ρ
  have := q43 (r := r) (g := g) (c := c) (e := e) (s := s) (t := t) (σ := σ) (K := K) (x := x) (y := y) (z := z) hs ht
  rwa [rowPS h] at this
def rplR (ρ ρ2 : RowM) : RowM := (cpN (rG ρ2) (rG ρ) (min (rS ρ) (rT ρ2)) 0, cpN (rC ρ2) (rC ρ) (min (rS ρ) (rT ρ2)) 0, cpN (rE ρ2) (rE ρ) (min (rS ρ) (rT ρ2)) 0, rS ρ, min (rS ρ) (rT ρ2))
theorem a46 {q : Nat} {ρ2 : RowM} {r : Nat} {ρ : RowM} {σ : Hp} {K : Option Value → Hp → Prop} (h : rowAt r ρ σ) (h2 : rowAt q ρ2 σ) (hq : q + 4 ≤ r ∨ r + 4 ≤ q) (hs : rS ρ ≤ 24) (ht2 : rT ρ2 ≤ 24) : X 46 0 [.ref r, .ref q, .null] [] σ K = K none (rowPut r (rplR ρ ρ2) σ) := by
  obtain ⟨g, c, e, s, t⟩ := ρ
  obtain ⟨g2, c2, e2, s2, t2⟩ := ρ2
  have := q46 (r := r) (g := g) (c := c) (e := e) (s := s) (t := t) (σ := σ) (K := K) h2 hq hs ht2
  rwa [rowPS h] at this
def chgR (ρ : RowM) (m : Nat) : RowM := ((chgF (rT ρ - m) (rG ρ) (rC ρ) (rE ρ) (rT ρ)).1, (chgF (rT ρ - m) (rG ρ) (rC ρ) (rE ρ) (rT ρ)).2.1, (chgF (rT ρ - m) (rG ρ) (rC ρ) (rE ρ) (rT ρ)).2.2, m, rT ρ - (rT ρ - m))
theorem a47 {m : Nat} {r : Nat} {ρ : RowM} {σ : Hp} {K : Option Value → Hp → Prop} (h : rowAt r ρ σ) (hm : m ≤ 24) (ht : rT ρ ≤ 24) : X 47 0 [.ref r, .int (nI m), .null] [] σ K = K none (rowPut r (chgR ρ m) σ) := by
  obtain ⟨g, c, e, s, t⟩ := ρ
  have := q47 (r := r) (g := g) (c := c) (e := e) (s := s) (t := t) (σ := σ) (K := K) hm ht
  rwa [rowPS h] at this
def halR (ρ : RowM) : RowM := halF (rS ρ) (rT ρ) 0 (rG ρ) (rC ρ) (rE ρ) 0
theorem a49 {r : Nat} {ρ : RowM} {σ : Hp} {K : Option Value → Hp → Prop} (h : rowAt r ρ σ) (hs : rS ρ ≤ 24) (ht : rT ρ ≤ rS ρ) : X 49 0 [.ref r, .null, .null] [] σ K = K none (rowPut r (halR ρ) σ) := by
  obtain ⟨g, c, e, s, t⟩ := ρ
  have := q49 (r := r) (g := g) (c := c) (e := e) (s := s) (t := t) (σ := σ) (K := K) hs ht
  rwa [rowPS h] at this
theorem b22 {i : Int32} {r : Nat} {ρ : RowM} {σ : Hp} {K : Option Value → Hp → Prop} (h : rowAt r ρ σ) (ht : rT ρ ≤ 24) : X 22 0 [.ref r, .int i] [] σ K = K (some (.int (at_ (rG ρ) (rT ρ) i))) σ := by
  obtain ⟨g, c, e, s, t⟩ := ρ
  exact e22 h ht
theorem b23 {i : Int32} {r : Nat} {ρ : RowM} {σ : Hp} {K : Option Value → Hp → Prop} (h : rowAt r ρ σ) (ht : rT ρ ≤ 24) : X 23 0 [.ref r, .int i] [] σ K = K (some (.int (at_ (rC ρ) (rT ρ) i))) σ := by
  obtain ⟨g, c, e, s, t⟩ := ρ
  exact e23 h ht
theorem b24 {i : Int32} {r : Nat} {ρ : RowM} {σ : Hp} {K : Option Value → Hp → Prop} (h : rowAt r ρ σ) (ht : rT ρ ≤ 24) : X 24 0 [.ref r, .int i] [] σ K = K (some (.int (at_ (rE ρ) (rT ρ) i))) σ := by
  obtain ⟨g, c, e, s, t⟩ := ρ
  exact e24 h ht
theorem b21 {i : Int32} {r : Nat} {ρ : RowM} {σ : Hp} {K : Option Value → Hp → Prop} (h : rowAt r ρ σ) (ht : rT ρ ≤ 24) : X 21 0 [.ref r, .int i] [] σ K = K (some (.int (bI (in_ (rT ρ) i)))) σ := by
  obtain ⟨g, c, e, s, t⟩ := ρ
  exact e21 h ht
theorem b25 {x : Int32} {r : Nat} {ρ : RowM} {σ : Hp} {K : Option Value → Hp → Prop} (h : rowAt r ρ σ) (ht : rT ρ ≤ 24) : X 25 0 [.ref r, .int x, .null] [] σ K = K (some (.int (seatOfR (rG ρ) (rT ρ) x))) σ := by
  obtain ⟨g, c, e, s, t⟩ := ρ
  exact e25 h ht
abbrev mosR (ρ : RowM) (x : Int32) : Int32 := mostR (rG ρ) (rC ρ) (rS ρ) (rT ρ) x
abbrev lesR (ρ : RowM) (x : Int32) : Int32 := leastAtR (rC ρ) (rE ρ) (rT ρ) (seatOfR (rG ρ) (rT ρ) x)
theorem b26 {x : Int32} {r : Nat} {ρ : RowM} {σ : Hp} {K : Option Value → Hp → Prop} (h : rowAt r ρ σ) (ht : rT ρ ≤ 24) (hs : rS ρ ≤ 24) : X 26 0 [.ref r, .int x, .null] [] σ K = K (some (.int (mosR ρ x))) σ := by
  obtain ⟨g, c, e, s, t⟩ := ρ
  exact e26 h ht hs
theorem b27 {x : Int32} {r : Nat} {ρ : RowM} {σ : Hp} {K : Option Value → Hp → Prop} (h : rowAt r ρ σ) (ht : rT ρ ≤ 24) : X 27 0 [.ref r, .int x] [] σ K = K (some (.int (lesR ρ x))) σ := by
  obtain ⟨g, c, e, s, t⟩ := ρ
  exact e27 h ht
abbrev sefR (ρ : RowM) (x : Int32) : Int32 := seatForR (rG ρ) (rC ρ) (rE ρ) (rS ρ) (rT ρ) x
theorem b34 {x : Int32} {r : Nat} {ρ : RowM} {σ : Hp} {K : Option Value → Hp → Prop} (h : rowAt r ρ σ) (ht : rT ρ ≤ 24) (hs : rS ρ ≤ 24) : X 34 0 [.ref r, .int x, .null] [] σ K = K (some (.int (sefR ρ x))) σ := by
  obtain ⟨g, c, e, s, t⟩ := ρ
  exact e34 h ht hs
theorem b68 {i : Int32} {r : Nat} {τ : TalM} {σ : Hp} {K : Option Value → Hp → Prop} (h : talAt r τ σ) (hn : tN τ ≤ 60) : X 68 0 [.ref r, .int i] [] σ K = K (some (.int (at_ (tG τ) (tN τ) i))) σ := by
  obtain ⟨g, c, n⟩ := τ
  exact e68 h hn
theorem b69 {i : Int32} {r : Nat} {τ : TalM} {σ : Hp} {K : Option Value → Hp → Prop} (h : talAt r τ σ) (hn : tN τ ≤ 60) : X 69 0 [.ref r, .int i] [] σ K = K (some (.int (at_ (tC τ) (tN τ) i))) σ := by
  obtain ⟨g, c, n⟩ := τ
  exact e69 h hn
theorem b70 {x : Int32} {r : Nat} {τ : TalM} {σ : Hp} {K : Option Value → Hp → Prop} (h : talAt r τ σ) (hn : tN τ ≤ 60) : X 70 0 [.ref r, .int x, .null] [] σ K = K (some (.int (seatOfR (tG τ) (tN τ) x))) σ := by
  obtain ⟨g, c, n⟩ := τ
  exact e70 h hn
def unlT (τ τ2 : TalM) : Nat := fold (fun a k => if seatOfR (tG τ) (tN τ) (tG τ2 k) = -6 then a + 1 else a) (tN τ2) 0 (tN τ)
theorem b73 {q : Nat} {τ2 : TalM} {r : Nat} {τ : TalM} {σ : Hp} {K : Option Value → Hp → Prop} (h : talAt r τ σ) (hn : tN τ ≤ 60) (h2 : talAt q τ2 σ) (hn2 : tN τ2 ≤ 60) : X 73 0 [.ref r, .ref q, .null, .null] [] σ K = K (some (.int (nI (unlT τ τ2)))) σ := by
  obtain ⟨g, c, n⟩ := τ
  obtain ⟨g2, c2, n2⟩ := τ2
  exact e73 h hn h2 hn2
def clrT (τ : TalM) : TalM := (tG τ, tC τ, 0)
theorem a78 {r : Nat} {τ : TalM} {σ : Hp} {K : Option Value → Hp → Prop} (h : talAt r τ σ) : X 78 0 [.ref r] [] σ K = K none (talPut r (clrT τ) σ) := by
  obtain ⟨g, c, n⟩ := τ
  have := q78 (r := r) (g := g) (c := c) (n := n) (σ := σ) (K := K)
  rwa [talPS h] at this
abbrev adT (τ : TalM) (x y : Int32) : TalM := addT (tG τ) (tC τ) (tN τ) x y
theorem a74 {x y : Int32} {r : Nat} {τ : TalM} {σ : Hp} {K : Option Value → Hp → Prop} (h : talAt r τ σ) (hn : tN τ ≤ 60) (hc : seatO (tG τ) (tN τ) x = none → tN τ < 60) : X 74 0 [.ref r, .int x, .int y, .null] [] σ K = K none (talPut r (adT τ x y) σ) := by
  obtain ⟨g, c, n⟩ := τ
  have := q74 (r := r) (g := g) (c := c) (n := n) (σ := σ) (K := K) (x := x) (y := y) hn hc
  rwa [talPS h] at this
theorem a75 {q : Nat} {τ2 : TalM} {r : Nat} {τ : TalM} {σ : Hp} {K : Option Value → Hp → Prop} (h : talAt r τ σ) (h2 : talAt q τ2 σ) (hq : q + 3 ≤ r ∨ r + 3 ≤ q) (hn2 : tN τ2 ≤ 60) (ho : aaOK (tG τ2) (tC τ2) (tN τ2) 0 τ) : X 75 0 [.ref r, .ref q, .null] [] σ K = K none (talPut r (aaF (tG τ2) (tC τ2) (tN τ2) 0 τ) σ) := by
  obtain ⟨g, c, n⟩ := τ
  obtain ⟨g2, c2, n2⟩ := τ2
  have := q75 (r := r) (g := g) (c := c) (n := n) (σ := σ) (K := K) h2 hq hn2 ho
  rwa [talPS h] at this
def halT (τ : TalM) : TalM := thF (tN τ) 0 (tG τ) (tC τ) 0
theorem a79 {r : Nat} {τ : TalM} {σ : Hp} {K : Option Value → Hp → Prop} (h : talAt r τ σ) (hn : tN τ ≤ 60) : X 79 0 [.ref r, .null, .null] [] σ K = K none (talPut r (halT τ) σ) := by
  obtain ⟨g, c, n⟩ := τ
  have := q79 (r := r) (g := g) (c := c) (n := n) (σ := σ) (K := K) hn
  rwa [talPS h] at this
theorem pC_row {r a b : Nat} {f g : Nat → Int32} {σ : Hp} (h : σ.1 a = some (.inr (.inl (0, 24, f)))) (h2 : σ.1 b = some (.inr (.inl (0, 24, g)))) : okC σ a 0 b 0 24 = true ∧ pC σ a 0 b 0 24 = hset σ b (.inr (.inl (0, 24, f))) := ⟨(okC_ar h h2).trans (by decide +kernel), pC_ar (by decide +kernel) h h2⟩
theorem pC_tal {r a b : Nat} {f g : Nat → Int32} {σ : Hp} (h : σ.1 a = some (.inr (.inl (0, 60, f)))) (h2 : σ.1 b = some (.inr (.inl (0, 60, g)))) : okC σ a 0 b 0 60 = true ∧ pC σ a 0 b 0 60 = hset σ b (.inr (.inl (0, 60, f))) := ⟨(okC_ar h h2).trans (by decide +kernel), pC_ar (by decide +kernel) h h2⟩
theorem a20 {q : Nat} {ρ2 : RowM} {r : Nat} {ρ : RowM} {σ : Hp} {K : Option Value → Hp → Prop} (h : rowAt r ρ σ) (h2 : rowAt q ρ2 σ) (hq : q + 4 ≤ r ∨ r + 4 ≤ q) : X 20 0 [.ref r, .ref q] [] σ K = K none (rowPut r ρ2 σ) := by
  obtain ⟨g, c, e, s, t⟩ := ρ
  obtain ⟨g2, c2, e2, s2, t2⟩ := ρ2
  have hq0 : rowAt q (g2, c2, e2, s2, t2) (rowPut r (g, c, e, s, t) σ) := rowOff h2 hq
  have hq1 : rowAt q (g2, c2, e2, s2, t2) (rowPut r (g2, c, e, s, t) σ) := rowOff h2 hq
  have hq2 : rowAt q (g2, c2, e2, s2, t2) (rowPut r (g2, c2, e, s, t) σ) := rowOff h2 hq
  have hq3 : rowAt q (g2, c2, e2, s2, t2) (rowPut r (g2, c2, e2, s, t) σ) := rowOff h2 hq
  have hq4 : rowAt q (g2, c2, e2, s2, t2) (rowPut r (g2, c2, e2, s2, t) σ) := rowOff h2 hq
  have p1 := pC_row (r := 0) (row_1 hq0) (row_1 (rowAP (r := r) (ρ := (g, c, e, s, t)) (σ := σ)))
  have p2 := pC_row (r := 0) (row_2 hq1) (row_2 (rowAP (r := r) (ρ := (g2, c, e, s, t)) (σ := σ)))
  have p3 := pC_row (r := 0) (row_3 hq2) (row_3 (rowAP (r := r) (ρ := (g2, c2, e, s, t)) (σ := σ)))
  have key : X 20 0 [.ref r, .ref q] [] (rowPut r (g, c, e, s, t) σ) K = K none (rowPut r (g2, c2, e2, s2, t2) σ) := by
    simp only [x20_0, x20_1, x20_4, x20_5, x20_6, x20_9, x20_10, x20_11, x20_14, x20_15, x20_18, x20_19, x20_22, x20_23, x20_24, x20_27, x20_28, x20_29, x20_32, x20_33, x20_36, x20_37, x20_40, x20_41, x20_42, x20_45, x20_46, x20_47, x20_50, x20_51, x20_54, x20_55, x20_56, x20_59, x20_62, x20_63, x20_64, x20_67, x20_70, pushO, List.length_cons, List.length_nil, Nat.reduceAdd, Nat.reduceLeDiff, Nat.le_refl, Nat.zero_le, isD_i, isD_r, isD_l, isD_n, if_true, if_false, ite_true, ite_false, reduceIte, rowQ, rowS hq0, rowS hq1, rowS hq2, rowS hq3, rowS hq4, p1, p2, p3, rowH1, rowH2, rowH3]
  rwa [rowPS h] at key
theorem a66 {q : Nat} {τ2 : TalM} {r : Nat} {τ : TalM} {σ : Hp} {K : Option Value → Hp → Prop} (h : talAt r τ σ) (h2 : talAt q τ2 σ) (hq : q + 3 ≤ r ∨ r + 3 ≤ q) : X 66 0 [.ref r, .ref q] [] σ K = K none (talPut r τ2 σ) := by
  obtain ⟨g, c, n⟩ := τ
  obtain ⟨g2, c2, n2⟩ := τ2
  have hq0 : talAt q (g2, c2, n2) (talPut r (g, c, n) σ) := talOff h2 hq
  have hq1 : talAt q (g2, c2, n2) (talPut r (g2, c, n) σ) := talOff h2 hq
  have hq2 : talAt q (g2, c2, n2) (talPut r (g2, c2, n) σ) := talOff h2 hq
  have p1 := pC_tal (r := 0) (tal_1 hq0) (tal_1 (talAP (r := r) (ρ := (g, c, n)) (σ := σ)))
  have p2 := pC_tal (r := 0) (tal_2 hq1) (tal_2 (talAP (r := r) (ρ := (g2, c, n)) (σ := σ)))
  have key : X 66 0 [.ref r, .ref q] [] (talPut r (g, c, n) σ) K = K none (talPut r (g2, c2, n2) σ) := by
    simp only [x66_0, x66_1, x66_4, x66_5, x66_6, x66_9, x66_10, x66_11, x66_14, x66_15, x66_18, x66_19, x66_22, x66_23, x66_24, x66_27, x66_28, x66_29, x66_32, x66_33, x66_36, x66_37, x66_38, x66_41, x66_44, pushO, List.length_cons, List.length_nil, Nat.reduceAdd, Nat.reduceLeDiff, Nat.le_refl, Nat.zero_le, isD_i, isD_r, isD_l, isD_n, if_true, if_false, ite_true, ite_false, reduceIte, talQ, talS hq0, talS hq1, talS hq2, p1, p2, talH1, talH2]
  rwa [talPS h] at key
