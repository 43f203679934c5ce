theorem arrI_in : (Cond.arrayClass FieldType.int) ∈ lw_tbl := List.mem_of_getElem? (i := 66) (by decide +kernel)
theorem arrS_in : (Cond.arrayOver (.object RX5)) ∈ lw_tbl := List.mem_of_getElem? (i := 119) (by decide +kernel)
theorem arrL_in : (Cond.arrayOver (.object RX4)) ∈ lw_tbl := List.mem_of_getElem? (i := 130) (by decide +kernel)
def isHp : Instr → Bool
  | .getfield _ | .putfield _ | .iaload | .aaload | .iastore | .aastore | .arraylength | .new _ | .newarray _ | .anewarray _ => true
  | _ => false
theorem beq_or {k a b : Nat} (h : (Nat.beq k a || Nat.beq k b) = true) : k = a ∨ k = b := by
  rw [Bool.or_eq_true] at h
  exact h.imp Nat.eq_of_beq_eq_true Nat.eq_of_beq_eq_true
theorem okF_inv {σ : Hp} {a ci k : Nat} (h : okF σ a ci k = true) : ∃ fs, σ.1 a = some (.inl (ci, fs)) ∧ k < fs.length ∧ gF σ a k = fs.getD k .null ∧ ∀ v, pF σ a k v = hset σ a (.inl (ci, fs.set k v)) := by
  unfold okF at h
  split at h
  · rename_i ci' fs he
    rw [Bool.and_eq_true] at h
    have e1 : ci' = ci := Nat.eq_of_beq_eq_true h.1
    subst e1
    exact ⟨fs, he, of_decide_eq_true h.2, by unfold gF; rw [he], fun v => by unfold pF; rw [he]⟩
  · cases h
theorem okO_inv {σ : Hp} {a ci : Nat} (h : okO σ a ci = true) : ∃ fs, σ.1 a = some (.inl (ci, fs)) := by
  unfold okO at h
  split at h
  · rename_i ci' fs he
    have e1 : ci' = ci := Nat.eq_of_beq_eq_true h
    subst e1
    exact ⟨fs, he⟩
  · cases h
theorem okB_inv {σ : Hp} {t a : Nat} {i : Int32} (h : okB σ t a i = true) : ∃ n f, σ.1 a = some (.inr (.inl (t, n, f))) ∧ vp_in i n ∧ gA σ a i = f i.toNatClampNeg ∧ ∀ x, pA σ a i x = hset σ a (.inr (.inl (t, n, upd f i.toNatClampNeg x))) := by
  unfold okB at h
  split at h
  · rename_i t' n f he
    rw [Bool.and_eq_true] at h
    have e1 : t' = t := Nat.eq_of_beq_eq_true h.1
    subst e1
    exact ⟨n, f, he, inB_in h.2, by unfold gA; rw [he], fun v => by unfold pA; rw [he]⟩
  · cases h
theorem okA_inv {σ : Hp} {t a : Nat} {i : Int32} (h : okA σ t a i = true) : okB σ t a i = true ∨ (t = 0 ∧ ∃ n f, σ.1 a = some (.inr (.inr (.inr (n, f)))) ∧ vp_in i n ∧ gA σ a i = f i.toNatClampNeg) := by
  unfold okA at h
  split at h
  · rename_i t' n f he
    left
    unfold okB
    rw [he]
    exact h
  · rename_i n f he
    rw [Bool.and_eq_true] at h
    exact Or.inr ⟨Nat.eq_of_beq_eq_true h.1, n, f, he, inB_in h.2, by unfold gA; rw [he]⟩
  · cases h
section STEPH
variable {p : Program} {l : Launch} {e : Env} {R : Room} {s : State} {m : MethodId} {args : Array Value} {below : List Frame} {meth : Method} {c : Code} {H : Heap} {locs : List Loc} {cells slots : Nat} {Q : State → Prop}
variable {y pc pc1 : Nat} {D : va_G} {cA : Nat → ClassId} {lo : Nat} {ls ls1 st st1 : List Value} {σ σ1 : Hp} {sl : Array Slot} {c0 s0 : Nat}
set_option maxHeartbeats 4000000 in
theorem stp_heap (C : Cx p R s m args meth c y D cA lo) {i : Instr} (hi : ins y pc = some i) (h : stpI y pc i ls st σ = some (.inl (pc1, ls1, st1, σ1))) (hz : isHp i = true)
    (hR : Rp D cA lo σ s H) (hS : va_S (fun q => lo ≤ q) s.heap H locs) (hcap : Lft σ1 c0 s0 R) (hc0 : c0 ≤ σ.2.1 ∧ s0 ≤ σ.2.2) (hcs : cells = σ.2.1 - c0 ∧ slots = σ.2.2 - s0)
    (kk : ls1 = ls → ∀ (H1 : Heap) (locs1 : List Loc) (cells1 slots1 : Nat), Rp D cA lo σ1 s H1 → va_S (fun q => lo ≤ q) s.heap H1 locs1 → cells1 = σ1.2.1 - c0 → slots1 = σ1.2.2 - s0 → W p l e R s m args below meth c H1 locs1 cells1 slots1 Q (F0 m pc1 sl st1)) :
    W p l e R s m args below meth c H locs cells slots Q (F0 m pc sl st) := by
  obtain ⟨hx, hb, hml, hown, hts, hK, hnm, hlo, hF, hW⟩ := C
  have hd := ins_dec1 hi
  have htU : ∀ w ∈ lw_U, w.before args s = true := fun w hw => hts w (List.mem_filter.mp hw).1 (by unfold okW; rw [(List.mem_filter.mp hw).2]; rfl)
  have hK0 := hK.2 0 (cA 0, .int) rfl
  have hK2 := hK.2 2 (cA 2, .object (cNm (elC 2))) rfl
  have hK3 := hK.2 3 (cA 3, .object (cNm (elC 3))) rfl
  cases i <;> first | (exact absurd hz (by decide)) | (exact absurd hz Bool.false_ne_true) | skip
  case getfield idx =>
    simp only [stpI] at h
    split at h
    · rename_i k ci f v0 a r hlk
      split at h
      · rename_i hc
        simp only [Bool.and_eq_true, decide_eq_true_eq] at hc
        obtain ⟨⟨hk, hf⟩, ho⟩ := hc
        cases h
        obtain ⟨fs, e1, e2, e3, -⟩ := okF_inv ho
        have hat := (hR.1 a _ e1).2
        obtain ⟨rr, hcl, -⟩ := id hat
        obtain ⟨er, o1, o2, o3, o4, -⟩ := cok hcl
        subst er
        have hv : fs[f]? = some (gF σ a f) := by rw [e3, List.getD_eq_getElem?_getD, List.getElem?_eq_getElem e2]; rfl
        have hsame : ∀ x, s.fieldFound? (cT ci f).1 (cT ci f).2.1 (cT ci f).2.2.1 = some x → s.fieldFound? (cNm ci) (cT ci f).2.1 (cT ci f).2.2.1 = some x := fun x hx => by rw [← o4 f hf]; exact hx
        rcases beq_or hk with rfl | rfl
        · have hw := lcs_in (lk_in hlk) (.fieldLink (cNm (mO y)) idx (cNm ci) (cT ci f).2.1 (cT ci f).2.2.1) (by simp [lcs])
          exact va_get hx hb htU o1 hown hK (sa_one hat) 0 rfl hcl f hf (hts _ hw.1 hw.2) hsame hv (hd rfl) (kk rfl H locs cells slots hR hS hcs.1 hcs.2)
        · have hw := lcs_in (lk_in hlk) (.fieldLinkNest (cNm (mO y)) idx (cNm ci) (cT ci f).2.1 (cT ci f).2.2.1 hostC) (by simp [lcs])
          exact va_getN hx hb htU o1 hown hK (sa_one hat) 0 rfl hcl f hf (hts _ hw.1 hw.2) hsame hv (hd rfl) (kk rfl H locs cells slots hR hS hcs.1 hcs.2)
      · cases h
    · cases h
  case putfield idx =>
    simp only [stpI] at h
    split at h
    · rename_i k ci f v0 v a r hlk
      split at h
      · rename_i hc
        simp only [Bool.and_eq_true, decide_eq_true_eq, Bool.or_eq_true, Bool.not_eq_true'] at hc
        obtain ⟨⟨⟨⟨hk, hf⟩, ho⟩, hv⟩, hfin⟩ := hc
        cases h
        obtain ⟨fs, e1, e2, -, e3⟩ := okF_inv ho
        have hat := (hR.1 a _ e1)
        obtain ⟨rr, hcl, -⟩ := id hat.2
        obtain ⟨er, o1, o2, o3, o4, -⟩ := cok hcl
        subst er
        have hsame : ∀ x, s.fieldFound? (cT ci f).1 (cT ci f).2.1 (cT ci f).2.2.1 = some x → s.fieldFound? (cNm ci) (cT ci f).2.1 (cT ci f).2.2.1 = some x := fun x hx => by rw [← o4 f hf]; exact hx
        obtain ⟨v1, v2⟩ := okV_spec hv
        have hk : k = 10 ∨ k = 11 := hk.imp Nat.eq_of_beq_eq_true Nat.eq_of_beq_eq_true
        have fin : ∀ (H1 : Heap) (locs1 : List Loc), va_at D vcl (a, .inr (ci, fs.set f v)) H1 → H1.size = H.size → (∀ q : Nat, q ≠ a → H1[q]? = H[q]?) → va_S (fun q => lo ≤ q) s.heap H1 locs1 → W p l e R s m args below meth c H1 locs1 cells slots Q (F0 m (pc + 3) sl st1) := by
          intro H1 locs1 a1 a2 a3 a4
          refine kk rfl H1 locs1 cells slots ?_ a4 ?_ ?_
          · rw [e3]
            exact hR.set ⟨hat.1, a1⟩ a2 a3
          · rw [e3]; exact hcs.1
          · rw [e3]; exact hcs.2
        rcases hk with rfl | rfl
        · have hw := lcs_in (lk_in hlk) (.fieldLink (cNm (mO y)) idx (cNm ci) (cT ci f).2.1 (cT ci f).2.2.1) (by simp [lcs])
          refine sa_put (host := hostC) hx hb htU o1 (cY ci) o2 o3 hown hK hS hat.2 hat.1 hcl f hf (Or.inl ⟨hts _ hw.1 hw.2, ?_⟩) hsame (o2 f hf) v1 v2 e2 (hd rfl) fin
          rcases hfin with hfin | ⟨⟨-, hfin⟩, hci⟩
          · exact Or.inl hfin
          · by_cases hff : (cT ci f).2.2.2 = true
            · have hci : mO y = ci := Nat.eq_of_beq_eq_true hci
              exact Or.inr ⟨hff, hnm.trans hfin, by rw [o4 f hf, hci]⟩
            · exact Or.inl (by simpa using hff)
        · have hw := lcs_in (lk_in hlk) (.fieldLinkNest (cNm (mO y)) idx (cNm ci) (cT ci f).2.1 (cT ci f).2.2.1 hostC) (by simp [lcs])
          refine sa_put (host := hostC) hx hb htU o1 (cY ci) o2 o3 hown hK hS hat.2 hat.1 hcl f hf (Or.inr ⟨hts _ hw.1 hw.2, ?_⟩) hsame (o2 f hf) v1 v2 e2 (hd rfl) fin
          rcases hfin with hfin | ⟨⟨hfin, -⟩, -⟩
          · exact hfin
          · exact absurd (Nat.eq_of_beq_eq_true hfin) (by decide)
      · cases h
    · cases h
  case iaload =>
    simp only [stpI] at h
    split at h
    · rename_i j a r
      split at h
      · rename_i ho
        cases h
        rcases okA_inv ho with ho | ⟨-, n, f, e1, e2, e3⟩
        · obtain ⟨n, f, e1, e2, e3, -⟩ := okB_inv ho
          have hat := (hR.1 a _ e1).2
          rw [e3] at kk
          exact va_iald hx hb hK (sa_one hat) 0 0 rfl rfl e2 (hd rfl) (kk rfl H locs cells slots hR hS hcs.1 hcs.2)
        · obtain ⟨scr, h1, h2, h3, h4, h5⟩ := (hR.1 a _ e1).2
          rw [e3] at kk
          have hlt : j.toNatClampNeg < n := Nat.not_le.mp fun q => e2 (Or.inr q)
          exact W.iald (v := .int (f j.toNatClampNeg)) hx hb h1 h2 h3 (by rw [h4]; exact e2) (h5 _ hlt) rfl rfl (hd rfl) (kk rfl H locs cells slots hR hS hcs.1 hcs.2)
      · cases h
    · cases h
  case aaload =>
    simp only [stpI] at h
    split at h
    · rename_i j a r
      split at h
      · rename_i ho
        unfold okQ at ho
        split at ho
        · rename_i t n f e1
          simp only [Bool.and_eq_true] at ho
          have e3 : gQ σ a j = f j.toNatClampNeg := by unfold gQ; rw [e1]
          rw [e3] at h
          have hat := (hR.1 a _ e1).2
          split at h
          · rename_i q hq
            cases h
            have hk2 : ∀ (u : Unit), W p l e R s m args below meth c H locs cells slots Q (F0 m (pc + 1) sl (va_rf (f j.toNatClampNeg) :: r)) := fun _ => by
              rw [hq]
              exact kk rfl H locs cells slots hR hS hcs.1 hcs.2
            rcases beq_or ho.1 with rfl | rfl
            · exact va_aldq hx hb hK (sa_one hat) 0 2 rfl rfl (inB_in ho.2) (hd rfl) (hk2 ())
            · exact va_aldq hx hb hK (sa_one hat) 0 3 rfl rfl (inB_in ho.2) (hd rfl) (hk2 ())
          · cases h
        · cases ho
      · cases h
    · cases h
  case iastore =>
    simp only [stpI] at h
    split at h
    · rename_i x j a r
      split at h
      · rename_i ho
        cases h
        obtain ⟨n, f, e1, e2, -, e3⟩ := okB_inv ho
        have hat := hR.1 a _ e1
        rw [e3] at kk
        exact sa_iast hx hb hK hS 0 hat.2 hat.1 rfl e2 (hd rfl) (fun H1 locs1 a1 a2 a3 a4 => kk rfl H1 locs1 cells slots (hR.set ⟨hat.1, a1⟩ a2 a3) a4 hcs.1 hcs.2)
      · cases h
    · cases h
  case aastore =>
    simp only [stpI] at h
    split at h
    · rename_i v j a r
      split at h
      · rename_i ho
        cases h
        unfold okQw at ho
        split at ho
        · rename_i t n f e1
          simp only [Bool.and_eq_true] at ho
          have e3 : pQ σ a j v = hset σ a (.inr (.inr (.inl (t, n, va_up f j.toNatClampNeg (some v))))) := by unfold pQ; rw [e1]
          rw [e3] at kk
          have hat := hR.1 a _ e1
          obtain ⟨vs, ev⟩ := okO_inv ho.2
          have hvt := (hR.1 v _ ev).2
          obtain ⟨rr, hcl, -⟩ := id hvt
          obtain ⟨er, -⟩ := cok hcl
          subst er
          rcases beq_or ho.1.1 with rfl | rfl
          · exact sa_astq hx hb hK hS 2 (elC 2) hat.2 hat.1 rfl hvt hcl (inB_in ho.1.2) (hd rfl) (fun H1 locs1 a1 a2 a3 a4 => kk rfl H1 locs1 cells slots (hR.set ⟨hat.1, a1⟩ a2 a3) a4 hcs.1 hcs.2)
          · exact sa_astq hx hb hK hS 3 (elC 3) hat.2 hat.1 rfl hvt hcl (inB_in ho.1.2) (hd rfl) (fun H1 locs1 a1 a2 a3 a4 => kk rfl H1 locs1 cells slots (hR.set ⟨hat.1, a1⟩ a2 a3) a4 hcs.1 hcs.2)
        · cases ho
      · cases h
    · cases h
  case arraylength =>
    simp only [stpI] at h
    split at h
    · rename_i a r
      split at h
      · rename_i ho
        cases h
        unfold okL at ho
        split at ho
        · rename_i t n f e1
          have hat := (hR.1 a _ e1).2
          have e3 : gL σ a = nI n := by unfold gL; rw [e1]
          rw [e3] at kk
          rcases beq_or ho with rfl | rfl
          · exact va_alen hx hb hK (sa_one hat) 0 0 rfl rfl rfl (hd rfl) (kk rfl H locs cells slots hR hS hcs.1 hcs.2)
          · exact va_alen hx hb hK (sa_one hat) 0 1 rfl rfl rfl (hd rfl) (kk rfl H locs cells slots hR hS hcs.1 hcs.2)
        · rename_i t n f e1
          have hat := (hR.1 a _ e1).2
          have e3 : gL σ a = nI n := by unfold gL; rw [e1]
          rw [e3] at kk
          rcases beq_or ho with rfl | rfl
          · exact va_alen hx hb hK (sa_one hat) 0 2 rfl rfl rfl (hd rfl) (kk rfl H locs cells slots hR hS hcs.1 hcs.2)
          · exact va_alen hx hb hK (sa_one hat) 0 3 rfl rfl rfl (hd rfl) (kk rfl H locs cells slots hR hS hcs.1 hcs.2)
        · rename_i q e1
          obtain ⟨n, f⟩ := q
          obtain ⟨scr, h1, h2, h3, h4, h5⟩ := (hR.1 a _ e1).2
          have e3 : gL σ a = nI n := by unfold gL; rw [e1]
          rw [e3] at kk
          exact W.alen (n := nI n) hx hb h1 h2 (by rw [h4]; rfl) rfl rfl (hd rfl) (kk rfl H locs cells slots hR hS hcs.1 hcs.2)
        · cases ho
      · cases h
    · cases h
  case new idx =>
    simp only [stpI] at h
    split at h
    · rename_i ci b v0 hlk
      split at h
      · rename_i hci
        cases h
        have hci : ci < vcl.length := of_decide_eq_true hci
        have hcl : vcl[ci]? = some (vcl[ci]) := List.getElem?_eq_getElem hci
        obtain ⟨er, o1, o2, o3, o4, o5, o6⟩ := cok hcl
        rw [er] at hcl
        have w1 := lcs_in (lk_in hlk) (.classLink (cNm (mO y)) idx (cNm ci)) (by simp [lcs])
        have w2 := lcs_in (lk_in hlk) (.instantiable (cNm ci) (cN ci)) (by simp [lcs])
        have w3 := lcs_in (lk_in hlk) (.initialized (cNm ci)) (by simp [lcs])
        have g1 : σ.2.1 + 1 - c0 ≤ R.cells := hcap.1
        have g2 : σ.2.2 + cN ci - s0 ≤ R.slots := hcap.2
        rw [hR.2] at kk
        refine sa_new hx hb htU o1 (cY ci) o2 hown (hts _ w1.1 w1.2) (hts _ w2.1 w2.2) (hts _ w3.1 w3.2) hK hS hcl o6 (by omega) (by omega) (hd rfl) (fun H1 a1 a2 a3 a4 => ?_)
        refine kk rfl H1 locs (cells + 1) (slots + cN ci) (hR.new ⟨Nat.le_trans hlo hS.1, a1⟩ a2 a3) a4 ?_ ?_
        · show cells + 1 = σ.2.1 + 1 - c0
          omega
        · show slots + cN ci = σ.2.2 + cN ci - s0
          omega
      · cases h
    · cases h
  case newarray t =>
    cases t <;> simp only [stpI] at h <;> try (cases h; done)
    · split at h
      · rename_i n r
        split at h
        · rename_i hc
          simp only [Bool.and_eq_true, decide_eq_true_eq] at hc
          cases h
          have g1 : σ.2.1 + 1 - c0 ≤ R.cells := hcap.1
          have g2 : σ.2.2 + n.toNatClampNeg - s0 ≤ R.slots := hcap.2
          rw [hR.2] at kk
          have hw : (Cond.arrayClass FieldType.int) ∈ lw_tbl := arrI_in
          refine sa_newa (atype := .int) hx hb (hts _ hw rfl) rfl hS hc.1 rfl hc.2 (by omega) (by omega) (hd rfl) hK0.2 (fun H1 a1 a2 a3 a4 => ?_)
          refine kk rfl H1 locs (cells + 1) (slots + n.toNatClampNeg) (hR.new (x := .inr (.inl (0, n.toNatClampNeg, fun _ => 0))) ⟨Nat.le_trans hlo hS.1, ?_⟩ a2 a3) a4 ?_ ?_
          · show H1[H.size]? = some (vp_cell (cA 0) (n.toNatClampNeg, .inl (fun _ => 0)))
            rw [vp_cell_i]
            exact a1
          · show cells + 1 = σ.2.1 + 1 - c0
            omega
          · show slots + n.toNatClampNeg = σ.2.2 + n.toNatClampNeg - s0
            omega
        · cases h
      · cases h
  case anewarray idx =>
    simp only [stpI] at h
    split at h
    · rename_i ci b v0 n r hlk
      split at h
      · rename_i hc
        simp only [Bool.and_eq_true, decide_eq_true_eq, Bool.or_eq_true] at hc
        cases h
        have g1 : σ.2.1 + 1 - c0 ≤ R.cells := hcap.1
        have g2 : σ.2.2 + n.toNatClampNeg - s0 ≤ R.slots := hcap.2
        rw [hR.2] at kk
        have w1 := lcs_in (lk_in hlk) (.classLink (cNm (mO y)) (idx + 100000 - 100000) (cNm ci)) (by simp [lcs])
        rw [Nat.add_sub_cancel] at w1
        have w2 := lcs_in (lk_in hlk) (.arrayOver (.object (cNm ci))) (by simp [lcs])
        have hci : ci = 5 ∨ ci = 4 := hc.1.1.imp Nat.eq_of_beq_eq_true Nat.eq_of_beq_eq_true
        have fin : ∀ (t : Nat) (H1 : Heap), (if ci = 5 then 2 else 3) = t → H1[H.size]? = some (arrV (cA t) n.toNatClampNeg (fun _ => .null)) → H1.size = H.size + 1 → (∀ q : Nat, q < H.size → H1[q]? = H[q]?) → va_S (fun q => lo ≤ q) s.heap H1 locs → W p l e R s m args below meth c H1 locs (cells + 1) (slots + n.toNatClampNeg) Q (F0 m (pc + 3) sl (.ref H.size :: r)) := by
          intro t H1 et a1 a2 a3 a4
          rw [et] at kk
          refine kk rfl H1 locs (cells + 1) (slots + n.toNatClampNeg) (hR.new (x := .inr (.inr (.inl (t, n.toNatClampNeg, fun _ => none)))) ⟨Nat.le_trans hlo hS.1, ?_⟩ a2 a3) a4 ?_ ?_
          · show H1[H.size]? = some (vp_cell (cA t) (n.toNatClampNeg, .inr (.inr (.inr (.inr (fun _ => none))))))
            rw [vp_cell_q]
            exact a1
          · show cells + 1 = σ.2.1 + 1 - c0
            omega
          · show slots + n.toNatClampNeg = σ.2.2 + n.toNatClampNeg - s0
            omega
        rcases hci with rfl | rfl
        · obtain ⟨kA, comp, -, -, -, hfc⟩ := hK2.2
          exact sa_newq hx hb hown (hts _ w1.1 w1.2) (va_AO.of (hts _ w2.1 w2.2)) hS hc.1.2 rfl hc.2 (by omega) (by omega) (hd rfl) hfc (fun H1 => fin 2 H1 rfl)
        · obtain ⟨kA, comp, -, -, -, hfc⟩ := hK3.2
          exact sa_newq hx hb hown (hts _ w1.1 w1.2) (va_AO.of (hts _ w2.1 w2.2)) hS hc.1.2 rfl hc.2 (by omega) (by omega) (hd rfl) hfc (fun H1 => fin 3 H1 rfl)
      · cases h
    · cases h
end STEPH
