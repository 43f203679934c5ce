/-! calls, and the whole run -/
def Hle (σ σ1 : Hp) : Prop := σ.2.1 ≤ σ1.2.1 ∧ σ.2.2 ≤ σ1.2.2
theorem Hle.rf {σ : Hp} : Hle σ σ := ⟨Nat.le_refl _, Nat.le_refl _⟩
theorem Hle.tr {a b c : Hp} (h : Hle a b) (h2 : Hle b c) : Hle a c := ⟨Nat.le_trans h.1 h2.1, Nat.le_trans h.2 h2.2⟩
theorem Hle.nw {σ : Hp} {x : AC} {n : Nat} : Hle σ (hnew σ x n) := ⟨Nat.le_succ _, Nat.le_add_right _ _⟩
theorem pF_2 (σ : Hp) (a k : Nat) (v : Value) : (pF σ a k v).2 = σ.2 := by unfold pF; split <;> rfl
theorem pA_2 (σ : Hp) (a : Nat) (i x : Int32) : (pA σ a i x).2 = σ.2 := by unfold pA; split <;> rfl
theorem pQ_2 (σ : Hp) (a : Nat) (i : Int32) (v : Nat) : (pQ σ a i v).2 = σ.2 := by unfold pQ; split <;> rfl
theorem pC_2 (σ : Hp) (a : Nat) (sp : Int32) (b : Nat) (dp n : Int32) : (pC σ a sp b dp n).2 = σ.2 := by unfold pC; split <;> rfl
theorem Hle.of2 {σ σ1 : Hp} (h : σ1.2 = σ.2) : Hle σ σ1 := by unfold Hle; rw [h]; exact Hle.rf
def isIv : Instr → Bool
  | .invokevirtual _ | .invokespecial _ | .invokestatic _ => true
  | _ => false
set_option maxHeartbeats 4000000 in
theorem stpI_le {y pc : Nat} {i : Instr} {ls st : List Value} {σ : Hp} {pc1 : Nat} {ls1 st1 : List Value} {σ1 : Hp} (h : stpI y pc i ls st σ = some (.inl (pc1, ls1, st1, σ1))) : Hle σ σ1 := by
  cases i <;> first | (cases h; done) | skip
  all_goals
    simp only [stpI, nx, jmp, ldI, ldL, ldA, stI, stL, stA, sto1, sto2, bin, binL, callZ] at h
    repeat' split at h
    all_goals first
      | (cases h; done)
      | (cases h; exact Hle.rf)
      | (cases h; exact Hle.nw)
      | (cases h; exact Hle.of2 (pF_2 _ _ _ _))
      | (cases h; exact Hle.of2 (pA_2 _ _ _ _))
      | (cases h; exact Hle.of2 (pQ_2 _ _ _ _))
      | (cases h; exact Hle.of2 (pC_2 _ _ _ _ _ _))
theorem exec_le : ∀ (n : Nat) {y pc : Nat} {ls st : List Value} {σ : Hp} {v : Option Value} {σ1 : Hp}, exec n y pc ls st σ = some (v, σ1) → Hle σ σ1
  | 0, _, _, _, _, _, _, _, h => by cases h
  | n + 1, y, pc, ls, st, σ, v, σ1, h => by
    unfold exec at h
    cases hs : stp y pc ls st σ with
    | none => rw [hs] at h; cases h
    | some o =>
      rw [hs] at h
      rcases o with ⟨pc', ls', st', σ'⟩ | ⟨z, as, r⟩ | v
      · have h1 : Hle σ σ' := by
          unfold stp at hs
          split at hs
          · exact stpI_le hs
          · cases hs
        exact h1.tr (exec_le n h)
      · dsimp only at h
        cases hz : exec n z 0 (entL as (mL z)) [] σ with
        | none => rw [hz] at h; cases h
        | some w =>
          rw [hz] at h
          exact (exec_le n hz).tr (exec_le n h)
      · cases h
        exact Hle.rf
def nwS (U : State) : Prop := ∀ w ∈ lw_tbl, isNW w = true → va_Nw w U
theorem nw_alike {u U : State} (hW : u.WarmedH U.vm) (h : nwS u) : nwS U := by
  intro w hw hn
  have h1 := h w hw hn
  cases w <;> first | (exact absurd hn Bool.false_ne_true) | skip
  case fieldLinkNest => exact h1.warmF hW
  case methodLinkNest => exact h1.warmM hW
  case arrayOver ty =>
    cases ty <;> first | (exact absurd hn Bool.false_ne_true) | skip
    exact va_AO.moved hW.alike h1
theorem nw_same {u U : State} (hv : u.vm = U.vm) (h : nwS u) : nwS U := by
  intro w hw hn
  have h1 := h w hw hn
  cases w <;> first | (exact absurd hn Bool.false_ne_true) | skip
  case fieldLinkNest => exact va_Nw.same rfl hv h1
  case methodLinkNest => exact va_Nw.same rfl hv h1
  case arrayOver ty =>
    cases ty <;> first | (exact absurd hn Bool.false_ne_true) | skip
    exact va_AO.moved (by rw [hv]; exact Vm.Alike.refl U.vm) h1
theorem nw_use {s : State} {args : Array Value} {w : Cond} (hn : isNW w = true) (h : va_Nw w s) : w.before args s = true := by
  cases w <;> first | (exact absurd hn Bool.false_ne_true) | skip
  case fieldLinkNest => exact va_Nw.use rfl h
  case methodLinkNest => exact va_Nw.use rfl h
  case arrayOver ty =>
    cases ty <;> first | (exact absurd hn Bool.false_ne_true) | skip
    exact va_AO.use h
theorem nw_of {s : State} {args : Array Value} {w : Cond} (hn : isNW w = true) (h : w.before args s = true) : va_Nw w s := by
  cases w <;> first | (exact absurd hn Bool.false_ne_true) | skip
  case fieldLinkNest => exact va_Nw.of rfl h
  case methodLinkNest => exact va_Nw.of rfl h
  case arrayOver ty =>
    cases ty <;> first | (exact absurd hn Bool.false_ne_true) | skip
    exact va_AO.of h
def PB (D : va_G) (cA : Nat → ClassId) (lo : Nat) (σ : Hp) (U : State) : Prop := Rp D cA lo σ U U.heap ∧ va_K D vcl (tysL cA) U ∧ nwS U ∧ lo ≤ U.heap.size
def QB (D : va_G) (cA : Nat → ClassId) (lo : Nat) (σ1 : Hp) (v : Option Value) : Array Value → State → Outcome → State → Prop := fun _ st oc t => oc = .returned v ∧ Rp D cA lo σ1 t t.heap ∧ va_F (fun q => lo ≤ q) st t
theorem PB_blind (D : va_G) (cA : Nat → ClassId) (lo : Nat) (σ : Hp) (as : List Value) : FrameBlind (va_Pc as (PB D cA lo σ)) := by
  intro a U g mk ⟨h0, h1, h2, h3, h4⟩
  exact ⟨h0, Rp.moved (u := U) (U := U.calling g mk a) (Vm.Alike.refl U.vm) h1, va_K.moved (u := U) (U := U.calling g mk a) (Vm.Alike.refl U.vm) h2, nw_same (u := U) (U := U.calling g mk a) rfl h3, h4⟩
def Rt (y pc : Nat) (v : Option Value) : Prop := match v with
  | some (.int x) => ins y pc = some .ireturn ∧ retOK (mR y) x = true
  | some (.ref _) => ins y pc = some .areturn ∧ ∃ C, mR y = some (.object C)
  | some (.long _) => ins y pc = some .lreturn ∧ mR y = some .long
  | none => ins y pc = some .return_ ∧ mR y = none
  | _ => False
abbrev rmZ (z mc ms : Nat) : Room := { frames := mF z, cells := mc, slots := ms, locals := mW z }
theorem cell_eq {D : va_G} {a : Nat} {cA : ClassId} {n : Nat} {f g : Nat → Int32} {H : Heap} (h : ∀ j, j < n → g j = f j) (ha : va_at D vcl (a, .inl (cA, n, .inl f)) H) : va_at D vcl (a, .inl (cA, n, .inl g)) H := by
  have h1 : H[a]? = some (vp_cell cA (n, .inl f)) := ha
  show H[a]? = some (vp_cell cA (n, .inl g))
  rw [h1, vp_cell_i, vp_cell_i]
  unfold arrV
  have : (fun j : Fin n => Value.int (f j.val)) = (fun j : Fin n => Value.int (g j.val)) := funext fun j => by rw [h j.val j.isLt]
  rw [this]
section CALLS
variable {p : Program} {l : Launch} {e : Env} {R : Room} {s : State} {m : MethodId} {args : Array Value} {below : List Frame} {meth : Method} {c : Code} {H : Heap} {locs : List Loc} {cells slots : Nat} {Q : State → Prop}
variable {y pc pc1 : Nat} {D : va_G} {cA : Nat → ClassId} {lo : Nat} {ls ls1 st st1 : List Value} {σ σ1 : Hp} {sl : Array Slot} {c0 s0 : Nat}
theorem run_fin {mc ms : Nat} {r : List Value} {v : Option Value} {a : Array Value} (hr : va_Run p l e R s m args below meth c H locs cells slots mc ms (F0 m pc sl st) r (QB D cA lo σ1 v a) (fun q => lo ≤ q)) (hS : va_S (fun q => lo ≤ q) s.heap H locs)
    (kk : ∀ (H1 : Heap) (locs1 : List Loc), Rp D cA lo σ1 s H1 → va_S (fun q => lo ≤ q) s.heap H1 locs1 → W p l e R s m args below meth c H1 locs1 (cells + mc) (slots + ms) Q (F0 m (pc + 3) sl (pushO v r))) : W p l e R s m args below meth c H locs cells slots Q (F0 m pc sl st) := by
  intro T hT X
  obtain ⟨v', st₀, t, T', L, h0, X', hL, e1, e2, ⟨hv, hRp, hz, hk⟩, hst⟩ := hr T hT X
  cases hv
  rw [h0] at hz hk
  have hal : t.vm.Alike s.vm := by rw [← e2]; exact X'.warmed.alike.symm
  obtain ⟨t2, a1, b1⟩ := kk T'.heap (locs ++ L) (by rw [e1]; exact hRp.moved hal) ⟨Nat.le_trans hS.1 (by rw [e1]; exact hz), fun q h1 h2 => by rw [e1, hk q (Nat.lt_of_lt_of_le h1 hS.1) h2]; exact hS.2.1 q h1 h2, fun q hq => by
      rcases List.mem_append.mp hq with h | h
      · exact hS.2.2 q h
      · exact hL q h⟩ T' rfl X'
  refine ⟨t2, hst t2 ?_, b1⟩
  cases v with
  | none => exact a1
  | some w => exact a1
theorem callZ_inv {z' z : Nat} {as as' r r' : List Value} (h : callZ y z' as' r' = some (.inr (.inl (z, as, r)))) : z' = z ∧ as' = as ∧ r' = r ∧ (mF z + 1 ≤ mF y ∧ 19 + mL z + mW z ≤ mW y ∧ (r.map fun v => v.category).sum ≤ 8) ∧ (entL0 as).length ≤ mL z := by
  unfold callZ at h
  split at h
  · rename_i hc
    simp only [Bool.and_eq_true, rmOK, decide_eq_true_eq] at hc
    cases h
    exact ⟨rfl, rfl, rfl, ⟨hc.1.1.1, hc.1.1.2, hc.1.2⟩, hc.2⟩
  · cases h
theorem callZ_none {z' : Nat} {as' r' : List Value} {q : Nat × List Value × List Value × Hp} (h : callZ y z' as' r' = some (.inl q)) : False := by
  unfold callZ at h
  split at h <;> cases h
theorem code_good (z : Nat) (h : okW (cwd z) = true) : goodWord (cwd z) = true := by
  unfold okW at h
  rw [Bool.or_eq_true] at h
  rcases h with h | h
  · exact h
  · exact absurd h Bool.false_ne_true
theorem mOK_p (z : Nat) : ((mN z).cls ≠ "java/lang/invoke/MethodHandle" ∧ (mN z).cls ≠ "java/lang/invoke/VarHandle") ∧ plainName (mN z).cls = true ∧ (mN z).cls = cNm (mO z) ∧ ∀ sig, parseMethodDescriptor (mN z).desc = some sig → mA z = sig.parameters.length := by
  have h := mOK_y z
  simp only [mOK, Bool.and_eq_true, decide_eq_true_eq] at h
  obtain ⟨⟨⟨⟨h1, h2⟩, h3⟩, h4⟩, h5⟩ := h
  refine ⟨⟨h1, h2⟩, h3, h4, fun sig hs => ?_⟩
  have h5' : (parseMethodDescriptor (mN z).desc).map (fun d => d.parameters.length) = some (mA z) := h5
  rw [hs] at h5'
  exact (Option.some.inj h5').symm
theorem restW {r : List Value} (h : r.length ≤ 4) : (r.map fun v => v.category).sum ≤ 8 := by
  have := cat_sum r
  omega
set_option maxHeartbeats 4000000 in
/-- objects' own start, Math.max, Math.min, arraycopy -/
theorem stp_nat (C : Cx p R s m args meth c y D cA lo) {i : Instr} (hi : ins y pc = some i) (h : stpI y pc i ls st σ = some (.inl (pc1, ls1, st1, σ1))) (hz : isIv i = true) (hl : sl.size = mL y)
    (hR : Rp D cA lo σ s H) (hS : va_S (fun q => lo ≤ q) s.heap H locs) (hcap : cells ≤ R.cells ∧ slots ≤ R.slots)
    (kk : σ1.2 = σ.2 → ls1 = ls → ∀ (H1 : Heap) (locs1 : List Loc), Rp D cA lo σ1 s H1 → va_S (fun q => lo ≤ q) s.heap H1 locs1 → W p l e R s m args below meth c H1 locs1 cells slots Q (F0 m pc1 sl st1)) :
    W p l e R s m args below meth c H locs cells slots Q (F0 m pc sl st) := by
  obtain ⟨hx, hb, hml, hown, hts, hK, hnm, hlo, hF, hW⟩ := C
  have hd := ins_dec1 hi
  have hK0 := hK.2 0 (cA 0, .int) rfl
  cases i <;> first | (exact absurd hz (by decide)) | (exact absurd hz Bool.false_ne_true) | skip
  case invokevirtual idx =>
    exfalso
    simp only [stpI] at h
    repeat' split at h
    all_goals first | (cases h; done) | exact callZ_none h
  case invokespecial idx =>
    simp only [stpI] at h
    split at h
    · rename_i a0 b0 v0 hlk
      split at h
      · rename_i a r
        split at h
        · rename_i hc
          simp only [rm0K, Bool.and_eq_true, decide_eq_true_eq] at hc
          cases h
          have hrw := restW hc.2
          have w1 := lcs_in (lk_in hlk) (.methodLink (cNm (mO y)) idx objectInit) (by simp [lcs])
          have w2 := lcs_in (lk_in hlk) (.instanceMethod objectInit) (by simp [lcs])
          have w3 := lcs_in (lk_in hlk) (.code objectInit ⟨#[0xb1]⟩ 1 none) (by simp [lcs])
          exact W.objInit hx hb hown (hts _ w1.1 w1.2) (hts _ w2.1 w2.2) (hts _ w3.1 w3.2) rfl (by rw [hml]; exact hl) rfl (hd rfl) (by omega) (by show 2 * 0 + _ + 12 ≤ _; omega) (kk rfl rfl H locs hR hS)
        · cases h
      · cases h
    · exfalso
      repeat' split at h
      all_goals first | (cases h; done) | exact callZ_none h
    · cases h
  case invokestatic idx =>
    simp only [stpI] at h
    split at h
    · rename_i a0 b0 v0 hlk
      split at h
      · rename_i b a r
        split at h
        · rename_i hc
          simp only [rm0K, Bool.and_eq_true, decide_eq_true_eq] at hc
          cases h
          have hrw := restW hc.2
          have w1 := lcs_in (lk_in hlk) (.methodLink (cNm (mO y)) idx Lib.Math.max.name) (by simp [lcs])
          have w2 := lcs_in (lk_in hlk) (.static Lib.Math.max.name) (by simp [lcs])
          have w3 := lcs_in (lk_in hlk) (.initialized "java/lang/Math") (by simp [lcs])
          have w4 := lcs_in (lk_in hlk) (.code Lib.Math.max.name Lib.Math.max.code 2 (some .int)) (by simp [lcs])
          exact va_mmax hx hb (by rw [hml, hl]) hown (hts _ w1.1 w1.2) (hts _ w2.1 w2.2) (hts _ w3.1 w3.2) (hts _ w4.1 w4.2) (by omega) (by omega) hcap.1 hcap.2 (hd rfl) (kk rfl rfl H locs hR hS)
        · cases h
      · cases h
    · rename_i a0 b0 v0 hlk
      split at h
      · rename_i b a r
        split at h
        · rename_i hc
          simp only [rm0K, Bool.and_eq_true, decide_eq_true_eq] at hc
          cases h
          have hrw := restW hc.2
          have w1 := lcs_in (lk_in hlk) (.methodLink (cNm (mO y)) idx Lib.Math.min.name) (by simp [lcs])
          have w2 := lcs_in (lk_in hlk) (.static Lib.Math.min.name) (by simp [lcs])
          have w3 := lcs_in (lk_in hlk) (.initialized "java/lang/Math") (by simp [lcs])
          have w4 := lcs_in (lk_in hlk) (.code Lib.Math.min.name Lib.Math.min.code 2 (some .int)) (by simp [lcs])
          exact va_mmin hx hb (by rw [hml, hl]) hown (hts _ w1.1 w1.2) (hts _ w2.1 w2.2) (hts _ w3.1 w3.2) (hts _ w4.1 w4.2) (by omega) (by omega) hcap.1 hcap.2 (hd rfl) (kk rfl rfl H locs hR hS)
        · cases h
      · cases h
    · rename_i a0 b0 v0 hlk
      split at h
      · rename_i n dp b sp a r
        split at h
        · rename_i hc
          rw [Bool.and_eq_true] at hc
          obtain ⟨hc, hoc⟩ := hc
          simp only [rm0K, Bool.and_eq_true, decide_eq_true_eq] at hc
          cases h
          have hrw := restW hc.2
          have w1 := lcs_in (lk_in hlk) (.methodLink (cNm (mO y)) idx arraycopyName) (by simp [lcs])
          have w2 := lcs_in (lk_in hlk) (.native arraycopyName) (by simp [lcs])
          have w3 := lcs_in (lk_in hlk) (.static arraycopyName) (by simp [lcs])
          have w4 := lcs_in (lk_in hlk) (.initialized "java/lang/System") (by simp [lcs])
          unfold okC at hoc
          split at hoc
          · rename_i t n0 f t' n1 g ea eb
            simp only [Bool.and_eq_true, decide_eq_true_eq] at hoc
            obtain ⟨⟨⟨⟨⟨⟨q1, q2⟩, q3⟩, q4⟩, q5⟩, q6⟩, q7⟩ := hoc
            have q1 : t = 0 := Nat.eq_of_beq_eq_true q1
            have q2 : t' = 0 := Nat.eq_of_beq_eq_true q2
            subst q1; subst q2
            have e3 : pC σ a sp b dp n = hset σ b (.inr (.inl (0, n1, cpyF f g sp.toNatClampNeg dp.toNatClampNeg n.toNatClampNeg n1))) := by unfold pC; rw [ea, eb]
            rw [e3] at kk
            have h1 := hR.1 a _ ea
            have h2 := hR.1 b _ eb
            exact sa_copy hx hb (by rw [hml, hl]) hown (hts _ w1.1 w1.2) (hts _ w2.1 w2.2) (hts _ w3.1 w3.2) (hts _ w4.1 w4.2) hK hS 0 h1.2 h2.2 h2.1 rfl q3 q4 q5 q6 q7 (by omega) (by rw [show nativeFrameWords "java/lang/System" "arraycopy" 5 = 7 by decide +kernel]; omega) (hd rfl) (fun H1 locs1 a1 a2 a3 a4 => kk rfl rfl H1 locs1 (hR.set ⟨h2.1, cell_eq (fun j hj => (by unfold cpyF; rw [if_pos hj])) a1⟩ a2 a3) a4)
          · cases hoc
        · cases h
      · cases h
    · exfalso
      repeat' split at h
      all_goals first | (cases h; done) | exact callZ_none h
    · cases h
end CALLS
