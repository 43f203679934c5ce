/-! the picture of the cells, and one step -/
def tysL (cA : Nat → ClassId) : List (ClassId × FieldType) := [(cA 0, .int), (cA 1, .int), (cA 2, .object (cNm (elC 2))), (cA 3, .object (cNm (elC 3)))]
def rpc (D : va_G) (cA : Nat → ClassId) (lo : Nat) (U : State) (H : Heap) (a : Nat) : AC → Prop
  | .inl o => lo ≤ a ∧ va_at D vcl (a, .inr o) H
  | .inr (.inl (t, n, f)) => lo ≤ a ∧ va_at D vcl (a, .inl (cA t, n, .inl f)) H
  | .inr (.inr (.inl (t, n, f))) => lo ≤ a ∧ va_at D vcl (a, .inl (cA t, n, .inr (.inr (.inr (.inr f))))) H
  | .inr (.inr (.inr (n, f))) => a < lo ∧ va_X a n f U H
def Rp (D : va_G) (cA : Nat → ClassId) (lo : Nat) (σ : Hp) (U : State) (H : Heap) : Prop := (∀ a x, σ.1 a = some x → rpc D cA lo U H a x) ∧ σ.2.1 = H.size
theorem rpc.kept {D : va_G} {cA : Nat → ClassId} {lo : Nat} {U : State} {H H1 : Heap} {a : Nat} {x : AC} (h : rpc D cA lo U H a x) (hq : H1[a]? = H[a]?) : rpc D cA lo U H1 a x := by
  rcases x with o | ⟨t, n, f⟩ | ⟨t, n, f⟩ | ⟨n, f⟩
  · exact ⟨h.1, h.2.kept hq⟩
  · exact ⟨h.1, va_at.kept (H := H) h.2 hq⟩
  · exact ⟨h.1, va_at.kept (H := H) h.2 hq⟩
  · exact ⟨h.1, h.2.kept hq⟩
theorem rpc.lt {D : va_G} {cA : Nat → ClassId} {lo : Nat} {U : State} {H : Heap} {a : Nat} {x : AC} (h : rpc D cA lo U H a x) : a < H.size := by
  rcases x with o | ⟨t, n, f⟩ | ⟨t, n, f⟩ | ⟨n, f⟩
  · exact va_at.lt h.2
  · exact va_at.lt h.2
  · exact va_at.lt h.2
  · obtain ⟨-, scr, h1, -⟩ := h
    exact (Array.getElem?_eq_some_iff.mp h1).1
theorem rpc.moved {D : va_G} {cA : Nat → ClassId} {lo : Nat} {u U : State} {H : Heap} {a : Nat} {x : AC} (hvm : u.vm.Alike U.vm) (h : rpc D cA lo u H a x) : rpc D cA lo U H a x := by
  rcases x with o | ⟨t, n, f⟩ | ⟨t, n, f⟩ | ⟨n, f⟩
  · exact h
  · exact h
  · exact h
  · exact ⟨h.1, h.2.moved hvm⟩
theorem Rp.moved {D : va_G} {cA : Nat → ClassId} {lo : Nat} {σ : Hp} {u U : State} {H : Heap} (hvm : u.vm.Alike U.vm) (h : Rp D cA lo σ u H) : Rp D cA lo σ U H := ⟨fun a x ha => (h.1 a x ha).moved hvm, h.2⟩
theorem Rp.set {D : va_G} {cA : Nat → ClassId} {lo : Nat} {σ : Hp} {U : State} {H H1 : Heap} {a : Nat} {x : AC} (h : Rp D cA lo σ U H) (hx : rpc D cA lo U H1 a x) (hz : H1.size = H.size) (oq : ∀ q : Nat, q ≠ a → H1[q]? = H[q]?) : Rp D cA lo (hset σ a x) U H1 := by
  refine ⟨fun b y hb => ?_, by rw [hz]; exact h.2⟩
  by_cases hba : b = a
  · subst hba
    have : some x = some y := by simpa [hset] using hb
    cases this
    exact hx
  · have hb' : σ.1 b = some y := by simpa [hset, hba] using hb
    exact (h.1 b y hb').kept (oq b hba)
theorem Rp.new {D : va_G} {cA : Nat → ClassId} {lo : Nat} {σ : Hp} {U : State} {H H1 : Heap} {x : AC} {n : Nat} (h : Rp D cA lo σ U H) (hx : rpc D cA lo U H1 H.size x) (hz : H1.size = H.size + 1) (oq : ∀ q : Nat, q < H.size → H1[q]? = H[q]?) : Rp D cA lo (hnew σ x n) U H1 := by
  refine ⟨fun b y hb => ?_, by show σ.2.1 + 1 = _; rw [hz, h.2]⟩
  by_cases hba : b = σ.2.1
  · have : some x = some y := by simpa [hnew, hba] using hb
    cases this
    rw [hba, h.2]
    exact hx
  · have hb' : σ.1 b = some y := by simpa [hnew, hba] using hb
    exact (h.1 b y hb').kept (oq b (h.1 b y hb').lt)
theorem ins_dec {y pc : Nat} {i : Instr} (h : ins y pc = some i) : ∃ n, decode (mC y) pc = .ok (i, n) ∧ (isSw i = false → n = ilen i) := by
  unfold ins at h
  split at h
  · rename_i j n hd
    split at h
    · rename_i hc
      cases h
      refine ⟨n, hd, fun hs => ?_⟩
      rw [hs] at hc
      simp at hc
      exact hc
    · cases h
  · cases h
theorem ins_dec1 {y pc : Nat} {i : Instr} (h : ins y pc = some i) (hs : isSw i = false) : decode (mC y) pc = .ok (i, ilen i) := by
  obtain ⟨n, h1, h2⟩ := ins_dec h
  rw [h1, h2 hs]
/-- what holds throughout a method's run -/
def Cx (p : Program) (R : Room) (s : State) (m : MethodId) (args : Array Value) (meth : Method) (c : Code) (y : Nat) (D : va_G) (cA : Nat → ClassId) (lo : Nat) : Prop :=
  p.tables.exec = Jvm.exec ∧ c.code = mC y ∧ c.maxLocals = mL y ∧ s.vm.findClass (cNm (mO y)) = some m.cls ∧ (∀ w ∈ lw_tbl, okW w = true → w.before args s = true) ∧ va_K D vcl (tysL cA) s ∧ meth.name = (mN y).name ∧ lo ≤ s.heap.size ∧ mF y ≤ R.frames ∧ mW y ≤ R.locals
theorem jmp_inv {pc : Nat} {off : Int} {ls st : List Value} {σ : Hp} {r : Nat × List Value × List Value × Hp} (h : jmp pc off ls st σ = some (.inl r)) : (pc : Int) + off = (((pc : Int) + off).toNat : Nat) ∧ r = (((pc : Int) + off).toNat, ls, st, σ) := by
  unfold jmp at h
  split at h
  · cases h
    exact ⟨by omega, rfl⟩
  · cases h
theorem cat_sum : ∀ r : List Value, (r.map fun v => v.category).sum ≤ 2 * r.length
  | [] => by simp
  | v :: r => by
    have := cat_sum r
    rcases lv_cat v with h | h <;> simp [h] <;> omega
theorem okV_spec {ty : FieldType} {v : Value} (h : okV ty v = true) : narrow ty v = v ∧ fits ty v = true := by
  unfold okV at h
  split at h
  · exact ⟨rfl, rfl⟩
  · rename_i x
    simp only [Bool.or_eq_true, beq_iff_eq] at h
    rcases h with rfl | rfl <;> exact ⟨by decide +kernel, by decide +kernel⟩
  · exact ⟨rfl, rfl⟩
  · exact ⟨rfl, rfl⟩
  · cases h
theorem inB_in {i : Int32} {n : Nat} (h : inB i n = true) : vp_in i n := (of_decide_eq_true h : ¬ (i < 0 ∨ n ≤ i.toNatClampNeg))
def Lft (σ : Hp) (c0 s0 : Nat) (R : Room) : Prop := σ.2.1 - c0 ≤ R.cells ∧ σ.2.2 - s0 ≤ R.slots
def isPl : Instr → Bool
  | .iconst _ | .bipush _ | .sipush _ | .lconst _ | .ldc _ | .ldc2_w _ | .iload_n _ | .iload _ | .lload_n _ | .lload _ | .aload_n _ | .aload _ | .istore_n _ | .istore _ | .lstore_n _ | .lstore _ | .astore_n _ | .astore _ | .iinc _ _ => true
  | _ => false
def isAr : Instr → Bool
  | .ishr | .ladd | .lmul | .iadd | .isub | .imul | .iand | .idiv | .irem | .land | .lor | .lshl | .lushr | .i2l | .l2i | .lcmp | .dup | .dup2 | .pop | .ifCond _ _ | .if_icmp _ _ | .goto _ | .tableswitch .. | .lookupswitch .. => true
  | _ => false
section STEP
variable {p : Program} {l : Launch} {e : Env} {R : Room} {s : State} {m : MethodId} {args : Array Value} {below : List Frame} {meth : Method} {c : Code} {H : Heap} {locs : List Loc} {cells slots : Nat} {Q : State → Prop}
variable {y pc pc1 : Nat} {D : va_G} {cA : Nat → ClassId} {lo : Nat} {ls ls1 st st1 : List Value} {σ σ1 : Hp} {sl : Array Slot} {c0 s0 : Nat}
theorem ldI_inv {k : Nat} {r : Nat × List Value × List Value × Hp} (h : ldI pc k ls st σ = some (.inl r)) : ∃ x, ls.getD k .null = .int x ∧ r = (pc, ls, .int x :: st, σ) := by
  unfold ldI at h
  split at h
  · cases h; exact ⟨_, by assumption, rfl⟩
  · cases h
theorem ldL_inv {k : Nat} {r : Nat × List Value × List Value × Hp} (h : ldL pc k ls st σ = some (.inl r)) : ∃ x, ls.getD k .null = .long x ∧ r = (pc, ls, .long x :: st, σ) := by
  unfold ldL at h
  split at h
  · cases h; exact ⟨_, by assumption, rfl⟩
  · cases h
theorem ldA_inv {k : Nat} {r : Nat × List Value × List Value × Hp} (h : ldA pc k ls st σ = some (.inl r)) : ∃ x, ls.getD k .null = .ref x ∧ r = (pc, ls, .ref x :: st, σ) := by
  unfold ldA at h
  split at h
  · cases h; exact ⟨_, by assumption, rfl⟩
  · cases h
theorem sto1_inv {k : Nat} {v : Value} {r : List Value} {q : Nat × List Value × List Value × Hp} (h : sto1 pc k v ls r σ = some (.inl q)) : k < ls.length ∧ isD (ls.getD k .null) = false ∧ q = (pc, ls.set k v, r, σ) := by
  unfold sto1 at h
  split at h
  · rename_i hc
    simp only [Bool.and_eq_true, decide_eq_true_eq, Bool.not_eq_true'] at hc
    cases h
    exact ⟨hc.1, hc.2, rfl⟩
  · cases h
theorem sto2_inv {k : Nat} {v : Value} {r : List Value} {q : Nat × List Value × List Value × Hp} (h : sto2 pc k v ls r σ = some (.inl q)) : k + 1 < ls.length ∧ isD (ls.getD k .null) = false ∧ q = (pc, (ls.set k v).set (k + 1) (.double 0), r, σ) := by
  unfold sto2 at h
  split at h
  · rename_i hc
    simp only [Bool.and_eq_true, decide_eq_true_eq, Bool.not_eq_true'] at hc
    cases h
    exact ⟨hc.1, hc.2, rfl⟩
  · cases h
theorem stI_inv {k : Nat} {q : Nat × List Value × List Value × Hp} (h : stI pc k ls st σ = some (.inl q)) : ∃ x r, st = .int x :: r ∧ k < ls.length ∧ isD (ls.getD k .null) = false ∧ q = (pc, ls.set k (.int x), r, σ) := by
  unfold stI at h
  split at h
  · exact ⟨_, _, rfl, sto1_inv h⟩
  · cases h
theorem stA_inv {k : Nat} {q : Nat × List Value × List Value × Hp} (h : stA pc k ls st σ = some (.inl q)) : ∃ x r, st = .ref x :: r ∧ k < ls.length ∧ isD (ls.getD k .null) = false ∧ q = (pc, ls.set k (.ref x), r, σ) := by
  unfold stA at h
  split at h
  · exact ⟨_, _, rfl, sto1_inv h⟩
  · cases h
theorem stL_inv {k : Nat} {q : Nat × List Value × List Value × Hp} (h : stL pc k ls st σ = some (.inl q)) : ∃ x r, st = .long x :: r ∧ k + 1 < ls.length ∧ isD (ls.getD k .null) = false ∧ q = (pc, (ls.set k (.long x)).set (k + 1) (.double 0), r, σ) := by
  unfold stL at h
  split at h
  · exact ⟨_, _, rfl, sto2_inv h⟩
  · cases h
theorem bin_inv {op : Int32 → Int32 → Int32} {q : Nat × List Value × List Value × Hp} (h : bin pc op ls st σ = some (.inl q)) : ∃ a b r, st = .int b :: .int a :: r ∧ q = (pc + 1, ls, .int (op a b) :: r, σ) := by
  unfold bin at h
  split at h
  · cases h; exact ⟨_, _, _, rfl, rfl⟩
  · cases h
theorem binL_inv {op : Int64 → Int64 → Int64} {q : Nat × List Value × List Value × Hp} (h : binL pc op ls st σ = some (.inl q)) : ∃ a b r, st = .long b :: .long a :: r ∧ q = (pc + 1, ls, .long (op a b) :: r, σ) := by
  unfold binL at h
  split at h
  · cases h; exact ⟨_, _, _, rfl, rfl⟩
  · cases h
set_option maxHeartbeats 4000000 in
/-- a step on locals and stack alone -/
theorem stp_plain (C : Cx p R s m args meth c y D cA lo) {i : Instr} (hi : ins y pc = some i) (h : stpI y pc i ls st σ = some (.inl (pc1, ls1, st1, σ1))) (hl : LR ls sl (mL y))
    (hz : isPl i = true)
    (kk : σ1 = σ → ∀ sl1, LR ls1 sl1 (mL y) → W p l e R s m args below meth c H locs cells slots Q (F0 m pc1 sl1 st1)) :
    W p l e R s m args below meth c H locs cells slots Q (F0 m pc sl st) := by
  obtain ⟨hx, hb, hml, hown, hts, hK, hnm, hlo, hF, hW⟩ := C
  have hd := ins_dec1 hi
  cases i <;> first | (exact absurd hz (by decide)) | (exact absurd hz Bool.false_ne_true) | skip
  case iconst n => cases h; exact lv_iconst hx hb (hd rfl) rfl (kk rfl sl hl)
  case bipush n => cases h; exact lv_bipush hx hb (hd rfl) rfl (kk rfl sl hl)
  case sipush n => cases h; exact lv_sipush hx hb (hd rfl) rfl (kk rfl sl hl)
  case lconst n => cases h; exact lv_lconst hx hb (hd rfl) rfl (kk rfl sl hl)
  case ldc idx =>
    simp only [stpI] at h
    split at h
    · rename_i a b v hlk
      cases h
      have hw := lcs_in (lk_in hlk) (.constant (cNm (mO y)) idx (Int32.ofInt v)) (by simp [lcs])
      exact lv_ldc hx hb hown (hts _ hw.1 hw.2) (hd rfl) (kk rfl sl hl)
    · cases h
  case ldc2_w idx =>
    simp only [stpI] at h
    split at h
    · rename_i a b v hlk
      cases h
      have hw := lcs_in (lk_in hlk) (.constantLong (cNm (mO y)) idx (Int64.ofInt v)) (by simp [lcs])
      exact lv_ldc2 hx hb hown (hts _ hw.1 hw.2) (hd rfl) (kk rfl sl hl)
    · cases h
  case iload_n k => obtain ⟨x, hg, e⟩ := ldI_inv h; cases e; exact lv_iload_n hx hb (hd rfl) rfl (hl.get hg rfl rfl) (kk rfl sl hl)
  case iload k => obtain ⟨x, hg, e⟩ := ldI_inv h; cases e; exact lv_iload hx hb (hd rfl) (hl.get hg rfl rfl) (kk rfl sl hl)
  case lload_n k => obtain ⟨x, hg, e⟩ := ldL_inv h; cases e; exact lv_lload_n hx hb (hd rfl) rfl (hl.get hg rfl rfl) (kk rfl sl hl)
  case lload k => obtain ⟨x, hg, e⟩ := ldL_inv h; cases e; exact lv_lload hx hb (hd rfl) (hl.get hg rfl rfl) (kk rfl sl hl)
  case aload_n k => obtain ⟨x, hg, e⟩ := ldA_inv h; cases e; exact lv_aload_n hx hb (hd rfl) rfl (hl.get hg rfl rfl) (kk rfl sl hl)
  case aload k => obtain ⟨x, hg, e⟩ := ldA_inv h; cases e; exact lv_aload hx hb (hd rfl) (hl.get hg rfl rfl) (kk rfl sl hl)
  case istore_n k => obtain ⟨x, r, rfl, hk, hg, e⟩ := stI_inv h; cases e; exact lv_istore_n hx hb (hd rfl) rfl hl.1 (by rw [← hl.2.1]; exact hk) rfl (fun sl2 h2 => kk rfl sl2 (hl.sto1 hk hg (fun x h => by cases h) h2))
  case istore k => obtain ⟨x, r, rfl, hk, hg, e⟩ := stI_inv h; cases e; exact lv_istore hx hb (hd rfl) hl.1 (by rw [← hl.2.1]; exact hk) rfl (fun sl2 h2 => kk rfl sl2 (hl.sto1 hk hg (fun x h => by cases h) h2))
  case astore_n k => obtain ⟨x, r, rfl, hk, hg, e⟩ := stA_inv h; cases e; exact lv_astore_n hx hb (hd rfl) rfl hl.1 (by rw [← hl.2.1]; exact hk) rfl (fun sl2 h2 => kk rfl sl2 (hl.sto1 hk hg (fun x h => by cases h) h2))
  case astore k => obtain ⟨x, r, rfl, hk, hg, e⟩ := stA_inv h; cases e; exact lv_astore hx hb (hd rfl) hl.1 (by rw [← hl.2.1]; exact hk) rfl (fun sl2 h2 => kk rfl sl2 (hl.sto1 hk hg (fun x h => by cases h) h2))
  case lstore_n k => obtain ⟨x, r, rfl, hk, hg, e⟩ := stL_inv h; cases e; exact lv_lstore_n hx hb (hd rfl) rfl hl.1 (by rw [← hl.2.1]; exact hk) rfl (fun sl2 h2 => kk rfl sl2 (hl.sto2 hk hg h2))
  case lstore k => obtain ⟨x, r, rfl, hk, hg, e⟩ := stL_inv h; cases e; exact lv_lstore hx hb (hd rfl) hl.1 (by rw [← hl.2.1]; exact hk) rfl (fun sl2 h2 => kk rfl sl2 (hl.sto2 hk hg h2))
  case iinc k n =>
    simp only [stpI] at h
    split at h
    · rename_i x hg
      cases h
      have hk : ls[k]? = some (.int x) := getD_some hg rfl
      have hkl : k < ls.length := (List.getElem?_eq_some_iff.mp hk).1
      obtain ⟨j, hj⟩ := List.getElem?_of_mem (al_mem.mpr ⟨hk, rfl, rfl⟩)
      exact lv_iinc hx hb (hd rfl) hl.1 hj rfl (by rw [← hl.2.1]; exact hkl) rfl (fun sl2 h2 => kk rfl sl2 (hl.sto1 hkl (by rw [hg]; rfl) (fun x h => by cases h) h2))
    · cases h
set_option maxHeartbeats 4000000 in
theorem stp_arith (C : Cx p R s m args meth c y D cA lo) {i : Instr} (hi : ins y pc = some i) (h : stpI y pc i ls st σ = some (.inl (pc1, ls1, st1, σ1)))
    (hz : isAr i = true)
    (kk : σ1 = σ → ls1 = ls → W p l e R s m args below meth c H locs cells slots Q (F0 m pc1 sl st1)) :
    W p l e R s m args below meth c H locs cells slots Q (F0 m pc sl st) := by
  obtain ⟨hx, hb, hml, hown, hts, hK, hnm, hlo, hF, hW⟩ := C
  have hd := ins_dec1 hi
  cases i <;> first | (exact absurd hz (by decide)) | (exact absurd hz Bool.false_ne_true) | skip
  case iadd => obtain ⟨a, b, r, rfl, e⟩ := bin_inv h; cases e; exact lv_iadd hx hb (hd rfl) (kk rfl rfl)
  case isub => obtain ⟨a, b, r, rfl, e⟩ := bin_inv h; cases e; exact lv_isub hx hb (hd rfl) (kk rfl rfl)
  case imul => obtain ⟨a, b, r, rfl, e⟩ := bin_inv h; cases e; exact lv_imul hx hb (hd rfl) (kk rfl rfl)
  case iand => obtain ⟨a, b, r, rfl, e⟩ := bin_inv h; cases e; exact lv_iand hx hb (hd rfl) (kk rfl rfl)
  case ishr => obtain ⟨a, b, r, rfl, e⟩ := bin_inv h; cases e; exact lv_ishr hx hb (hd rfl) (kk rfl rfl)
  case ladd => obtain ⟨a, b, r, rfl, e⟩ := binL_inv h; cases e; exact lv_ladd hx hb (hd rfl) (kk rfl rfl)
  case lmul => obtain ⟨a, b, r, rfl, e⟩ := binL_inv h; cases e; exact lv_lmul hx hb (hd rfl) (kk rfl rfl)
  case land => obtain ⟨a, b, r, rfl, e⟩ := binL_inv h; cases e; exact lv_land hx hb (hd rfl) (kk rfl rfl)
  case lor => obtain ⟨a, b, r, rfl, e⟩ := binL_inv h; cases e; exact lv_lor hx hb (hd rfl) (kk rfl rfl)
  case idiv =>
    simp only [stpI] at h
    split at h
    · rename_i b a r
      try dsimp only at h
      by_cases h0 : b = 0
      · rw [if_pos h0] at h; cases h
      · rw [if_neg h0] at h; cases h; exact lv_idiv hx hb (hd rfl) h0 (kk rfl rfl)
    · cases h
  case irem =>
    simp only [stpI] at h
    split at h
    · rename_i b a r
      try dsimp only at h
      by_cases h0 : b = 0
      · rw [if_pos h0] at h; cases h
      · rw [if_neg h0] at h; cases h; exact lv_irem hx hb (hd rfl) h0 (kk rfl rfl)
    · cases h
  case lshl =>
    simp only [stpI] at h
    split at h
    · cases h; exact lv_lshl hx hb (hd rfl) rfl (kk rfl rfl)
    · cases h
  case lushr =>
    simp only [stpI] at h
    split at h
    · cases h; exact lv_lushr hx hb (hd rfl) rfl (kk rfl rfl)
    · cases h
  case i2l =>
    simp only [stpI] at h
    split at h
    · cases h; exact lv_i2l hx hb (hd rfl) rfl (kk rfl rfl)
    · cases h
  case l2i =>
    simp only [stpI] at h
    split at h
    · cases h; exact lv_l2i hx hb (hd rfl) rfl (kk rfl rfl)
    · cases h
  case lcmp =>
    simp only [stpI] at h
    split at h
    · cases h; exact W.lcmp hx hb (hd rfl) (kk rfl rfl)
    · cases h
  case dup =>
    simp only [stpI] at h
    split at h
    · rename_i v r
      try dsimp only at h
      by_cases h0 : v.category = 1
      · rw [if_pos h0] at h; cases h; exact lv_dup hx hb (hd rfl) h0 (kk rfl rfl)
      · rw [if_neg h0] at h; cases h
    · cases h
  case dup2 =>
    simp only [stpI] at h
    split at h
    · rename_i v w r
      try dsimp only at h
      by_cases h0 : v.category = 1 ∧ w.category = 1
      · rw [if_pos h0] at h; cases h; exact lv_dup2_11 hx hb (hd rfl) h0.1 h0.2 (kk rfl rfl)
      · rw [if_neg h0] at h; cases h
    · cases h
  case pop =>
    simp only [stpI] at h
    split at h
    · rename_i v r
      try dsimp only at h
      by_cases h0 : v.category = 1
      · rw [if_pos h0] at h; cases h; exact lv_pop hx hb (hd rfl) h0 (kk rfl rfl)
      · rw [if_neg h0] at h; cases h
    · cases h
  case ifCond k off =>
    simp only [stpI] at h
    split at h
    · rename_i x r
      try dsimp only at h
      by_cases h0 : 0 ≤ (pc : Int) + off
      · rw [if_pos h0] at h
        have ht : (pc : Int) + off = ((((pc : Int) + off).toNat : Nat) : Int) := by omega
        have kt : cnd k x 0 = true → W p l e R s m args below meth c H locs cells slots Q (F0 m ((pc : Int) + off).toNat sl r) := by
          intro hc
          rw [if_pos hc] at h
          cases h
          exact kk rfl rfl
        have kf : ¬ cnd k x 0 = true → W p l e R s m args below meth c H locs cells slots Q (F0 m (pc + 3) sl r) := by
          intro hc
          rw [if_neg hc] at h
          cases h
          exact kk rfl rfl
        cases k <;> simp only [cnd, decide_eq_true_eq] at kt kf
        · exact lv_if_eq hx hb (hd rfl) ht kt kf
        · exact lv_if_ne hx hb (hd rfl) ht kt (fun q => kf (fun z => z q))
        · exact lv_if_lt hx hb (hd rfl) ht kt kf
        · exact lv_if_ge hx hb (hd rfl) ht kt kf
        · exact lv_if_gt hx hb (hd rfl) ht kt kf
        · exact lv_if_le hx hb (hd rfl) ht kt kf
      · rw [if_neg h0] at h; cases h
    · cases h
  case if_icmp k off =>
    simp only [stpI] at h
    split at h
    · rename_i b a r
      try dsimp only at h
      by_cases h0 : 0 ≤ (pc : Int) + off
      · rw [if_pos h0] at h
        have ht : (pc : Int) + off = ((((pc : Int) + off).toNat : Nat) : Int) := by omega
        have kt : cnd k a b = true → W p l e R s m args below meth c H locs cells slots Q (F0 m ((pc : Int) + off).toNat sl r) := by
          intro hc
          rw [if_pos hc] at h
          cases h
          exact kk rfl rfl
        have kf : ¬ cnd k a b = true → W p l e R s m args below meth c H locs cells slots Q (F0 m (pc + 3) sl r) := by
          intro hc
          rw [if_neg hc] at h
          cases h
          exact kk rfl rfl
        cases k <;> simp only [cnd, decide_eq_true_eq] at kt kf
        · exact lv_icmp_eq hx hb (hd rfl) ht kt kf
        · exact lv_icmp_ne hx hb (hd rfl) ht kt (fun q => kf (fun z => z q))
        · exact lv_icmp_lt hx hb (hd rfl) ht kt kf
        · exact lv_icmp_ge hx hb (hd rfl) ht kt kf
        · exact lv_icmp_gt hx hb (hd rfl) ht kt kf
        · exact lv_icmp_le hx hb (hd rfl) ht kt kf
      · rw [if_neg h0] at h; cases h
    · cases h
  case goto off =>
    obtain ⟨h1, h2⟩ := jmp_inv h
    cases h2
    exact lv_goto hx hb (hd rfl) h1 (kk rfl rfl)
  case tableswitch d lo1 hi1 offs =>
    obtain ⟨n, hd, -⟩ := ins_dec hi
    simp only [stpI] at h
    split at h
    · rename_i x r
      try dsimp only at h
      split at h
      · rename_i o ho
        obtain ⟨h1, h2⟩ := jmp_inv h
        cases h2
        unfold swo at ho
        by_cases hx1 : x.toInt < lo1 ∨ hi1 < x.toInt
        · rw [if_pos hx1] at ho
          cases ho
          exact lv_tableOut hx hb hd hx1 h1 (kk rfl rfl)
        · rw [if_neg hx1] at ho
          exact lv_tableIn hx hb hd (fun q => hx1 (Or.inl q)) (fun q => hx1 (Or.inr q)) ho h1 (kk rfl rfl)
      · cases h
    · cases h
  case lookupswitch d ps =>
    obtain ⟨n, hd, -⟩ := ins_dec hi
    simp only [stpI] at h
    split at h
    · rename_i x r
      try dsimp only at h
      by_cases h0 : (ps.toList.zip (ps.toList.drop 1)).all (fun (a, next) => a.1 < next.1) = true
      · rw [if_pos h0] at h
        obtain ⟨h1, h2⟩ := jmp_inv h
        cases h2
        exact lv_lookup hx hb hd h0 rfl h1 (kk rfl rfl)
      · rw [if_neg h0] at h; cases h
    · cases h
end STEP
