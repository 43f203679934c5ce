/-! one row an instruction, for any method -/
section XROW
variable {y pc tgt : Nat} {ls st r : List Value} {σ : Hp} {K : Option Value → Hp → Prop}
theorem stp_eq {i : Instr} (h : ins y pc = some i) : stp y pc ls st σ = stpI y pc i ls st σ := by unfold stp; rw [h]
theorem X_iconst {n : Int} {v : Int32} (h : ins y pc = some (.iconst n)) (hv : Int32.ofInt n = v) : X y pc ls st σ K = X y (pc + 1) ls (.int v :: st) σ K := by subst hv; exact X_step ((stp_eq h).trans rfl)
theorem X_bipush {n : Int} {v : Int32} (h : ins y pc = some (.bipush n)) (hv : (Int8.ofInt n).toInt32 = v) : X y pc ls st σ K = X y (pc + 2) ls (.int v :: st) σ K := by subst hv; exact X_step ((stp_eq h).trans rfl)
theorem X_sipush {n : Int} {v : Int32} (h : ins y pc = some (.sipush n)) (hv : (Int16.ofInt n).toInt32 = v) : X y pc ls st σ K = X y (pc + 3) ls (.int v :: st) σ K := by subst hv; exact X_step ((stp_eq h).trans rfl)
theorem X_lconst {n : Fin 2} {v : Int64} (h : ins y pc = some (.lconst n)) (hv : Int64.ofNat (n : Nat) = v) : X y pc ls st σ K = X y (pc + 1) ls (.long v :: st) σ K := by subst hv; exact X_step ((stp_eq h).trans rfl)
theorem X_ldc {idx a b : Nat} {w : Int} {v : Int32} (h : ins y pc = some (.ldc idx)) (hl : lk (mO y) idx = some (14, a, b, w)) (hv : Int32.ofInt w = v) : X y pc ls st σ K = X y (pc + 2) ls (.int v :: st) σ K := by
  subst hv
  refine X_step ((stp_eq h).trans ?_)
  simp only [stpI, hl]
  rfl
theorem X_ldc2 {idx a b : Nat} {w : Int} {v : Int64} (h : ins y pc = some (.ldc2_w idx)) (hl : lk (mO y) idx = some (15, a, b, w)) (hv : Int64.ofInt w = v) : X y pc ls st σ K = X y (pc + 3) ls (.long v :: st) σ K := by
  subst hv
  refine X_step ((stp_eq h).trans ?_)
  simp only [stpI, hl]
  rfl
theorem ldI_of {pc' k : Nat} {x : Int32} (h : ls.getD k .null = .int x) : ldI pc' k ls st σ = some (.inl (pc', ls, .int x :: st, σ)) := by unfold ldI; rw [h]; rfl
theorem ldL_of {pc' k : Nat} {x : Int64} (h : ls.getD k .null = .long x) : ldL pc' k ls st σ = some (.inl (pc', ls, .long x :: st, σ)) := by unfold ldL; rw [h]; rfl
theorem ldA_of {pc' k : Nat} {x : Nat} (h : ls.getD k .null = .ref x) : ldA pc' k ls st σ = some (.inl (pc', ls, .ref x :: st, σ)) := by unfold ldA; rw [h]; rfl
theorem X_iload_n {k : Fin 4} {x : Int32} (h : ins y pc = some (.iload_n k)) (hg : ls.getD k .null = .int x) : X y pc ls st σ K = X y (pc + 1) ls (.int x :: st) σ K := X_step ((stp_eq h).trans (ldI_of hg))
theorem X_iload {k : Nat} {x : Int32} (h : ins y pc = some (.iload k)) (hg : ls.getD k .null = .int x) : X y pc ls st σ K = X y (pc + 2) ls (.int x :: st) σ K := X_step ((stp_eq h).trans (ldI_of hg))
theorem X_lload_n {k : Fin 4} {x : Int64} (h : ins y pc = some (.lload_n k)) (hg : ls.getD k .null = .long x) : X y pc ls st σ K = X y (pc + 1) ls (.long x :: st) σ K := X_step ((stp_eq h).trans (ldL_of hg))
theorem X_lload {k : Nat} {x : Int64} (h : ins y pc = some (.lload k)) (hg : ls.getD k .null = .long x) : X y pc ls st σ K = X y (pc + 2) ls (.long x :: st) σ K := X_step ((stp_eq h).trans (ldL_of hg))
theorem X_aload_n {k : Fin 4} {x : Nat} (h : ins y pc = some (.aload_n k)) (hg : ls.getD k .null = .ref x) : X y pc ls st σ K = X y (pc + 1) ls (.ref x :: st) σ K := X_step ((stp_eq h).trans (ldA_of hg))
theorem X_aload {k : Nat} {x : Nat} (h : ins y pc = some (.aload k)) (hg : ls.getD k .null = .ref x) : X y pc ls st σ K = X y (pc + 2) ls (.ref x :: st) σ K := X_step ((stp_eq h).trans (ldA_of hg))
theorem sto1_of {pc' k : Nat} {v w : Value} (hk : k < ls.length) (hg : ls.getD k .null = w) (hw : isD w = false) : sto1 pc' k v ls r σ = some (.inl (pc', ls.set k v, r, σ)) := by
  subst hg
  unfold sto1
  rw [hw]
  simp [hk, nx]
theorem sto2_of {pc' k : Nat} {v w : Value} (hk : k + 1 < ls.length) (hg : ls.getD k .null = w) (hw : isD w = false) : sto2 pc' k v ls r σ = some (.inl (pc', (ls.set k v).set (k + 1) (.double 0), r, σ)) := by
  subst hg
  unfold sto2
  rw [hw]
  simp [hk, nx]
theorem X_istore_n {k : Fin 4} {x : Int32} {w : Value} (h : ins y pc = some (.istore_n k)) (hk : k < ls.length) (hg : ls.getD k .null = w) (hw : isD w = false) : X y pc ls (.int x :: r) σ K = X y (pc + 1) (ls.set k (.int x)) r σ K := X_step ((stp_eq h).trans (sto1_of hk hg hw))
theorem X_istore {k : Nat} {x : Int32} {w : Value} (h : ins y pc = some (.istore k)) (hk : k < ls.length) (hg : ls.getD k .null = w) (hw : isD w = false) : X y pc ls (.int x :: r) σ K = X y (pc + 2) (ls.set k (.int x)) r σ K := X_step ((stp_eq h).trans (sto1_of hk hg hw))
theorem X_astore_n {k : Fin 4} {x : Nat} {w : Value} (h : ins y pc = some (.astore_n k)) (hk : k < ls.length) (hg : ls.getD k .null = w) (hw : isD w = false) : X y pc ls (.ref x :: r) σ K = X y (pc + 1) (ls.set k (.ref x)) r σ K := X_step ((stp_eq h).trans (sto1_of hk hg hw))
theorem X_astore {k : Nat} {x : Nat} {w : Value} (h : ins y pc = some (.astore k)) (hk : k < ls.length) (hg : ls.getD k .null = w) (hw : isD w = false) : X y pc ls (.ref x :: r) σ K = X y (pc + 2) (ls.set k (.ref x)) r σ K := X_step ((stp_eq h).trans (sto1_of hk hg hw))
theorem X_lstore_n {k : Fin 4} {x : Int64} {w : Value} (h : ins y pc = some (.lstore_n k)) (hk : k + 1 < ls.length) (hg : ls.getD k .null = w) (hw : isD w = false) : X y pc ls (.long x :: r) σ K = X y (pc + 1) ((ls.set k (.long x)).set (k + 1) (.double 0)) r σ K := X_step ((stp_eq h).trans (sto2_of hk hg hw))
theorem X_lstore {k : Nat} {x : Int64} {w : Value} (h : ins y pc = some (.lstore k)) (hk : k + 1 < ls.length) (hg : ls.getD k .null = w) (hw : isD w = false) : X y pc ls (.long x :: r) σ K = X y (pc + 2) ((ls.set k (.long x)).set (k + 1) (.double 0)) r σ K := X_step ((stp_eq h).trans (sto2_of hk hg hw))
theorem X_iinc {k : Nat} {n : Int} {x : Int32} {d : Int32} (h : ins y pc = some (.iinc k n)) (hd : Int32.ofInt n = d) (hg : ls.getD k .null = .int x) : X y pc ls st σ K = X y (pc + 3) (ls.set k (.int (x + d))) st σ K := by
  subst hd
  refine X_step ((stp_eq h).trans ?_)
  simp only [stpI]
  rw [hg]
  rfl
theorem X_iadd {a b : Int32} (h : ins y pc = some .iadd) : X y pc ls (.int b :: .int a :: r) σ K = X y (pc + 1) ls (.int (a + b) :: r) σ K := X_step ((stp_eq h).trans rfl)
theorem X_isub {a b : Int32} (h : ins y pc = some .isub) : X y pc ls (.int b :: .int a :: r) σ K = X y (pc + 1) ls (.int (a - b) :: r) σ K := X_step ((stp_eq h).trans rfl)
theorem X_imul {a b : Int32} (h : ins y pc = some .imul) : X y pc ls (.int b :: .int a :: r) σ K = X y (pc + 1) ls (.int (a * b) :: r) σ K := X_step ((stp_eq h).trans rfl)
theorem X_iand {a b : Int32} (h : ins y pc = some .iand) : X y pc ls (.int b :: .int a :: r) σ K = X y (pc + 1) ls (.int (a &&& b) :: r) σ K := X_step ((stp_eq h).trans rfl)
theorem X_idiv {a b : Int32} (h : ins y pc = some .idiv) (hb : ¬ b = 0) : X y pc ls (.int b :: .int a :: r) σ K = X y (pc + 1) ls (.int (a / b) :: r) σ K := X_step ((stp_eq h).trans (by simp only [stpI]; rw [if_neg hb]; rfl))
theorem X_irem {a b : Int32} (h : ins y pc = some .irem) (hb : ¬ b = 0) : X y pc ls (.int b :: .int a :: r) σ K = X y (pc + 1) ls (.int (a - a / b * b) :: r) σ K := X_step ((stp_eq h).trans (by simp only [stpI]; rw [if_neg hb]; rfl))
theorem X_ishr {a b : Int32} (h : ins y pc = some .ishr) : X y pc ls (.int b :: .int a :: r) σ K = X y (pc + 1) ls (.int (a >>> (b &&& 31)) :: r) σ K := X_step ((stp_eq h).trans rfl)
theorem X_ladd {a b : Int64} (h : ins y pc = some .ladd) : X y pc ls (.long b :: .long a :: r) σ K = X y (pc + 1) ls (.long (a + b) :: r) σ K := X_step ((stp_eq h).trans rfl)
theorem X_lmul {a b : Int64} (h : ins y pc = some .lmul) : X y pc ls (.long b :: .long a :: r) σ K = X y (pc + 1) ls (.long (a * b) :: r) σ K := X_step ((stp_eq h).trans rfl)
theorem X_land {a b : Int64} (h : ins y pc = some .land) : X y pc ls (.long b :: .long a :: r) σ K = X y (pc + 1) ls (.long (a &&& b) :: r) σ K := X_step ((stp_eq h).trans rfl)
theorem X_lor {a b : Int64} (h : ins y pc = some .lor) : X y pc ls (.long b :: .long a :: r) σ K = X y (pc + 1) ls (.long (a ||| b) :: r) σ K := X_step ((stp_eq h).trans rfl)
theorem X_lshl {a : Int64} {b : Int32} (h : ins y pc = some .lshl) : X y pc ls (.int b :: .long a :: r) σ K = X y (pc + 1) ls (.long (a <<< (b.toInt64 &&& 63)) :: r) σ K := X_step ((stp_eq h).trans rfl)
theorem X_lushr {a : Int64} {b : Int32} (h : ins y pc = some .lushr) : X y pc ls (.int b :: .long a :: r) σ K = X y (pc + 1) ls (.long (a.toUInt64 >>> (b.toInt64.toUInt64 &&& Int64.toUInt64 63)).toInt64 :: r) σ K := X_step ((stp_eq h).trans rfl)
theorem X_i2l {a : Int32} (h : ins y pc = some .i2l) : X y pc ls (.int a :: r) σ K = X y (pc + 1) ls (.long a.toInt64 :: r) σ K := X_step ((stp_eq h).trans rfl)
theorem X_l2i {a : Int64} (h : ins y pc = some .l2i) : X y pc ls (.long a :: r) σ K = X y (pc + 1) ls (.int a.toInt32 :: r) σ K := X_step ((stp_eq h).trans rfl)
theorem X_lcmp {a b : Int64} (h : ins y pc = some .lcmp) : X y pc ls (.long b :: .long a :: r) σ K = X y (pc + 1) ls (.int (lg_cmp a b) :: r) σ K := X_step ((stp_eq h).trans rfl)
theorem X_dupI {x : Int32} (h : ins y pc = some .dup) : X y pc ls (.int x :: r) σ K = X y (pc + 1) ls (.int x :: .int x :: r) σ K := X_step ((stp_eq h).trans rfl)
theorem X_dupA {x : Nat} (h : ins y pc = some .dup) : X y pc ls (.ref x :: r) σ K = X y (pc + 1) ls (.ref x :: .ref x :: r) σ K := X_step ((stp_eq h).trans rfl)
theorem X_dup2 {x : Int32} {a : Nat} (h : ins y pc = some .dup2) : X y pc ls (.int x :: .ref a :: r) σ K = X y (pc + 1) ls (.int x :: .ref a :: .int x :: .ref a :: r) σ K := X_step ((stp_eq h).trans rfl)
theorem X_pop {x : Int32} (h : ins y pc = some .pop) : X y pc ls (.int x :: r) σ K = X y (pc + 1) ls r σ K := X_step ((stp_eq h).trans rfl)
theorem jmp_of {off : Int} (ht : (pc : Int) + off = (tgt : Int)) : jmp pc off ls st σ = some (.inl (tgt, ls, st, σ)) := by
  unfold jmp
  rw [ht, if_pos (by omega)]
  rfl
theorem X_goto {off : Int} (h : ins y pc = some (.goto off)) (ht : (pc : Int) + off = (tgt : Int)) : X y pc ls st σ K = X y tgt ls st σ K := X_step ((stp_eq h).trans (jmp_of ht))
theorem X_if {k : ClassFile.Cond} {off : Int} {x : Int32} (h : ins y pc = some (.ifCond k off)) (ht : (pc : Int) + off = (tgt : Int)) : X y pc ls (.int x :: r) σ K = if cnd k x 0 = true then X y tgt ls r σ K else X y (pc + 3) ls r σ K := by
  by_cases hc : cnd k x 0 = true
  · rw [if_pos hc]
    refine X_step ((stp_eq h).trans ?_)
    simp only [stpI]
    rw [ht, if_pos (by omega), if_pos hc]
    rfl
  · rw [if_neg hc]
    refine X_step ((stp_eq h).trans ?_)
    simp only [stpI]
    rw [ht, if_pos (by omega), if_neg hc]
    rfl
theorem X_ic {k : ClassFile.Cond} {off : Int} {a b : Int32} (h : ins y pc = some (.if_icmp k off)) (ht : (pc : Int) + off = (tgt : Int)) : X y pc ls (.int b :: .int a :: r) σ K = if cnd k a b = true then X y tgt ls r σ K else X y (pc + 3) ls r σ K := by
  by_cases hc : cnd k a b = true
  · rw [if_pos hc]
    refine X_step ((stp_eq h).trans ?_)
    simp only [stpI]
    rw [ht, if_pos (by omega), if_pos hc]
    rfl
  · rw [if_neg hc]
    refine X_step ((stp_eq h).trans ?_)
    simp only [stpI]
    rw [ht, if_pos (by omega), if_neg hc]
    rfl
theorem ite_c {α : Sort _} {p q : Prop} {_ : Decidable p} {_ : Decidable q} (h : p ↔ q) {a b : α} : (if p then a else b) = if q then a else b := by
  by_cases hp : p
  · rw [if_pos hp, if_pos (h.mp hp)]
  · rw [if_neg hp, if_neg (fun z => hp (h.mpr z))]
theorem ite_n {α : Sort _} {p q : Prop} {_ : Decidable p} {_ : Decidable q} (h : p ↔ ¬ q) {a b : α} : (if p then a else b) = if q then b else a := by
  by_cases hq : q
  · rw [if_neg (fun z => h.mp z hq), if_pos hq]
  · rw [if_pos (h.mpr hq), if_neg hq]
theorem X_if_eq {off : Int} {x : Int32} (h : ins y pc = some (.ifCond .eq off)) (ht : (pc : Int) + off = (tgt : Int)) : X y pc ls (.int x :: r) σ K = if x = 0 then X y tgt ls r σ K else X y (pc + 3) ls r σ K := (X_if h ht).trans (ite_c (by simp [cnd]))
theorem X_if_ne {off : Int} {x : Int32} (h : ins y pc = some (.ifCond .ne off)) (ht : (pc : Int) + off = (tgt : Int)) : X y pc ls (.int x :: r) σ K = if x = 0 then X y (pc + 3) ls r σ K else X y tgt ls r σ K := (X_if h ht).trans (ite_n (by simp [cnd]))
theorem X_if_lt {off : Int} {x : Int32} (h : ins y pc = some (.ifCond .lt off)) (ht : (pc : Int) + off = (tgt : Int)) : X y pc ls (.int x :: r) σ K = if x < 0 then X y tgt ls r σ K else X y (pc + 3) ls r σ K := (X_if h ht).trans (ite_c (by simp [cnd]))
theorem X_if_ge {off : Int} {x : Int32} (h : ins y pc = some (.ifCond .ge off)) (ht : (pc : Int) + off = (tgt : Int)) : X y pc ls (.int x :: r) σ K = if x < 0 then X y (pc + 3) ls r σ K else X y tgt ls r σ K := (X_if h ht).trans (ite_n (by simp [cnd, Int32.not_lt]))
theorem X_if_gt {off : Int} {x : Int32} (h : ins y pc = some (.ifCond .gt off)) (ht : (pc : Int) + off = (tgt : Int)) : X y pc ls (.int x :: r) σ K = if 0 < x then X y tgt ls r σ K else X y (pc + 3) ls r σ K := (X_if h ht).trans (ite_c (by simp [cnd]))
theorem X_if_le {off : Int} {x : Int32} (h : ins y pc = some (.ifCond .le off)) (ht : (pc : Int) + off = (tgt : Int)) : X y pc ls (.int x :: r) σ K = if 0 < x then X y (pc + 3) ls r σ K else X y tgt ls r σ K := (X_if h ht).trans (ite_n (by simp [cnd, Int32.not_lt]))
theorem X_ic_eq {off : Int} {a b : Int32} (h : ins y pc = some (.if_icmp .eq off)) (ht : (pc : Int) + off = (tgt : Int)) : X y pc ls (.int b :: .int a :: r) σ K = if a = b then X y tgt ls r σ K else X y (pc + 3) ls r σ K := (X_ic h ht).trans (ite_c (by simp [cnd]))
theorem X_ic_ne {off : Int} {a b : Int32} (h : ins y pc = some (.if_icmp .ne off)) (ht : (pc : Int) + off = (tgt : Int)) : X y pc ls (.int b :: .int a :: r) σ K = if a = b then X y (pc + 3) ls r σ K else X y tgt ls r σ K := (X_ic h ht).trans (ite_n (by simp [cnd]))
theorem X_ic_lt {off : Int} {a b : Int32} (h : ins y pc = some (.if_icmp .lt off)) (ht : (pc : Int) + off = (tgt : Int)) : X y pc ls (.int b :: .int a :: r) σ K = if a < b then X y tgt ls r σ K else X y (pc + 3) ls r σ K := (X_ic h ht).trans (ite_c (by simp [cnd]))
theorem X_ic_ge {off : Int} {a b : Int32} (h : ins y pc = some (.if_icmp .ge off)) (ht : (pc : Int) + off = (tgt : Int)) : X y pc ls (.int b :: .int a :: r) σ K = if a < b then X y (pc + 3) ls r σ K else X y tgt ls r σ K := (X_ic h ht).trans (ite_n (by simp [cnd, Int32.not_lt]))
theorem X_ic_gt {off : Int} {a b : Int32} (h : ins y pc = some (.if_icmp .gt off)) (ht : (pc : Int) + off = (tgt : Int)) : X y pc ls (.int b :: .int a :: r) σ K = if b < a then X y tgt ls r σ K else X y (pc + 3) ls r σ K := (X_ic h ht).trans (ite_c (by simp [cnd]))
theorem X_ic_le {off : Int} {a b : Int32} (h : ins y pc = some (.if_icmp .le off)) (ht : (pc : Int) + off = (tgt : Int)) : X y pc ls (.int b :: .int a :: r) σ K = if b < a then X y (pc + 3) ls r σ K else X y tgt ls r σ K := (X_ic h ht).trans (ite_n (by simp [cnd, Int32.not_lt]))
theorem X_ts {d lo hi o : Int} {offs : Array Int} {x : Int32} (h : ins y pc = some (.tableswitch d lo hi offs)) (hs : swo d lo hi offs x.toInt = some o) (ht : (pc : Int) + o = (tgt : Int)) : X y pc ls (.int x :: r) σ K = X y tgt ls r σ K := by
  refine X_step ((stp_eq h).trans ?_)
  simp only [stpI]
  rw [hs]
  exact jmp_of ht
theorem X_lsw {d o : Int} {ps : Array (Int × Int)} {x : Int32} (h : ins y pc = some (.lookupswitch d ps)) (hp : (ps.toList.zip (ps.toList.drop 1)).all (fun (a, next) => a.1 < next.1) = true) (hs : Op.lookupswitch.offset ps.toList d x.toInt = o) (ht : (pc : Int) + o = (tgt : Int)) : X y pc ls (.int x :: r) σ K = X y tgt ls r σ K := by
  subst hs
  refine X_step ((stp_eq h).trans ?_)
  simp only [stpI]
  rw [if_pos hp]
  exact jmp_of ht
theorem X_getf {idx k ci f a : Nat} {w : Int} (h : ins y pc = some (.getfield idx)) (hl : lk (mO y) idx = some (k, ci, f, w)) (hk : (Nat.beq k 10 || Nat.beq k 11) = true) (hf : f < cN ci) (ho : okF σ a ci f = true) : X y pc ls (.ref a :: r) σ K = X y (pc + 3) ls (gF σ a f :: r) σ K := by
  refine X_step ((stp_eq h).trans ?_)
  simp only [stpI, hl, hk, ho, hf]
  rfl
theorem X_putf {idx k ci f a : Nat} {w : Int} {v : Value} (h : ins y pc = some (.putfield idx)) (hl : lk (mO y) idx = some (k, ci, f, w)) (hk : (Nat.beq k 10 || Nat.beq k 11) = true) (hf : f < cN ci) (hv : okV (cY ci f) v = true) (hm : (!((cT ci f).2.2.2) || (Nat.beq k 10 && decide ((mN y).name = "<init>") && Nat.beq (mO y) ci)) = true) (ho : okF σ a ci f = true) : X y pc ls (v :: .ref a :: r) σ K = X y (pc + 3) ls r (pF σ a f v) K := by
  refine X_step ((stp_eq h).trans ?_)
  simp only [stpI, hl, hk, ho, hf, hv, hm]
  rfl
theorem X_iald {a : Nat} {j : Int32} (h : ins y pc = some .iaload) (ho : okA σ 0 a j = true) : X y pc ls (.int j :: .ref a :: r) σ K = X y (pc + 1) ls (.int (gA σ a j) :: r) σ K := X_step ((stp_eq h).trans (by simp only [stpI]; rw [if_pos ho]; rfl))
theorem X_aald {a q : Nat} {j : Int32} (h : ins y pc = some .aaload) (ho : okQ σ a j = true) (hq : gQ σ a j = some q) : X y pc ls (.int j :: .ref a :: r) σ K = X y (pc + 1) ls (.ref q :: r) σ K := X_step ((stp_eq h).trans (by simp only [stpI]; rw [if_pos ho, hq]; rfl))
theorem X_iast {a : Nat} {j x : Int32} (h : ins y pc = some .iastore) (ho : okB σ 0 a j = true) : X y pc ls (.int x :: .int j :: .ref a :: r) σ K = X y (pc + 1) ls r (pA σ a j x) K := X_step ((stp_eq h).trans (by simp only [stpI]; rw [if_pos ho]; rfl))
theorem X_aast {a v : Nat} {j : Int32} (h : ins y pc = some .aastore) (ho : okQw σ a j v = true) : X y pc ls (.ref v :: .int j :: .ref a :: r) σ K = X y (pc + 1) ls r (pQ σ a j v) K := X_step ((stp_eq h).trans (by simp only [stpI]; rw [if_pos ho]; rfl))
theorem X_alen {a : Nat} (h : ins y pc = some .arraylength) (ho : okL σ a = true) : X y pc ls (.ref a :: r) σ K = X y (pc + 1) ls (.int (gL σ a) :: r) σ K := X_step ((stp_eq h).trans (by simp only [stpI]; rw [if_pos ho]; rfl))
theorem X_new {idx ci b N : Nat} {w : Int} {vs : List Value} (h : ins y pc = some (.new idx)) (hl : lk (mO y) idx = some (12, ci, b, w)) (hc : ci < vcl.length) (hv : cV ci = vs) (hN : cN ci = N) : X y pc ls st σ K = X y (pc + 3) ls (.ref σ.2.1 :: st) (hnew σ (.inl (ci, vs)) N) K := by
  subst hv
  subst hN
  refine X_step ((stp_eq h).trans ?_)
  simp only [stpI, hl, hc]
  rfl
theorem X_newI {n : Int32} {N : Nat} (h : ins y pc = some (.newarray .int)) (hn : ¬ n < 0) (hN : n.toNatClampNeg = N) (hb : N * 4 ≤ 536870912) : X y pc ls (.int n :: r) σ K = X y (pc + 2) ls (.ref σ.2.1 :: r) (hnew σ (.inr (.inl (0, N, fun _ => 0))) N) K := by
  subst hN
  refine X_step ((stp_eq h).trans ?_)
  simp only [stpI, hn, hb]
  rfl
theorem X_newQ {idx ci b t N : Nat} {w : Int} {n : Int32} (h : ins y pc = some (.anewarray idx)) (hl : lk (mO y) (idx + 100000) = some (13, ci, b, w)) (hc : (Nat.beq ci 5 || Nat.beq ci 4) = true) (ht : (if ci = 5 then 2 else 3) = t) (hn : ¬ n < 0) (hN : n.toNatClampNeg = N) (hb : N * 4 ≤ 536870912) : X y pc ls (.int n :: r) σ K = X y (pc + 3) ls (.ref σ.2.1 :: r) (hnew σ (.inr (.inr (.inl (t, N, fun _ => none)))) N) K := by
  subst hN
  subst ht
  refine X_step ((stp_eq h).trans ?_)
  simp only [stpI, hl, hc, hn, hb]
  rfl
theorem callZ_of {z : Nat} {as : List Value} (hm : mF z + 1 ≤ mF y ∧ 19 + mL z + mW z ≤ mW y) (h3 : (entL0 as).length ≤ mL z) (hr : (r.map fun v => v.category).sum ≤ 8) : callZ y z as r = some (.inr (.inl (z, as, r))) := by
  unfold callZ rmOK
  rw [decide_eq_true hm.1, decide_eq_true hm.2, decide_eq_true h3, decide_eq_true hr]
  rfl
theorem X_invV {idx k z b n q : Nat} {w0 : Nat} {w : Int} {as en : List Value} (h : ins y pc = some (.invokevirtual idx)) (hl : lk (mO y) idx = some (k, z, w0, w)) (hk : Nat.ble k 1 = true) (hn : mA z = n) (hL : mL z = q) (hen : entL (.ref b :: as) q = en) (hla : as.length = n) (hm : mF z + 1 ≤ mF y ∧ 19 + mL z + mW z ≤ mW y) (h3 : (entL0 (.ref b :: as)).length ≤ q) (ho : okO σ b (mO z) = true) (hr : r.length ≤ 4) : X y pc ls (as.reverse ++ .ref b :: r) σ K = X z 0 en [] σ (fun v σ' => X y (pc + 3) ls (pushO v r) σ' K) := by
  rw [← hen, ← hL]
  refine X_call ((stp_eq h).trans ?_)
  have e1 : (as.reverse ++ .ref b :: r).drop (mA z) = .ref b :: r := by rw [hn, List.drop_append_of_le_length (by simp; omega)]; simp [← hla]
  have e2 : ((as.reverse ++ .ref b :: r).take (mA z)).reverse = as := by rw [hn, List.take_append_of_le_length (by simp; omega), List.take_of_length_le (by simp; omega), List.reverse_reverse]
  have e3 : decide (mA z ≤ (as.reverse ++ .ref b :: r).length) = true := by rw [hn]; simp; omega
  simp only [stpI, hl, hk, e3]
  rw [e1]
  simp only [ho, e2]
  exact callZ_of hm (by rw [hL]; exact h3) (restW hr)
theorem X_invI2 {idx k z b n q : Nat} {w0 : Nat} {w : Int} {as en : List Value} (h : ins y pc = some (.invokespecial idx)) (hl : lk (mO y) idx = some (k, z, w0, w)) (hk : k = 4 ∨ k = 5) (hn : mA z = n) (hni : (decide ((mN z).name = "<init>") && decide (mR z = none)) = true) (hL : mL z = q) (hen : entL (.ref b :: as) q = en) (hla : as.length = n) (hm : mF z + 1 ≤ mF y ∧ 19 + mL z + mW z ≤ mW y) (h3 : (entL0 (.ref b :: as)).length ≤ q) (hr : (r.map fun v => v.category).sum ≤ 8) : X y pc ls (as.reverse ++ .ref b :: r) σ K = X z 0 en [] σ (fun v σ' => X y (pc + 3) ls (pushO v r) σ' K) := by
  rw [← hen, ← hL]
  refine X_call ((stp_eq h).trans ?_)
  have e1 : (as.reverse ++ .ref b :: r).drop (mA z) = .ref b :: r := by rw [hn, List.drop_append_of_le_length (by simp; omega)]; simp [← hla]
  have e2 : ((as.reverse ++ .ref b :: r).take (mA z)).reverse = as := by rw [hn, List.take_append_of_le_length (by simp; omega), List.take_of_length_le (by simp; omega), List.reverse_reverse]
  have e3 : decide (mA z ≤ (as.reverse ++ .ref b :: r).length) = true := by rw [hn]; simp; omega
  simp only [Bool.and_eq_true] at hni
  rcases hk with rfl | rfl
  · simp only [stpI, hl, e3, hni.1, hni.2]
    rw [e1]
    simp only [e2]
    exact callZ_of hm (by rw [hL]; exact h3) hr
  · simp only [stpI, hl, e3, hni.1, hni.2]
    rw [e1]
    simp only [e2]
    exact callZ_of hm (by rw [hL]; exact h3) hr
theorem X_invI {idx k z b n q : Nat} {w0 : Nat} {w : Int} {as en : List Value} (h : ins y pc = some (.invokespecial idx)) (hl : lk (mO y) idx = some (k, z, w0, w)) (hk : k = 4 ∨ k = 5) (hn : mA z = n) (hni : (decide ((mN z).name = "<init>") && decide (mR z = none)) = true) (hL : mL z = q) (hen : entL (.ref b :: as) q = en) (hla : as.length = n) (hm : mF z + 1 ≤ mF y ∧ 19 + mL z + mW z ≤ mW y) (h3 : (entL0 (.ref b :: as)).length ≤ q) (hr : r.length ≤ 4) : X y pc ls (as.reverse ++ .ref b :: r) σ K = X z 0 en [] σ (fun v σ' => X y (pc + 3) ls (pushO v r) σ' K) := X_invI2 h hl hk hn hni hL hen hla hm h3 (restW hr)
theorem X_invO {idx a w1 w2 : Nat} {w : Int} (h : ins y pc = some (.invokespecial idx)) (hl : lk (mO y) idx = some (6, w1, w2, w)) (hm : (decide (1 ≤ mF y) && decide (8 + 12 ≤ mW y)) = true) (hr : r.length ≤ 4) : X y pc ls (.ref a :: r) σ K = X y (pc + 3) ls r σ K := by
  refine X_step ((stp_eq h).trans ?_)
  simp only [stpI, hl, rm0K, hm, decide_eq_true hr]
  rfl
theorem X_invS {idx k z n q : Nat} {w0 : Nat} {w : Int} {as en : List Value} (h : ins y pc = some (.invokestatic idx)) (hl : lk (mO y) idx = some (k, z, w0, w)) (hk : k = 2 ∨ k = 3) (hn : mA z = n) (hL : mL z = q) (hen : entL as q = en) (hla : as.length = n) (hm : mF z + 1 ≤ mF y ∧ 19 + mL z + mW z ≤ mW y) (h3 : (entL0 as).length ≤ q) (hr : r.length ≤ 4) : X y pc ls (as.reverse ++ r) σ K = X z 0 en [] σ (fun v σ' => X y (pc + 3) ls (pushO v r) σ' K) := by
  rw [← hen, ← hL]
  refine X_call ((stp_eq h).trans ?_)
  have e1 : (as.reverse ++ r).drop (mA z) = r := by rw [hn, List.drop_append_of_le_length (by simp; omega)]; simp [← hla]
  have e2 : ((as.reverse ++ r).take (mA z)).reverse = as := by rw [hn, List.take_append_of_le_length (by simp; omega), List.take_of_length_le (by simp; omega), List.reverse_reverse]
  have e3 : decide (mA z ≤ (as.reverse ++ r).length) = true := by rw [hn]; simp; omega
  rcases hk with rfl | rfl
  · simp only [stpI, hl, e3]
    rw [e1, e2]
    exact callZ_of hm (by rw [hL]; exact h3) (restW hr)
  · simp only [stpI, hl, e3]
    rw [e1, e2]
    exact callZ_of hm (by rw [hL]; exact h3) (restW hr)
theorem X_max {idx w1 w2 : Nat} {w : Int} {a b : Int32} (h : ins y pc = some (.invokestatic idx)) (hl : lk (mO y) idx = some (7, w1, w2, w)) (hm : (decide (1 ≤ mF y) && decide (8 + 13 ≤ mW y)) = true) (hr : r.length ≤ 4) : X y pc ls (.int b :: .int a :: r) σ K = X y (pc + 3) ls (.int (if a < b then b else a) :: r) σ K := by
  refine X_step ((stp_eq h).trans ?_)
  simp only [stpI, hl, rm0K, hm, decide_eq_true hr]
  rfl
theorem X_min {idx w1 w2 : Nat} {w : Int} {a b : Int32} (h : ins y pc = some (.invokestatic idx)) (hl : lk (mO y) idx = some (8, w1, w2, w)) (hm : (decide (1 ≤ mF y) && decide (8 + 13 ≤ mW y)) = true) (hr : r.length ≤ 4) : X y pc ls (.int b :: .int a :: r) σ K = X y (pc + 3) ls (.int (if b < a then b else a) :: r) σ K := by
  refine X_step ((stp_eq h).trans ?_)
  simp only [stpI, hl, rm0K, hm, decide_eq_true hr]
  rfl
theorem X_cpy {idx w1 w2 a b : Nat} {w : Int} {sp dp n : Int32} (h : ins y pc = some (.invokestatic idx)) (hl : lk (mO y) idx = some (9, w1, w2, w)) (hm : (decide (1 ≤ mF y) && decide (8 + 18 ≤ mW y)) = true) (hr : r.length ≤ 4) (ho : okC σ a sp b dp n = true) : X y pc ls (.int n :: .int dp :: .ref b :: .int sp :: .ref a :: r) σ K = X y (pc + 3) ls r (pC σ a sp b dp n) K := by
  refine X_step ((stp_eq h).trans ?_)
  simp only [stpI, hl, rm0K, hm, decide_eq_true hr, ho]
  rfl
theorem X_iret {x : Int32} (h : ins y pc = some .ireturn) (hr : mR y = some .int) : X y pc ls [.int x] σ K = K (some (.int x)) σ := X_ret ((stp_eq h).trans (by simp only [stpI, hr, retOK]; rfl))
theorem X_zret {x : Int32} (h : ins y pc = some .ireturn) (hr : mR y = some .boolean) (hx : (x == 0 || x == 1) = true) : X y pc ls [.int x] σ K = K (some (.int x)) σ := X_ret ((stp_eq h).trans (by simp only [stpI, hr, retOK, hx]; rfl))
theorem X_lret {x : Int64} (h : ins y pc = some .lreturn) (hr : mR y = some .long) : X y pc ls [.long x] σ K = K (some (.long x)) σ := X_ret ((stp_eq h).trans (by simp only [stpI, hr]))
theorem X_vret (h : ins y pc = some .return_) (hr : mR y = none) : X y pc ls [] σ K = K none σ := X_ret ((stp_eq h).trans (by simp only [stpI, hr]))
theorem X_aret {a : Nat} {C : String} (h : ins y pc = some .areturn) (hr : mR y = some (.object C)) : X y pc ls [.ref a] σ K = K (some (.ref a)) σ := X_ret ((stp_eq h).trans (by simp only [stpI, hr]))
end XROW
theorem ts_out {lo hi : Int} {offs : Array Int} {d : Int} {x : Int} (h : x < lo ∨ hi < x) : swo d lo hi offs x = some d := by unfold swo; rw [if_pos h]
