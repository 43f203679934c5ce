/-! a small machine over pure cells: what a method's bytecode does, as a function with fuel -/
abbrev AC : Type := (Nat × List Value) ⊕ ((Nat × Nat × (Nat → Int32)) ⊕ ((Nat × Nat × (Nat → Option Nat)) ⊕ (Nat × (Nat → Int32))))
abbrev Hp : Type := (Nat → Option AC) × (Nat × Nat)
abbrev cO (ci : Nat) (fs : List Value) : AC := .inl (ci, fs)
abbrev cI (t n : Nat) (f : Nat → Int32) : AC := .inr (.inl (t, n, f))
abbrev cQ (t n : Nat) (f : Nat → Option Nat) : AC := .inr (.inr (.inl (t, n, f)))
abbrev cS (n : Nat) (f : Nat → Int32) : AC := .inr (.inr (.inr (n, f)))
def hset (σ : Hp) (a : Nat) (x : AC) : Hp := (fun q => if q = a then some x else σ.1 q, σ.2)
def hnew (σ : Hp) (x : AC) (n : Nat) : Hp := (fun q => if q = σ.2.1 then some x else σ.1 q, (σ.2.1 + 1, σ.2.2 + n))
def inB (i : Int32) (n : Nat) : Bool := decide (¬ (i < 0 ∨ n ≤ i.toNatClampNeg))
def gF (σ : Hp) (a k : Nat) : Value := match σ.1 a with
  | some (.inl (_, fs)) => fs.getD k .null
  | _ => .null
def okF (σ : Hp) (a ci k : Nat) : Bool := match σ.1 a with
  | some (.inl (ci', fs)) => Nat.beq ci' ci && decide (k < fs.length)
  | _ => false
def okO (σ : Hp) (a ci : Nat) : Bool := match σ.1 a with
  | some (.inl (ci', _)) => Nat.beq ci' ci
  | _ => false
def pF (σ : Hp) (a k : Nat) (v : Value) : Hp := match σ.1 a with
  | some (.inl (ci, fs)) => hset σ a (.inl (ci, fs.set k v))
  | _ => σ
def gA (σ : Hp) (a : Nat) (i : Int32) : Int32 := match σ.1 a with
  | some (.inr (.inl (_, _, f))) => f i.toNatClampNeg
  | some (.inr (.inr (.inr (_, f)))) => f i.toNatClampNeg
  | _ => 0
def okA (σ : Hp) (t a : Nat) (i : Int32) : Bool := match σ.1 a with
  | some (.inr (.inl (t', n, _))) => Nat.beq t' t && inB i n
  | some (.inr (.inr (.inr (n, _)))) => Nat.beq t 0 && inB i n
  | _ => false
def okB (σ : Hp) (t a : Nat) (i : Int32) : Bool := match σ.1 a with
  | some (.inr (.inl (t', n, _))) => Nat.beq t' t && inB i n
  | _ => false
def pA (σ : Hp) (a : Nat) (i x : Int32) : Hp := match σ.1 a with
  | some (.inr (.inl (t, n, f))) => hset σ a (.inr (.inl (t, n, upd f i.toNatClampNeg x)))
  | _ => σ
def gQ (σ : Hp) (a : Nat) (i : Int32) : Option Nat := match σ.1 a with
  | some (.inr (.inr (.inl (_, _, f)))) => f i.toNatClampNeg
  | _ => none
def okQ (σ : Hp) (a : Nat) (i : Int32) : Bool := match σ.1 a with
  | some (.inr (.inr (.inl (t, n, _)))) => (Nat.beq t 2 || Nat.beq t 3) && inB i n
  | _ => false
def elC (t : Nat) : Nat := if t = 2 then 5 else 4
def okQw (σ : Hp) (a : Nat) (i : Int32) (v : Nat) : Bool := match σ.1 a with
  | some (.inr (.inr (.inl (t, n, _)))) => (Nat.beq t 2 || Nat.beq t 3) && inB i n && okO σ v (elC t)
  | _ => false
def pQ (σ : Hp) (a : Nat) (i : Int32) (v : Nat) : Hp := match σ.1 a with
  | some (.inr (.inr (.inl (t, n, f)))) => hset σ a (.inr (.inr (.inl (t, n, va_up f i.toNatClampNeg (some v)))))
  | _ => σ
def gL (σ : Hp) (a : Nat) : Int32 := match σ.1 a with
  | some (.inr (.inl (_, n, _))) => nI n
  | some (.inr (.inr (.inl (_, n, _)))) => nI n
  | some (.inr (.inr (.inr (n, _)))) => nI n
  | _ => 0
def okL (σ : Hp) (a : Nat) : Bool := match σ.1 a with
  | some (.inr (.inl (t, _, _))) => Nat.beq t 0 || Nat.beq t 1
  | some (.inr (.inr (.inl (t, _, _)))) => Nat.beq t 2 || Nat.beq t 3
  | some (.inr (.inr (.inr _))) => true
  | _ => false
/-- System.arraycopy between rows of ints -/
def okC (σ : Hp) (a : Nat) (sp : Int32) (b : Nat) (dp n : Int32) : Bool := match σ.1 a, σ.1 b with
  | some (.inr (.inl (t, n0, _))), some (.inr (.inl (t', n1, _))) => Nat.beq t 0 && Nat.beq t' 0 && decide (¬ sp < 0) && decide (¬ dp < 0) && decide (¬ n < 0) && decide (sp.toNatClampNeg + n.toNatClampNeg ≤ n0) && decide (dp.toNatClampNeg + n.toNatClampNeg ≤ n1)
  | _, _ => false
/-- a copy, and behind the row's end the other row's own values: so a whole copy is the other row -/
def cpyF (f g : Nat → Int32) (sp dp n n1 : Nat) : Nat → Int32 := fun k => if k < n1 then va_cpy f g sp dp n k else f k
def pC (σ : Hp) (a : Nat) (sp : Int32) (b : Nat) (dp n : Int32) : Hp := match σ.1 a, σ.1 b with
  | some (.inr (.inl (_, _, f))), some (.inr (.inl (t', n1, g))) => hset σ b (.inr (.inl (t', n1, cpyF f g sp.toNatClampNeg dp.toNatClampNeg n.toNatClampNeg n1)))
  | _, _ => σ
def okV : FieldType → Value → Bool
  | .int, .int _ => true
  | .boolean, .int x => x == 0 || x == 1
  | .object _, .ref _ => true
  | .array _, .ref _ => true
  | _, _ => false
def isD : Value → Bool
  | .double _ => true
  | _ => false
def isN : Value → Bool
  | .null => true
  | _ => false
def entL0 (as : List Value) : List Value := as.flatMap fun v => if v.category = 2 then [v, .double 0] else [v]
def entL (as : List Value) (n : Nat) : List Value := entL0 as ++ List.replicate (n - (entL0 as).length) .null
def pushO : Option Value → List Value → List Value
  | some v, r => v :: r
  | none, r => r
def ilen : Instr → Nat
  | .iload _ | .lload _ | .aload _ | .istore _ | .lstore _ | .astore _ | .bipush _ | .ldc _ | .newarray _ => 2
  | .sipush _ | .ldc2_w _ | .getfield _ | .putfield _ | .goto _ | .ifCond _ _ | .if_icmp _ _ | .iinc _ _ | .invokevirtual _ | .invokespecial _ | .invokestatic _ | .new _ | .anewarray _ => 3
  | _ => 1
def isSw : Instr → Bool
  | .tableswitch .. => true
  | .lookupswitch .. => true
  | _ => false
def ins (y pc : Nat) : Option Instr := match decode (mC y) pc with
  | .ok (i, n) => if isSw i || Nat.beq n (ilen i) then some i else none
  | .error _ => none
abbrev Rs : Type := Option ((Nat × List Value × List Value × Hp) ⊕ ((Nat × List Value × List Value) ⊕ Option Value))
def nx (pc : Nat) (ls st : List Value) (σ : Hp) : Rs := some (.inl (pc, ls, st, σ))
def jmp (pc : Nat) (off : Int) (ls st : List Value) (σ : Hp) : Rs := if 0 ≤ (pc : Int) + off then nx ((pc : Int) + off).toNat ls st σ else none
def rmOK (y z : Nat) (r : List Value) : Bool := decide (mF z + 1 ≤ mF y) && decide (19 + mL z + mW z ≤ mW y) && decide ((r.map fun v => v.category).sum ≤ 8)
def rm0K (y w : Nat) (r : List Value) : Bool := decide (1 ≤ mF y) && decide (8 + w ≤ mW y) && decide (r.length ≤ 4)
def callZ (y z : Nat) (as r : List Value) : Rs := if rmOK y z r && decide ((entL0 as).length ≤ mL z) then some (.inr (.inl (z, as, r))) else none
def retOK : Option FieldType → Int32 → Bool
  | some .int, _ => true
  | some .boolean, v => v == 0 || v == 1
  | _, _ => false
def sto1 (pc' k : Nat) (v : Value) (ls r : List Value) (σ : Hp) : Rs := if decide (k < ls.length) && !(isD (ls.getD k .null)) then nx pc' (ls.set k v) r σ else none
def sto2 (pc' k : Nat) (v : Value) (ls r : List Value) (σ : Hp) : Rs := if decide (k + 1 < ls.length) && !(isD (ls.getD k .null)) then nx pc' ((ls.set k v).set (k + 1) (.double 0)) r σ else none
def ldI (pc' k : Nat) (ls st : List Value) (σ : Hp) : Rs := match ls.getD k .null with
  | .int x => nx pc' ls (.int x :: st) σ
  | _ => none
def ldL (pc' k : Nat) (ls st : List Value) (σ : Hp) : Rs := match ls.getD k .null with
  | .long x => nx pc' ls (.long x :: st) σ
  | _ => none
def ldA (pc' k : Nat) (ls st : List Value) (σ : Hp) : Rs := match ls.getD k .null with
  | .ref x => nx pc' ls (.ref x :: st) σ
  | _ => none
def stI (pc' k : Nat) (ls st : List Value) (σ : Hp) : Rs := match st with
  | .int x :: r => sto1 pc' k (.int x) ls r σ
  | _ => none
def stL (pc' k : Nat) (ls st : List Value) (σ : Hp) : Rs := match st with
  | .long x :: r => sto2 pc' k (.long x) ls r σ
  | _ => none
def stA (pc' k : Nat) (ls st : List Value) (σ : Hp) : Rs := match st with
  | .ref x :: r => sto1 pc' k (.ref x) ls r σ
  | _ => none
def bin (pc : Nat) (op : Int32 → Int32 → Int32) (ls st : List Value) (σ : Hp) : Rs := match st with
  | .int b :: .int a :: r => nx (pc + 1) ls (.int (op a b) :: r) σ
  | _ => none
def binL (pc : Nat) (op : Int64 → Int64 → Int64) (ls st : List Value) (σ : Hp) : Rs := match st with
  | .long b :: .long a :: r => nx (pc + 1) ls (.long (op a b) :: r) σ
  | _ => none
def cnd (k : ClassFile.Cond) (x y : Int32) : Bool := match k with
  | .eq => decide (x = y)
  | .ne => decide (¬ x = y)
  | .lt => decide (x < y)
  | .ge => decide (y ≤ x)
  | .gt => decide (y < x)
  | .le => decide (x ≤ y)
def swo (d lo hi : Int) (offs : Array Int) (x : Int) : Option Int := if x < lo ∨ hi < x then some d else offs[(x - lo).toNat]?
def stpI (y pc : Nat) (i : Instr) (ls st : List Value) (σ : Hp) : Rs := match i with
  | .iconst n => nx (pc + 1) ls (.int (Int32.ofInt n) :: st) σ
  | .bipush n => nx (pc + 2) ls (.int (Int8.ofInt n).toInt32 :: st) σ
  | .sipush n => nx (pc + 3) ls (.int (Int16.ofInt n).toInt32 :: st) σ
  | .lconst n => nx (pc + 1) ls (.long (Int64.ofNat (n : Nat)) :: st) σ
  | .ldc idx => match lk (mO y) idx with
    | some (14, _, _, v) => nx (pc + 2) ls (.int (Int32.ofInt v) :: st) σ
    | _ => none
  | .ldc2_w idx => match lk (mO y) idx with
    | some (15, _, _, v) => nx (pc + 3) ls (.long (Int64.ofInt v) :: st) σ
    | _ => none
  | .iload_n k => ldI (pc + 1) k ls st σ
  | .iload k => ldI (pc + 2) k ls st σ
  | .lload_n k => ldL (pc + 1) k ls st σ
  | .lload k => ldL (pc + 2) k ls st σ
  | .aload_n k => ldA (pc + 1) k ls st σ
  | .aload k => ldA (pc + 2) k ls st σ
  | .istore_n k => stI (pc + 1) k ls st σ
  | .istore k => stI (pc + 2) k ls st σ
  | .lstore_n k => stL (pc + 1) k ls st σ
  | .lstore k => stL (pc + 2) k ls st σ
  | .astore_n k => stA (pc + 1) k ls st σ
  | .astore k => stA (pc + 2) k ls st σ
  | .iinc k n => match ls.getD k .null with
    | .int x => nx (pc + 3) (ls.set k (.int (x + Int32.ofInt n))) st σ
    | _ => none
  | .iadd => bin pc (fun a b => a + b) ls st σ
  | .isub => bin pc (fun a b => a - b) ls st σ
  | .imul => bin pc (fun a b => a * b) ls st σ
  | .iand => bin pc (fun a b => a &&& b) ls st σ
  | .ishr => bin pc (fun a b => a >>> (b &&& 31)) ls st σ
  | .idiv => match st with
    | .int b :: .int a :: r => if b = 0 then none else nx (pc + 1) ls (.int (a / b) :: r) σ
    | _ => none
  | .irem => match st with
    | .int b :: .int a :: r => if b = 0 then none else nx (pc + 1) ls (.int (a - a / b * b) :: r) σ
    | _ => none
  | .ladd => binL pc (fun a b => a + b) ls st σ
  | .lmul => binL pc (fun a b => a * b) ls st σ
  | .land => binL pc (fun a b => a &&& b) ls st σ
  | .lor => binL pc (fun a b => a ||| b) ls st σ
  | .lshl => match st with
    | .int b :: .long a :: r => nx (pc + 1) ls (.long (a <<< (b.toInt64 &&& 63)) :: r) σ
    | _ => none
  | .lushr => match st with
    | .int b :: .long a :: r => nx (pc + 1) ls (.long (a.toUInt64 >>> (b.toInt64.toUInt64 &&& Int64.toUInt64 63)).toInt64 :: r) σ
    | _ => none
  | .i2l => match st with
    | .int a :: r => nx (pc + 1) ls (.long a.toInt64 :: r) σ
    | _ => none
  | .l2i => match st with
    | .long a :: r => nx (pc + 1) ls (.int a.toInt32 :: r) σ
    | _ => none
  | .lcmp => match st with
    | .long b :: .long a :: r => nx (pc + 1) ls (.int (lg_cmp a b) :: r) σ
    | _ => none
  | .dup => match st with
    | v :: r => if v.category = 1 then nx (pc + 1) ls (v :: v :: r) σ else none
    | _ => none
  | .dup2 => match st with
    | v :: w :: r => if v.category = 1 ∧ w.category = 1 then nx (pc + 1) ls (v :: w :: v :: w :: r) σ else none
    | _ => none
  | .pop => match st with
    | v :: r => if v.category = 1 then nx (pc + 1) ls r σ else none
    | _ => none
  | .ifCond k off => match st with
    | .int x :: r => if 0 ≤ (pc : Int) + off then (if cnd k x 0 = true then nx ((pc : Int) + off).toNat ls r σ else nx (pc + 3) ls r σ) else none
    | _ => none
  | .if_icmp k off => match st with
    | .int b :: .int a :: r => if 0 ≤ (pc : Int) + off then (if cnd k a b = true then nx ((pc : Int) + off).toNat ls r σ else nx (pc + 3) ls r σ) else none
    | _ => none
  | .goto off => jmp pc off ls st σ
  | .tableswitch d lo hi offs => match st with
    | .int x :: r => match swo d lo hi offs x.toInt with
      | some o => jmp pc o ls r σ
      | none => none
    | _ => none
  | .lookupswitch d ps => match st with
    | .int x :: r => if (ps.toList.zip (ps.toList.drop 1)).all (fun (a, next) => a.1 < next.1) then jmp pc (Op.lookupswitch.offset ps.toList d x.toInt) ls r σ else none
    | _ => none
  | .getfield idx => match lk (mO y) idx, st with
    | some (k, ci, f, _), .ref a :: r => if (Nat.beq k 10 || Nat.beq k 11) && decide (f < cN ci) && okF σ a ci f then nx (pc + 3) ls (gF σ a f :: r) σ else none
    | _, _ => none
  | .putfield idx => match lk (mO y) idx, st with
    | some (k, ci, f, _), v :: .ref a :: r => if (Nat.beq k 10 || Nat.beq k 11) && decide (f < cN ci) && okF σ a ci f && okV (cY ci f) v && (!((cT ci f).2.2.2) || (Nat.beq k 10 && decide ((mN y).name = "<init>") && Nat.beq (mO y) ci)) then nx (pc + 3) ls r (pF σ a f v) else none
    | _, _ => none
  | .iaload => match st with
    | .int j :: .ref a :: r => if okA σ 0 a j then nx (pc + 1) ls (.int (gA σ a j) :: r) σ else none
    | _ => none
  | .aaload => match st with
    | .int j :: .ref a :: r => if okQ σ a j then (match gQ σ a j with
      | some q => nx (pc + 1) ls (.ref q :: r) σ
      | none => none) else none
    | _ => none
  | .iastore => match st with
    | .int x :: .int j :: .ref a :: r => if okB σ 0 a j then nx (pc + 1) ls r (pA σ a j x) else none
    | _ => none
  | .aastore => match st with
    | .ref v :: .int j :: .ref a :: r => if okQw σ a j v then nx (pc + 1) ls r (pQ σ a j v) else none
    | _ => none
  | .arraylength => match st with
    | .ref a :: r => if okL σ a then nx (pc + 1) ls (.int (gL σ a) :: r) σ else none
    | _ => none
  | .new idx => match lk (mO y) idx with
    | some (12, ci, _, _) => if decide (ci < vcl.length) then nx (pc + 3) ls (.ref σ.2.1 :: st) (hnew σ (.inl (ci, cV ci)) (cN ci)) else none
    | _ => none
  | .newarray .int => match st with
    | .int n :: r => if decide (¬ n < 0) && decide (n.toNatClampNeg * 4 ≤ 536870912) then nx (pc + 2) ls (.ref σ.2.1 :: r) (hnew σ (.inr (.inl (0, n.toNatClampNeg, fun _ => 0))) n.toNatClampNeg) else none
    | _ => none
  | .anewarray idx => match lk (mO y) (idx + 100000), st with
    | some (13, ci, _, _), .int n :: r => if (Nat.beq ci 5 || Nat.beq ci 4) && decide (¬ n < 0) && decide (n.toNatClampNeg * 4 ≤ 536870912) then nx (pc + 3) ls (.ref σ.2.1 :: r) (hnew σ (.inr (.inr (.inl (if ci = 5 then 2 else 3, n.toNatClampNeg, fun _ => none)))) n.toNatClampNeg) else none
    | _, _ => none
  | .invokevirtual idx => match lk (mO y) idx with
    | some (k, z, _, _) => if Nat.ble k 1 && decide (mA z ≤ st.length) then (match st.drop (mA z) with
      | .ref b :: r => if okO σ b (mO z) then callZ y z (.ref b :: (st.take (mA z)).reverse) r else none
      | _ => none) else none
    | none => none
  | .invokespecial idx => match lk (mO y) idx with
    | some (6, _, _, _) => (match st with
      | .ref _ :: r => if rm0K y 12 r then nx (pc + 3) ls r σ else none
      | _ => none)
    | some (k, z, _, _) => if (Nat.beq k 4 || Nat.beq k 5) && decide (mA z ≤ st.length) && decide ((mN z).name = "<init>") && decide (mR z = none) then (match st.drop (mA z) with
      | .ref b :: r => callZ y z (.ref b :: (st.take (mA z)).reverse) r
      | _ => none) else none
    | none => none
  | .invokestatic idx => match lk (mO y) idx with
    | some (7, _, _, _) => (match st with
      | .int b :: .int a :: r => if rm0K y 13 r then nx (pc + 3) ls (.int (if a < b then b else a) :: r) σ else none
      | _ => none)
    | some (8, _, _, _) => (match st with
      | .int b :: .int a :: r => if rm0K y 13 r then nx (pc + 3) ls (.int (if b < a then b else a) :: r) σ else none
      | _ => none)
    | some (9, _, _, _) => (match st with
      | .int n :: .int dp :: .ref b :: .int sp :: .ref a :: r => if rm0K y 18 r && okC σ a sp b dp n then nx (pc + 3) ls r (pC σ a sp b dp n) else none
      | _ => none)
    | some (k, z, _, _) => if (Nat.beq k 2 || Nat.beq k 3) && decide (mA z ≤ st.length) then callZ y z (st.take (mA z)).reverse (st.drop (mA z)) else none
    | none => none
  | .ireturn => match st with
    | [.int v] => if retOK (mR y) v then some (.inr (.inr (some (.int v)))) else none
    | _ => none
  | .lreturn => match st, mR y with
    | [.long v], some .long => some (.inr (.inr (some (.long v))))
    | _, _ => none
  | .return_ => match st, mR y with
    | [], none => some (.inr (.inr none))
    | _, _ => none
  | .areturn => match st, mR y with
    | [.ref a], some (.object _) => some (.inr (.inr (some (.ref a))))
    | _, _ => none
  | _ => none
def stp (y pc : Nat) (ls st : List Value) (σ : Hp) : Rs := match ins y pc with
  | some i => stpI y pc i ls st σ
  | none => none
def exec : Nat → Nat → Nat → List Value → List Value → Hp → Option (Option Value × Hp)
  | 0, _, _, _, _, _ => none
  | n + 1, y, pc, ls, st, σ => match stp y pc ls st σ with
    | none => none
    | some (.inl (pc', ls', st', σ')) => exec n y pc' ls' st' σ'
    | some (.inr (.inl (z, as, r))) => (match exec n z 0 (entL as (mL z)) [] σ with
      | none => none
      | some (v, σ') => exec n y (pc + 3) ls (pushO v r) σ')
    | some (.inr (.inr v)) => some (v, σ)
theorem exec_more : ∀ (n : Nat) {y pc : Nat} {ls st : List Value} {σ : Hp} {q : Option Value × Hp}, exec n y pc ls st σ = some q → ∀ k, exec (n + k) y pc ls st σ = some q
  | 0, _, _, _, _, _, _, h, _ => by cases h
  | n + 1, y, pc, ls, st, σ, q, h, k => by
    rw [Nat.add_right_comm]
    unfold exec at h ⊢
    cases hs : stp y pc ls st σ with
    | none => rw [hs] at h; cases h
    | some o =>
      rw [hs] at h
      rcases o with ⟨pc', ls', st', σ'⟩ | ⟨z, as, r⟩ | v
      · exact exec_more n h k
      · dsimp only at h ⊢
        cases hz : exec n z 0 (entL as (mL z)) [] σ with
        | none => rw [hz] at h; cases h
        | some w =>
          rw [hz] at h
          rw [exec_more n hz k]
          exact exec_more n h k
      · exact h
theorem exec_det {n k y pc : Nat} {ls st : List Value} {σ : Hp} {q r : Option Value × Hp} (h : exec n y pc ls st σ = some q) (h2 : exec k y pc ls st σ = some r) : q = r := by
  have a := exec_more n h k
  have b := exec_more k h2 n
  rw [Nat.add_comm] at b
  exact Option.some.inj (a.symm.trans b)
/-- from here the method comes to an end for which K holds -/
def X (y pc : Nat) (ls st : List Value) (σ : Hp) (K : Option Value → Hp → Prop) : Prop := ∃ (n : Nat) (v : Option Value) (σ' : Hp), exec n y pc ls st σ = some (v, σ') ∧ K v σ'
theorem X_step {y pc pc' : Nat} {ls st ls' st' : List Value} {σ σ' : Hp} {K : Option Value → Hp → Prop} (h : stp y pc ls st σ = some (.inl (pc', ls', st', σ'))) : X y pc ls st σ K = X y pc' ls' st' σ' K := by
  refine propext ⟨fun ⟨n, v, w, e, k⟩ => ?_, fun ⟨n, v, w, e, k⟩ => ⟨n + 1, v, w, by rw [exec, h]; exact e, k⟩⟩
  cases n with
  | zero => cases e
  | succ n => rw [exec, h] at e; exact ⟨n, v, w, e, k⟩
theorem X_call {y pc z : Nat} {ls st as r : List Value} {σ : Hp} {K : Option Value → Hp → Prop} (h : stp y pc ls st σ = some (.inr (.inl (z, as, r)))) : X y pc ls st σ K = X z 0 (entL as (mL z)) [] σ (fun v σ' => X y (pc + 3) ls (pushO v r) σ' K) := by
  refine propext ⟨fun ⟨n, v, w, e, k⟩ => ?_, fun ⟨n, v, w, e, n2, v2, w2, e2, k⟩ => ⟨n + n2 + 1, v2, w2, ?_, k⟩⟩
  · cases n with
    | zero => cases e
    | succ n =>
      rw [exec, h] at e
      dsimp only at e
      cases hz : exec n z 0 (entL as (mL z)) [] σ with
      | none => rw [hz] at e; cases e
      | some q =>
        rw [hz] at e
        exact ⟨n, q.1, q.2, hz, n, v, w, e, k⟩
  · rw [exec, h]
    dsimp only
    rw [exec_more n e n2]
    dsimp only
    rw [Nat.add_comm]
    exact exec_more n2 e2 n
theorem X_ret {y pc : Nat} {ls st : List Value} {σ : Hp} {v : Option Value} {K : Option Value → Hp → Prop} (h : stp y pc ls st σ = some (.inr (.inr v))) : X y pc ls st σ K = K v σ := by
  refine propext ⟨fun ⟨n, v', w, e, k⟩ => ?_, fun k => ⟨1, v, σ, by rw [exec, h], k⟩⟩
  cases n with
  | zero => cases e
  | succ n => rw [exec, h] at e; cases e; exact k
theorem X_det {y pc : Nat} {ls st : List Value} {σ σ1 : Hp} {v : Option Value} (h : X y pc ls st σ (fun r t => r = v ∧ t = σ1)) (K : Option Value → Hp → Prop) : X y pc ls st σ K = K v σ1 := by
  obtain ⟨n, v', w, e, rfl, rfl⟩ := h
  refine propext ⟨fun ⟨n2, v2, w2, e2, k⟩ => ?_, fun k => ⟨n, _, _, e, k⟩⟩
  have := exec_det e e2
  cases this
  exact k
