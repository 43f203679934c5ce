-- ===== end of PART A; then your names; then what follows =====
/-! THE CLAIM OUT OF ONE WALK OF THE LAW'S BODY. Your part is whole_start (and what it stands on); all else here is the same for every law, but numbers. -/
def R_law : String := "HeavyGuestsLaw"
def lw_P (b : Addr) (xs : List Int32) (args : Array Value) (s : State) : Prop := args = #[.ref b] ∧ s.IntsAt b xs ∧ xs.length ≤ 260 ∧ (Jvm.Cond.and given_1 narrow_1).before args s = true
def lw_Q (_ : Array Value) (s : State) (o : Outcome) (t : State) : Prop := o = .returned (some (.int 1)) ∧ Framed s o t [] 600000 7302250
def lw_Z (below : List Frame) (a : Array Value) (s : State) : State → Prop := fun t => ∃ o, t.status = .running ∧ Ended t below o ∧ lw_Q a s o t
/-- the law's own end, with 1 on the stack, nothing written that was there before, its room as the claim has it -/
theorem lw_ret {p : Program} {l : Launch} {e : Env} {s : State} {m : MethodId} {below : List Frame} {meth : Method} {c : Code} {b : Nat} (hx : p.tables.exec = Jvm.exec) (hb : c.code = code) (hr : meth.sig.returnType = ret) (hlocks : meth.locks = false) {pc : Nat} {H : Heap} {ls : Array Slot} (hdg : decode code pc = .ok (.ireturn, 1)) : W p l e room_1 s m #[Value.ref b] below meth c H [] 600000 7302250 (lw_Z below #[Value.ref b] s) (F0 m pc ls [.int 1]) := by
  intro T hT X
  obtain ⟨fs, hret, hrun, hended, hW, hframe⟩ := X.leave (v := some (.int 1)) (hlocks := hlocks) (fun h => by rw [hr] at h; cases h)
  have hmeth' : T.vm.method? m = some meth := X.method'
  refine ⟨T.setFrames fs, ?_, .returned (some (.int 1)), hrun, hended, rfl, ⟨_, rfl⟩, hW, hframe⟩
  jvm_step X.here [X.here.top, hx, hb, hdg, hmeth', hr, ret, narrow_b1]
  (try refine ⟨rfl, ?_⟩); (try refine ⟨rfl, ?_⟩)
  first | (intro acts; rw [hret _ acts rfl rfl rfl]) | rw [hret _ _ rfl rfl rfl]
  exact Steps.refl _
/-- what holds at the law's entry: the machine, the code, the tables' words (any of lw_tbl by 'hts w (by decide +kernel)'), the script of L ints xs at the cell b, what the Statement gives of the start (any of its parts by flat_of_before) -/
def lw_At (p : Program) (s : State) (m : MethodId) (meth : Method) (c : Code) (b L : Nat) (xs : Nat → Int32) : Prop :=
  p.tables.exec = Jvm.exec ∧ c.code = code ∧ meth.sig.returnType = ret ∧ c.maxLocals = 18 ∧ s.vm.findClass R_law = some m.cls ∧ (∀ w ∈ lw_tbl, w.before #[Value.ref b] s = true) ∧ va_X b L xs s s.heap ∧ b < s.heap.size ∧ meth.locks = false ∧ (Jvm.Cond.and given_1 narrow_1).before #[Value.ref b] s = true ∧ meth.name = x.name
theorem inst_0 : (Cond.instantiable RX0 2) ∈ lw_tbl := List.mem_of_getElem? (i := 113) (by decide +kernel)
theorem inst_1 : (Cond.instantiable RX1 6) ∈ lw_tbl := List.mem_of_getElem? (i := 160) (by decide +kernel)
theorem inst_2 : (Cond.instantiable RX2 2) ∈ lw_tbl := List.mem_of_getElem? (i := 147) (by decide +kernel)
theorem inst_3 : (Cond.instantiable RX3 5) ∈ lw_tbl := List.mem_of_getElem? (i := 42) (by decide +kernel)
theorem inst_4 : (Cond.instantiable RX4 2) ∈ lw_tbl := List.mem_of_getElem? (i := 131) (by decide +kernel)
theorem inst_5 : (Cond.instantiable RX5 2) ∈ lw_tbl := List.mem_of_getElem? (i := 30) (by decide +kernel)
theorem inst_6 : (Cond.instantiable RX6 4) ∈ lw_tbl := List.mem_of_getElem? (i := 36) (by decide +kernel)
theorem inst_7 : (Cond.instantiable RX7 3) ∈ lw_tbl := List.mem_of_getElem? (i := 68) (by decide +kernel)
theorem inst_8 : (Cond.instantiable RX8 6) ∈ lw_tbl := List.mem_of_getElem? (i := 22) (by decide +kernel)
theorem known_all {args : Array Value} {s : State} (hts : ∀ w ∈ lw_tbl, w.before args s = true) : ∃ (D : va_G), ∀ (k : Nat) (q : vw_C), vcl[k]? = some q → u_Kn s q.1 q.2.1 q.2.2 (D.1 k) (D.2 k) := by
  obtain ⟨c0, i0, h0⟩ := u_known (C := RX0) (T := TX0) (N := 2) (n := 2) hts (fun w hw => (List.mem_filter.mp (cin_0 w hw)).1) (hts _ inst_0)
  obtain ⟨c1, i1, h1⟩ := u_known (C := RX1) (T := TX1) (N := 6) (n := 6) hts (fun w hw => (List.mem_filter.mp (cin_1 w hw)).1) (hts _ inst_1)
  obtain ⟨c2, i2, h2⟩ := u_known (C := RX2) (T := TX2) (N := 2) (n := 2) hts (fun w hw => (List.mem_filter.mp (cin_2 w hw)).1) (hts _ inst_2)
  obtain ⟨c3, i3, h3⟩ := u_known (C := RX3) (T := TX3) (N := 5) (n := 5) hts (fun w hw => (List.mem_filter.mp (cin_3 w hw)).1) (hts _ inst_3)
  obtain ⟨c4, i4, h4⟩ := u_known (C := RX4) (T := TX4) (N := 2) (n := 2) hts (fun w hw => (List.mem_filter.mp (cin_4 w hw)).1) (hts _ inst_4)
  obtain ⟨c5, i5, h5⟩ := u_known (C := RX5) (T := TX5) (N := 2) (n := 2) hts (fun w hw => (List.mem_filter.mp (cin_5 w hw)).1) (hts _ inst_5)
  obtain ⟨c6, i6, h6⟩ := u_known (C := RX6) (T := TX6) (N := 4) (n := 4) hts (fun w hw => (List.mem_filter.mp (cin_6 w hw)).1) (hts _ inst_6)
  obtain ⟨c7, i7, h7⟩ := u_known (C := RX7) (T := TX7) (N := 3) (n := 3) hts (fun w hw => (List.mem_filter.mp (cin_7 w hw)).1) (hts _ inst_7)
  obtain ⟨c8, i8, h8⟩ := u_known (C := RX8) (T := TX8) (N := 6) (n := 6) hts (fun w hw => (List.mem_filter.mp (cin_8 w hw)).1) (hts _ inst_8)
  refine ⟨(fun k => match k with
    | 0 => c0
    | 1 => c1
    | 2 => c2
    | 3 => c3
    | 4 => c4
    | 5 => c5
    | 6 => c6
    | 7 => c7
    | 8 => c8
    | _ => c0, fun k => match k with
    | 0 => i0
    | 1 => i1
    | 2 => i2
    | 3 => i3
    | 4 => i4
    | 5 => i5
    | 6 => i6
    | 7 => i7
    | 8 => i8
    | _ => i0), ?_⟩
  intro k q hq
  match k, hq with
  | 0, hq => cases hq; exact h0
  | 1, hq => cases hq; exact h1
  | 2, hq => cases hq; exact h2
  | 3, hq => cases hq; exact h3
  | 4, hq => cases hq; exact h4
  | 5, hq => cases hq; exact h5
  | 6, hq => cases hq; exact h6
  | 7, hq => cases hq; exact h7
  | 8, hq => cases hq; exact h8
  | k + 9, hq => simp [vcl] at hq
theorem known_arr {args : Array Value} {s : State} (hts : ∀ w ∈ lw_tbl, w.before args s = true) : ∃ (cA : Nat → ClassId), ∀ (k : Nat) (q : ClassId × FieldType), (tysL cA)[k]? = some q → ArrOfT s q.1 q.2 ∧ va_RA s q.1 q.2 := by
  obtain ⟨c0, k0, m0, a1, a2, a3⟩ := Cond.arrayClass_spec (hts _ arrI_in)
  obtain ⟨m2, c2, k2, d1, -, d2, d3, d4⟩ := Cond.arrayOver_spec (hts _ arrS_in)
  obtain ⟨m3, c3, k3, e1, -, e2, e3, e4⟩ := Cond.arrayOver_spec (hts _ arrL_in)
  refine ⟨fun k => match k with
    | 0 => c0
    | 1 => c0
    | 2 => c2
    | _ => c3, ?_⟩
  intro k q hq
  match k, hq with
  | 0, hq => cases hq; exact ⟨fun N z => ⟨(fun k h => by cases h), k0, a2, m0, a3⟩, a1⟩
  | 1, hq => cases hq; exact ⟨fun N z => ⟨(fun k h => by cases h), k0, a2, m0, a3⟩, a1⟩
  | 2, hq => cases hq; exact ⟨fun N z => ⟨(fun k h => by cases h), k2, d2, m2, d3⟩, k2, m2, d2, d3, d1, d4⟩
  | 3, hq => cases hq; exact ⟨fun N z => ⟨(fun k h => by cases h), k3, e2, m3, e3⟩, k3, m3, e2, e3, e1, e4⟩
  | k + 4, hq => simp [tysL] at hq
def lawH (N0 b L : Nat) (xs : Nat → Int32) : Hp := (fun q => if q = b then some (.inr (.inr (.inr (L, xs)))) else none, (N0, 0))
def lawX (N0 b L : Nat) (xs : Nat → Int32) : Prop := X 115 0 (entL [.ref b] 18) [] (lawH N0 b L xs) (fun v σ1 => v = some (.int 1) ∧ σ1.2.1 ≤ N0 + 600000 ∧ σ1.2.2 ≤ 7302250)
set_option maxHeartbeats 4000000 in
theorem law_bridge {p : Program} {e : Env} {s : State} {m : MethodId} {below : List Frame} {meth : Method} {c : Code} (l : Launch) {b L : Nat} {xs : Nat → Int32} (C0 : lw_At p s m meth c b L xs) (hX : lawX s.heap.size b L xs) : W p l e room_1 s m #[Value.ref b] below meth c s.heap [] 0 0 (lw_Z below #[Value.ref b] s) (entryFrame m ([Value.ref b] : List Value).toArray 18) := by
  obtain ⟨hx, hb, hr, hml, hown, hts, hXs, hbl, hlocks, hgv, hn0⟩ := id C0
  have hn : meth.name = (mN 115).name := hn0
  obtain ⟨D, hD⟩ := known_all hts
  obtain ⟨cA, hA⟩ := known_arr hts
  obtain ⟨n, v, σ1, hex, rfl, h1, h2⟩ := hX
  rw [lg_entry_eq]
  have hc : mC 115 = code := rfl
  have hm : mL 115 = 18 := rfl
  refine snd_all l D cA s.heap.size n 115 0 _ _ _ _ σ1 hex p e room_1 s m _ below meth c s.heap [] 0 0 _ _ s.heap.size 0 ⟨hx, hb.trans hc.symm, hml.trans hm.symm, hown, fun w hw _ => hts w hw, ⟨hD, hA⟩, hn, Nat.le_refl _, by decide +kernel, by decide +kernel⟩ (fun w hw hnw => nw_of hnw (hts w hw)) ⟨?_, rfl⟩ va_S.rf (LR.entry [.ref b] (n := 18) (by show 1 ≤ 18; decide)) ⟨?_, ?_⟩ ⟨Nat.le_refl _, Nat.le_refl _⟩ ⟨(Nat.sub_self _).symm, rfl⟩ ?_
  · intro a x ha
    by_cases hab : a = b
    · subst hab
      have : some (Sum.inr (Sum.inr (Sum.inr (L, xs)))) = some x := by simpa [lawH] using ha
      cases this
      exact ⟨hbl, hXs⟩
    · simp [lawH, hab] at ha
  · show σ1.2.1 - s.heap.size ≤ 600000
    omega
  · show σ1.2.2 - 0 ≤ 7302250
    omega
  · intro pc' sl' H' locs' hR' hS' hrt
    refine va_forget (fun q hq => hS'.2.2 q hq) ?_
    refine W.widen (k := 600000) (n := 7302250) (by omega) (by omega) ?_
    have hdg : decode (mC 115) pc' = .ok (.ireturn, 1) := ins_dec1 hrt.1 rfl
    rw [hc] at hdg
    exact lw_ret hx hb hr hlocks hdg
