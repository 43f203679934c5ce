/-! the run of a method by its pure machine, sound -/
def Snd (l : Launch) (D : va_G) (cA : Nat → ClassId) (lo n : Nat) : Prop :=
  ∀ (y pc : Nat) (ls st : List Value) (σ : Hp) (v : Option Value) (σ1 : Hp), exec n y pc ls st σ = some (v, σ1) →
    ∀ (p : Program) (e : Env) (R : Room) (s : State) (m : MethodId) (args : Array Value) (below : List Frame) (meth : Method) (c : Code) (H : Heap) (locs : List Loc) (cells slots : Nat) (Q : State → Prop) (sl : Array Slot) (c0 s0 : Nat),
      Cx p R s m args meth c y D cA lo → nwS s → Rp D cA lo σ s H → va_S (fun q => lo ≤ q) s.heap H locs → LR ls sl (mL y) → Lft σ1 c0 s0 R → c0 ≤ σ.2.1 ∧ s0 ≤ σ.2.2 → cells = σ.2.1 - c0 ∧ slots = σ.2.2 - s0 →
      (∀ (pc' : Nat) (sl' : Array Slot) (H' : Heap) (locs' : List Loc), Rp D cA lo σ1 s H' → va_S (fun q => lo ≤ q) s.heap H' locs' → Rt y pc' v → W p l e R s m args below meth c H' locs' (σ1.2.1 - c0) (σ1.2.2 - s0) Q (F0 m pc' sl' v.toList)) →
      W p l e R s m args below meth c H locs cells slots Q (F0 m pc sl st)
theorem retOK_inv {t : Option FieldType} {k : Int32} (h : retOK t k = true) : t = some .int ∨ (t = some .boolean ∧ (k = 0 ∨ k = 1)) := by
  unfold retOK at h
  split at h
  · exact Or.inl rfl
  · simp only [Bool.or_eq_true, beq_iff_eq] at h
    exact Or.inr ⟨rfl, h⟩
  · cases h
theorem lwU_code {z : Nat} (hw : cwd z ∈ lw_tbl ∧ okW (cwd z) = true) : cwd z ∈ lw_U := List.mem_filter.mpr ⟨hw.1, code_good z hw.2⟩
set_option maxHeartbeats 4000000 in
theorem met_of {l : Launch} {D : va_G} {cA : Nat → ClassId} {lo n z : Nat} {as : List Value} {σ σ1 : Hp} {v : Option Value} (ih : Snd l D cA lo n) (hx : exec n z 0 (entL as (mL z)) [] σ = some (v, σ1)) (hlen : (entL0 as).length ≤ mL z) :
    Met l (mN z) (cwd z :: lw_U) (rmZ z (σ1.2.1 - σ.2.1) (σ1.2.2 - σ.2.2)) (va_Pc as (PB D cA lo σ)) (QB D cA lo σ1 v) (σ1.2.1 - σ.2.1) (σ1.2.2 - σ.2.2) (fun q => lo ≤ q) := by
  obtain ⟨-, hpl, hcl, -⟩ := mOK_p z
  refine Met.ofW (cc := mC z) (maxL := mL z) (ret := mR z) hpl rfl ?_
  intro p e s m args below meth c s₁ B hml hv
  obtain ⟨rfl, hRp, hK, hN, hlo⟩ := hv
  have hts := atoms_spec (ws := cwd z :: lw_U) B.pre
  have hown : s.vm.findClass (cNm (mO z)) = some m.cls := by rw [← hcl]; exact findClass_of_methodNamed B.named
  have hlocks := B.notSynchronized
  have hxx := B.exec
  have hb := B.bytes
  have hr := B.returns
  rw [lg_entry_eq]
  refine ih z 0 _ _ σ v σ1 hx p e _ s m _ below meth c s.heap [] 0 0 _ _ σ.2.1 σ.2.2 ⟨hxx, hb, hml, hown, fun w hw hok => ?_, hK, (name_of_methodNamed B.named B.method).1, hlo, Nat.le_refl _, Nat.le_refl _⟩ hN hRp va_S.rf (LR.entry as hlen) ⟨Nat.le_refl _, Nat.le_refl _⟩ ⟨Nat.le_refl _, Nat.le_refl _⟩ ⟨(Nat.sub_self _).symm, (Nat.sub_self _).symm⟩ ?_
  · unfold okW at hok
    rw [Bool.or_eq_true] at hok
    rcases hok with hg | hn
    · exact hts w (List.mem_cons_of_mem _ (List.mem_filter.mpr ⟨hw, hg⟩))
    · exact nw_use hn (hN w hw hn)
  · intro pc' sl' H' locs' hR' hS' hrt
    have fin : ∀ t : State, t.heap = H' → s.WarmedH t.vm → QB D cA lo σ1 v as.toArray s (.returned v) t := fun t ht hW => ⟨rfl, by rw [ht]; exact hR'.moved hW.alike, hS'.F ht⟩
    match v, hrt, fin with
    | none, hrt, fin =>
      exact W.vret hxx hb (hr.trans hrt.2) fin hS'.2.2 (ins_dec1 hrt.1 rfl)
    | some (.ref a), hrt, fin =>
      obtain ⟨h1, C, h2⟩ := hrt
      exact W.aret hxx hb (hr.trans h2) (Or.inl ⟨C, rfl⟩) (Or.inr ⟨a, rfl⟩) fin hS'.2.2 (ins_dec1 h1 rfl)
    | some (.long k), hrt, fin =>
      obtain ⟨h1, h2⟩ := hrt
      exact W.lret hxx hb (hr.trans h2) fin hS'.2.2 (ins_dec1 h1 rfl)
    | some (.int k), hrt, fin =>
      obtain ⟨h1, h2⟩ := hrt
      rcases retOK_inv h2 with hm | ⟨hm, h2⟩
      · exact W.iret hxx hb (hr.trans hm) fin hS'.2.2 (ins_dec1 h1 rfl)
      · have h3 : narrow .boolean (.int k) = .int k := by rcases h2 with rfl | rfl <;> decide +kernel
        exact W.zret hxx hb (hr.trans hm) h3 fin hS'.2.2 (ins_dec1 h1 rfl)
section CALLS2
variable {p : Program} {l : Launch} {e : Env} {R : Room} {s : State} {m : MethodId} {args : Array Value} {below : List Frame} {meth : Method} {c : Code} {H : Heap} {locs : List Loc} {cells slots : Nat} {Q : State → Prop}
variable {y pc : Nat} {D : va_G} {cA : Nat → ClassId} {lo : Nat} {ls st : List Value} {σ σ1 : Hp} {sl : Array Slot}
set_option maxHeartbeats 4000000 in
theorem stp_call {z mc ms : Nat} {as r : List Value} {v : Option Value} (C : Cx p R s m args meth c y D cA lo) (hN : nwS s) {i : Instr} (hi : ins y pc = some i) (h : stpI y pc i ls st σ = some (.inr (.inl (z, as, r)))) (hl : sl.size = mL y)
    (hR : Rp D cA lo σ s H) (hS : va_S (fun q => lo ≤ q) s.heap H locs) (hM : (entL0 as).length ≤ mL z → Met l (mN z) (cwd z :: lw_U) (rmZ z mc ms) (va_Pc as (PB D cA lo σ)) (QB D cA lo σ1 v) mc ms (fun q => lo ≤ q)) (hcap : cells + mc ≤ R.cells ∧ slots + ms ≤ R.slots)
    (kk : ∀ (H1 : Heap) (locs1 : List Loc), Rp D cA lo σ1 s H1 → va_S (fun q => lo ≤ q) s.heap H1 locs1 → W p l e R s m args below meth c H1 locs1 (cells + mc) (slots + ms) Q (F0 m (pc + 3) sl (pushO v r))) :
    W p l e R s m args below meth c H locs cells slots Q (F0 m pc sl st) := by
  obtain ⟨hx, hb, hml, hown, hts, hK, hnm, hlo, hF, hW⟩ := C
  have hd := ins_dec1 hi
  have htU : ∀ w ∈ lw_U, w.before args s = true := fun w hw => hts w (List.mem_filter.mp hw).1 (by unfold okW; rw [(List.mem_filter.mp hw).2]; rfl)
  have hfix : CallFix p m c (mC y) (mL y) s args lw_U (cNm (mO y)) := ⟨hx, hb, hml, hown, htU⟩
  have hpb : ∀ U : State, U.heap = H → s.WarmedH U.vm → va_Pc as (PB D cA lo σ) as.toArray U := fun U hU hWU => ⟨rfl, by rw [hU]; exact hR.moved hWU.alike, va_K.moved hWU.alike hK, nw_alike hWU hN, by rw [hU]; exact Nat.le_trans hlo hS.1⟩
  have good : ∀ w ∈ lcs (mO y, 0, 0, z, 0, 0), True := fun _ _ => trivial
  have wsGood : cwd z ∈ lw_U → ∀ w ∈ cwd z :: lw_U, ∀ (a' : Array Value) (U : State), s.WarmedH U.vm → w.before a' U = true := fun hc => pay_in htU (fun w hw => by
    rcases List.mem_cons.mp hw with rfl | hw
    · exact lw_goodIn _ hc
    · exact lw_goodIn _ hw)
  obtain ⟨hcls, hpl, hcl, hsig⟩ := mOK_p z
  have base : ∀ (hc : cwd z ∈ lw_U), mF z + 1 ≤ mF y → 19 + mL z + mW z ≤ mW y → (rmZ z mc ms).cells = mc ∧ (rmZ z mc ms).slots = ms ∧ (rmZ z mc ms).frames + 1 ≤ R.frames ∧ 8 + (mL z + 11) + (rmZ z mc ms).locals ≤ R.locals ∧ (∀ w ∈ cwd z :: lw_U, ∀ (a' : Array Value) (U : State), s.WarmedH U.vm → w.before a' U = true) ∧ Cond.code (mN z) (mC z) (mL z) (mR z) ∈ cwd z :: lw_U := fun hc f1 f2 =>
    ⟨rfl, rfl, by show mF z + 1 ≤ _; omega, by show 8 + (mL z + 11) + mW z ≤ _; omega, wsGood hc, List.mem_cons_self⟩
  cases i <;> first | (cases h; done) | skip
  case invokevirtual idx =>
    simp only [stpI] at h
    split at h
    · rename_i k z' b0 v0 hlk
      split at h
      · rename_i hc
        simp only [Bool.and_eq_true, decide_eq_true_eq] at hc
        obtain ⟨hk, hn⟩ := hc
        split at h
        · rename_i b r' hdr
          split at h
          · rename_i ho
            obtain ⟨rfl, e2, rfl, ⟨f1, f2, f3⟩, hlen⟩ := callZ_inv h
            subst e2
            obtain ⟨fs, hob⟩ := okO_inv ho
            have hat := (hR.1 b _ hob).2
            obtain ⟨rr, hcl2, -⟩ := id hat
            obtain ⟨er, -⟩ := cok hcl2
            subst er
            have hrec := va_recv (tys := tysL cA) hK (sa_one hat) (q0 := 0) hcl2 rfl
            have hst : st = ((st.take (mA z')).reverse).reverse ++ .ref b :: r' := by rw [List.reverse_reverse, ← hdr, List.take_append_drop]
            have hln : ((st.take (mA z')).reverse).length = mA z' := by rw [List.length_reverse, List.length_take]; omega
            have hp : PreV s H (cNm (mO z')) b (va_Pc (.ref b :: (st.take (mA z')).reverse) (PB D cA lo σ)) ((st.take (mA z')).reverse) := ⟨PB_blind D cA lo σ _, hrec, hpb⟩
            have hk : k = 0 ∨ k = 1 := by have := Nat.le_of_ble_eq_true hk; omega
            rcases hk with rfl | rfl
            · have w1 := lcs_in (lk_in hlk) (.methodLink (cNm (mO y)) idx (mN z')) (by simp [lcs])
              have w2 := lcs_in (lk_in hlk) (.instanceMethod (mN z')) (by simp [lcs])
              have w3 := lcs_in (lk_in hlk) (.selects (mN z').cls (mN z') (mN z')) (by simp [lcs])
              have w4 := lcs_in (lk_in hlk) (.initialized (mN z').cls) (by simp [lcs])
              have w5 := lcs_in (lk_in hlk) (cwd z') (by simp [lcs])
              obtain ⟨c1, c2, c3, c4, c5, c6⟩ := base (lwU_code w5) f1 f2
              have hsel := hts _ w3.1 w3.2
              rw [hcl] at hsel
              exact run_fin (va_runV hfix (hM hlen) ⟨⟨c1, c2, c3, c4, c5, c6, hts _ w5.1 w5.2, hts _ w4.1 w4.2, hcls, hsig, hts _ w1.1 w1.2⟩, hts _ w2.1 w2.2, hcl ▸ hsel⟩ hp rfl hln (by exact hl) hst (lv_room f3) (hd rfl) hcap) hS kk
            · have w1 := lcs_in (lk_in hlk) (.methodLinkNest (cNm (mO y)) idx (mN z') hostC) (by simp [lcs])
              have w2 := lcs_in (lk_in hlk) (.instanceMethod (mN z')) (by simp [lcs])
              have w3 := lcs_in (lk_in hlk) (.selects (mN z').cls (mN z') (mN z')) (by simp [lcs])
              have w4 := lcs_in (lk_in hlk) (.initialized (mN z').cls) (by simp [lcs])
              have w5 := lcs_in (lk_in hlk) (cwd z') (by simp [lcs])
              obtain ⟨c1, c2, c3, c4, c5, c6⟩ := base (lwU_code w5) f1 f2
              have hsel := hts _ w3.1 w3.2
              rw [hcl] at hsel
              exact run_fin (va_runVN hfix (hM hlen) ⟨⟨⟨c1, c2, c3, c4, c5, c6⟩, hts _ w5.1 w5.2, hts _ w4.1 w4.2, hcls, hsig, hts _ w1.1 w1.2⟩, hts _ w2.1 w2.2, hcl ▸ hsel⟩ hp rfl hln (by exact hl) hst (lv_room f3) (hd rfl) hcap) hS kk
          · cases h
        · cases h
      · cases h
    · cases h
  case invokespecial idx =>
    simp only [stpI] at h
    split at h
    · repeat' split at h
      all_goals cases h
    · rename_i k z' b0 v0 hlk hne
      split at h
      · rename_i hc
        simp only [Bool.and_eq_true, decide_eq_true_eq] at hc
        obtain ⟨⟨⟨hk, hn⟩, hini⟩, hret⟩ := hc
        split at h
        · rename_i b r' hdr
          obtain ⟨rfl, e2, rfl, ⟨f1, f2, f3⟩, hlen⟩ := callZ_inv h
          subst e2
          have hst : st = ((st.take (mA z')).reverse).reverse ++ .ref b :: r' := by rw [List.reverse_reverse, ← hdr, List.take_append_drop]
          have hln : ((st.take (mA z')).reverse).length = mA z' := by rw [List.length_reverse, List.length_take]; omega
          have hp : PreS s H (va_Pc (.ref b :: (st.take (mA z')).reverse) (PB D cA lo σ)) (.ref b :: (st.take (mA z')).reverse) := ⟨PB_blind D cA lo σ _, hpb⟩
          rcases beq_or hk with rfl | rfl
          · have w1 := lcs_in (lk_in hne) (.methodLink (cNm (mO y)) idx (mN z')) (by simp [lcs])
            have w2 := lcs_in (lk_in hne) (.instanceMethod (mN z')) (by simp [lcs])
            have w4 := lcs_in (lk_in hne) (.initialized (mN z').cls) (by simp [lcs])
            have w5 := lcs_in (lk_in hne) (cwd z') (by simp [lcs])
            obtain ⟨c1, c2, c3, c4, c5, c6⟩ := base (lwU_code w5) f1 f2
            have w5' := hts _ w5.1 w5.2
            unfold cwd at w5'
            rw [hret] at c6 w5'
            exact run_fin (va_runI hfix (hM hlen) ⟨⟨c1, c2, c3, c4, c5, c6, w5', hts _ w4.1 w4.2, hcls, hsig, hts _ w1.1 w1.2⟩, hini, hts _ w2.1 w2.2⟩ hp rfl hln (by exact hl) hst (lv_room f3) (hd rfl) hcap) hS kk
          · have w1 := lcs_in (lk_in hne) (.methodLinkNest (cNm (mO y)) idx (mN z') hostC) (by simp [lcs])
            have w2 := lcs_in (lk_in hne) (.instanceMethod (mN z')) (by simp [lcs])
            have w4 := lcs_in (lk_in hne) (.initialized (mN z').cls) (by simp [lcs])
            have w5 := lcs_in (lk_in hne) (cwd z') (by simp [lcs])
            obtain ⟨c1, c2, c3, c4, c5, c6⟩ := base (lwU_code w5) f1 f2
            have w5' := hts _ w5.1 w5.2
            unfold cwd at w5'
            rw [hret] at c6 w5'
            exact run_fin (va_runIN hfix (hM hlen) ⟨⟨⟨c1, c2, c3, c4, c5, c6⟩, w5', hts _ w4.1 w4.2, hcls, hsig, hts _ w1.1 w1.2⟩, hini, hts _ w2.1 w2.2⟩ hp rfl hln (by exact hl) hst (lv_room f3) (hd rfl) hcap) hS kk
        · cases h
      · cases h
    · cases h
  case invokestatic idx =>
    simp only [stpI] at h
    split at h
    · repeat' split at h
      all_goals cases h
    · repeat' split at h
      all_goals cases h
    · repeat' split at h
      all_goals cases h
    · rename_i k z' b0 v0 hn1 hn2 hn3 hlk
      split at h
      · rename_i hc
        simp only [Bool.and_eq_true, decide_eq_true_eq] at hc
        obtain ⟨hk, hn⟩ := hc
        obtain ⟨rfl, e2, e3, ⟨f1, f2, f3⟩, hlen⟩ := callZ_inv h
        subst e2
        subst e3
        have hst : st = ((st.take (mA z')).reverse).reverse ++ st.drop (mA z') := by rw [List.reverse_reverse, List.take_append_drop]
        have hln : ((st.take (mA z')).reverse).length = mA z' := by rw [List.length_reverse, List.length_take]; omega
        have hp : PreS s H (va_Pc ((st.take (mA z')).reverse) (PB D cA lo σ)) ((st.take (mA z')).reverse) := ⟨PB_blind D cA lo σ _, hpb⟩
        rcases beq_or hk with rfl | rfl
        · have w1 := lcs_in (lk_in hlk) (.methodLink (cNm (mO y)) idx (mN z')) (by simp [lcs])
          have w2 := lcs_in (lk_in hlk) (.static (mN z')) (by simp [lcs])
          have w4 := lcs_in (lk_in hlk) (.initialized (mN z').cls) (by simp [lcs])
          have w5 := lcs_in (lk_in hlk) (cwd z') (by simp [lcs])
          obtain ⟨c1, c2, c3, c4, c5, c6⟩ := base (lwU_code w5) f1 f2
          exact run_fin (va_runS hfix (hM hlen) ⟨⟨c1, c2, c3, c4, c5, c6, hts _ w5.1 w5.2, hts _ w4.1 w4.2, hcls, hsig, hts _ w1.1 w1.2⟩, hts _ w2.1 w2.2⟩ hp rfl hln (by exact hl) hst (lv_room f3) (hd rfl) hcap) hS kk
        · have w1 := lcs_in (lk_in hlk) (.methodLinkNest (cNm (mO y)) idx (mN z') hostC) (by simp [lcs])
          have w2 := lcs_in (lk_in hlk) (.static (mN z')) (by simp [lcs])
          have w4 := lcs_in (lk_in hlk) (.initialized (mN z').cls) (by simp [lcs])
          have w5 := lcs_in (lk_in hlk) (cwd z') (by simp [lcs])
          obtain ⟨c1, c2, c3, c4, c5, c6⟩ := base (lwU_code w5) f1 f2
          exact run_fin (va_runSN hfix (hM hlen) ⟨⟨⟨c1, c2, c3, c4, c5, c6⟩, hts _ w5.1 w5.2, hts _ w4.1 w4.2, hcls, hsig, hts _ w1.1 w1.2⟩, hts _ w2.1 w2.2, trivial⟩ hp rfl hln (by exact hl) hst (lv_room f3) (hd rfl) hcap) hS kk
      · cases h
    · cases h
  case newarray t =>
    exfalso
    cases t <;> simp only [stpI, nx] at h <;> (repeat' split at h) <;> cases h
  all_goals
    exfalso
    simp only [stpI, nx, jmp, ldI, ldL, ldA, stI, stL, stA, sto1, sto2, bin, binL] at h
    repeat' split at h
    all_goals (cases h; done)
end CALLS2
theorem stpI_ret {y pc : Nat} {i : Instr} {ls st : List Value} {σ : Hp} {v : Option Value} (hi : ins y pc = some i) (h : stpI y pc i ls st σ = some (.inr (.inr v))) : Rt y pc v ∧ st = v.toList := by
  cases i <;> first | (cases h; done) | skip
  case newarray t =>
    exfalso
    cases t <;> simp only [stpI, nx] at h <;> (repeat' split at h) <;> cases h
  case ireturn =>
    simp only [stpI] at h
    repeat' split at h
    all_goals first | (cases h; done) | skip
    cases h
    exact ⟨⟨hi, by assumption⟩, rfl⟩
  case lreturn =>
    simp only [stpI] at h
    repeat' split at h
    all_goals first | (cases h; done) | skip
    cases h
    exact ⟨⟨hi, by assumption⟩, rfl⟩
  case return_ =>
    simp only [stpI] at h
    repeat' split at h
    all_goals first | (cases h; done) | skip
    cases h
    exact ⟨⟨hi, by assumption⟩, rfl⟩
  case areturn =>
    simp only [stpI] at h
    repeat' split at h
    all_goals first | (cases h; done) | skip
    cases h
    exact ⟨⟨hi, _, by assumption⟩, rfl⟩
  all_goals
    exfalso
    simp only [stpI, nx, jmp, ldI, ldL, ldA, stI, stL, stA, sto1, sto2, bin, binL, callZ] at h
    repeat' split at h
    all_goals (cases h; done)
theorem kind_of {y pc : Nat} {i : Instr} {ls st : List Value} {σ : Hp} {o : (Nat × List Value × List Value × Hp)} (h : stpI y pc i ls st σ = some (.inl o)) : isPl i = true ∨ isAr i = true ∨ isHp i = true ∨ isIv i = true := by
  cases i <;> first | (cases h; done) | exact Or.inl rfl | exact Or.inr (Or.inl rfl) | exact Or.inr (Or.inr (Or.inl rfl)) | exact Or.inr (Or.inr (Or.inr rfl)) | skip
  all_goals
    exfalso
    simp only [stpI] at h
    repeat' split at h
    all_goals cases h
set_option maxHeartbeats 4000000 in
theorem snd_all (l : Launch) (D : va_G) (cA : Nat → ClassId) (lo : Nat) : ∀ n, Snd l D cA lo n := by
  intro n
  induction n with
  | zero =>
    intro y pc ls st σ v σ1 h
    cases h
  | succ n ih =>
    intro y pc ls st σ v σ1 h p e R s m args below meth c H locs cells slots Q sl c0 s0 C hN hR hS hl hcap hc0 hcs kk
    unfold exec at h
    cases hs : stp y pc ls st σ with
    | none => rw [hs] at h; cases h
    | some o =>
      rw [hs] at h
      unfold stp at hs
      split at hs
      · rename_i i hi
        rcases o with ⟨pc', ls', st', σ'⟩ | ⟨z, as, r⟩ | v'
        · have hle := exec_le n h
          have hcap' : Lft σ' c0 s0 R := ⟨by have := hcap.1; have := hle.1; omega, by have := hcap.2; have := hle.2; omega⟩
          have hle0 := stpI_le hs
          rcases kind_of hs with hk | hk | hk | hk
          · refine stp_plain C hi hs hl hk (fun e1 sl1 hl1 => ?_)
            subst e1
            exact ih y pc' ls' st' _ v σ1 h p e R s m args below meth c H locs cells slots Q sl1 c0 s0 C hN hR hS hl1 hcap hc0 hcs kk
          · refine stp_arith C hi hs hk (fun e1 e2 => ?_)
            subst e1
            subst e2
            exact ih y pc' _ st' _ v σ1 h p e R s m args below meth c H locs cells slots Q sl c0 s0 C hN hR hS hl hcap hc0 hcs kk
          · refine stp_heap C hi hs hk hR hS hcap' hc0 hcs (fun e2 H1 locs1 cells1 slots1 hR1 hS1 g1 g2 => ?_)
            subst e2
            exact ih y pc' _ st' _ v σ1 h p e R s m args below meth c H1 locs1 cells1 slots1 Q sl c0 s0 C hN hR1 hS1 hl hcap ⟨Nat.le_trans hc0.1 hle0.1, Nat.le_trans hc0.2 hle0.2⟩ ⟨g1, g2⟩ kk
          · refine stp_nat C hi hs hk hl.1.1 hR hS ⟨by have := hcap'.1; have := hle0.1; omega, by have := hcap'.2; have := hle0.2; omega⟩ (fun e1 e2 H1 locs1 hR1 hS1 => ?_)
            subst e2
            exact ih y pc' _ st' _ v σ1 h p e R s m args below meth c H1 locs1 cells slots Q sl c0 s0 C hN hR1 hS1 hl hcap (by rw [e1]; exact hc0) (by rw [e1]; exact hcs) kk
        · dsimp only at h
          cases hz : exec n z 0 (entL as (mL z)) [] σ with
          | none => rw [hz] at h; cases h
          | some w =>
            obtain ⟨v2, σ2⟩ := w
            rw [hz] at h
            dsimp only at h
            have hle := exec_le n h
            have hle2 := exec_le n hz
            refine stp_call (mc := σ2.2.1 - σ.2.1) (ms := σ2.2.2 - σ.2.2) (σ1 := σ2) (v := v2) C hN hi hs hl.1.1 hR hS (fun hlen => met_of ih hz hlen) ⟨?_, ?_⟩ (fun H1 locs1 hR1 hS1 => ?_)
            · have := hcap.1; have := hle.1; have := hle2.1; omega
            · have := hcap.2; have := hle.2; have := hle2.2; omega
            · exact ih y (pc + 3) ls _ σ2 v σ1 h p e R s m args below meth c H1 locs1 _ _ Q sl c0 s0 C hN hR1 hS1 hl hcap ⟨Nat.le_trans hc0.1 hle2.1, Nat.le_trans hc0.2 hle2.2⟩ ⟨by have := hle2.1; omega, by have := hle2.2; omega⟩ kk
        · cases h
          obtain ⟨h1, h2⟩ := stpI_ret hi hs
          rw [h2, hcs.1, hcs.2]
          exact kk pc sl H locs hR hS h1
      · cases hs
