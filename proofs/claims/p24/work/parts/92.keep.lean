/-! the script's own cell stays as it is -/
def KS (b n : Nat) (f : Nat → Int32) (σ : Hp) : Prop := b < σ.2.1 ∧ σ.1 b = some (.inr (.inr (.inr (n, f))))
theorem ks_hset {a : Nat} {c : AC} {b n : Nat} {f : Nat → Int32} {σ : Hp} (h : KS b n f σ) (hne : b ≠ a) : KS b n f (hset σ a c) := ⟨h.1, (if_neg hne).trans h.2⟩
theorem ks_pF {a k : Nat} {v : Value} {b n : Nat} {f : Nat → Int32} {σ : Hp} (h : KS b n f σ) : KS b n f (pF σ a k v) := by
  unfold pF
  split
  · rename_i e
    refine ks_hset h (fun q => ?_)
    subst q
    rw [h.2] at e
    cases e
  · exact h
theorem ks_pA {a : Nat} {i x : Int32} {b n : Nat} {f : Nat → Int32} {σ : Hp} (h : KS b n f σ) : KS b n f (pA σ a i x) := by
  unfold pA
  split
  · rename_i e
    refine ks_hset h (fun q => ?_)
    subst q
    rw [h.2] at e
    cases e
  · exact h
theorem ks_pQ {a v : Nat} {i : Int32} {b n : Nat} {f : Nat → Int32} {σ : Hp} (h : KS b n f σ) : KS b n f (pQ σ a i v) := by
  unfold pQ
  split
  · rename_i e
    refine ks_hset h (fun q => ?_)
    subst q
    rw [h.2] at e
    cases e
  · exact h
theorem ks_pC {a c : Nat} {sp dp m : Int32} {b n : Nat} {f : Nat → Int32} {σ : Hp} (h : KS b n f σ) : KS b n f (pC σ a sp c dp m) := by
  unfold pC
  split
  · rename_i e1 e2
    refine ks_hset h (fun q => ?_)
    subst q
    rw [h.2] at e2
    cases e2
  · exact h
theorem ks_hnew {c : AC} {m : Nat} {b n : Nat} {f : Nat → Int32} {σ : Hp} (h : KS b n f σ) : KS b n f (hnew σ c m) := by
  have hb : b < σ.2.1 := h.1
  exact ⟨by show b < σ.2.1 + 1; omega, (if_neg (by omega)).trans h.2⟩
def RsK (b n : Nat) (f : Nat → Int32) : Rs → Prop
  | some (.inl (_, _, _, σ)) => KS b n f σ
  | _ => True
theorem rk_nx {pc : Nat} {ls st : List Value} {b n : Nat} {f : Nat → Int32} {σ : Hp} (h : KS b n f σ) : RsK b n f (nx pc ls st σ) := h
theorem rk_jmp {pc : Nat} {off : Int} {ls st : List Value} {b n : Nat} {f : Nat → Int32} {σ : Hp} (h : KS b n f σ) : RsK b n f (jmp pc off ls st σ) := by
  unfold jmp
  split
  · exact h
  · trivial
theorem rk_sto1 {pc k : Nat} {v : Value} {ls r : List Value} {b n : Nat} {f : Nat → Int32} {σ : Hp} (h : KS b n f σ) : RsK b n f (sto1 pc k v ls r σ) := by
  unfold sto1
  split
  · exact h
  · trivial
theorem rk_sto2 {pc k : Nat} {v : Value} {ls r : List Value} {b n : Nat} {f : Nat → Int32} {σ : Hp} (h : KS b n f σ) : RsK b n f (sto2 pc k v ls r σ) := by
  unfold sto2
  split
  · exact h
  · trivial
theorem rk_ldI {pc k : Nat} {ls st : List Value} {b n : Nat} {f : Nat → Int32} {σ : Hp} (h : KS b n f σ) : RsK b n f (ldI pc k ls st σ) := by
  unfold ldI
  split
  · exact h
  · trivial
theorem rk_ldL {pc k : Nat} {ls st : List Value} {b n : Nat} {f : Nat → Int32} {σ : Hp} (h : KS b n f σ) : RsK b n f (ldL pc k ls st σ) := by
  unfold ldL
  split
  · exact h
  · trivial
theorem rk_ldA {pc k : Nat} {ls st : List Value} {b n : Nat} {f : Nat → Int32} {σ : Hp} (h : KS b n f σ) : RsK b n f (ldA pc k ls st σ) := by
  unfold ldA
  split
  · exact h
  · trivial
theorem rk_stI {pc k : Nat} {ls st : List Value} {b n : Nat} {f : Nat → Int32} {σ : Hp} (h : KS b n f σ) : RsK b n f (stI pc k ls st σ) := by
  unfold stI
  split
  · exact rk_sto1 h
  · trivial
theorem rk_stL {pc k : Nat} {ls st : List Value} {b n : Nat} {f : Nat → Int32} {σ : Hp} (h : KS b n f σ) : RsK b n f (stL pc k ls st σ) := by
  unfold stL
  split
  · exact rk_sto2 h
  · trivial
theorem rk_stA {pc k : Nat} {ls st : List Value} {b n : Nat} {f : Nat → Int32} {σ : Hp} (h : KS b n f σ) : RsK b n f (stA pc k ls st σ) := by
  unfold stA
  split
  · exact rk_sto1 h
  · trivial
theorem rk_bin {pc : Nat} {op : Int32 → Int32 → Int32} {ls st : List Value} {b n : Nat} {f : Nat → Int32} {σ : Hp} (h : KS b n f σ) : RsK b n f (bin pc op ls st σ) := by
  unfold bin
  split
  · exact h
  · trivial
theorem rk_binL {pc : Nat} {op : Int64 → Int64 → Int64} {ls st : List Value} {b n : Nat} {f : Nat → Int32} {σ : Hp} (h : KS b n f σ) : RsK b n f (binL pc op ls st σ) := by
  unfold binL
  split
  · exact h
  · trivial
theorem rk_callZ {y z : Nat} {as r : List Value} {b n : Nat} {f : Nat → Int32} : RsK b n f (callZ y z as r) := by
  unfold callZ
  split <;> trivial
theorem rk_stpI {y pc : Nat} {i : Instr} {ls st : List Value} {b n : Nat} {f : Nat → Int32} {σ : Hp} (h : KS b n f σ) : RsK b n f (stpI y pc i ls st σ) := by
  unfold stpI
  repeat' split
  all_goals first
    | exact True.intro
    | exact rk_nx h
    | exact rk_ldI h
    | exact rk_ldL h
    | exact rk_ldA h
    | exact rk_stI h
    | exact rk_stL h
    | exact rk_stA h
    | exact rk_bin h
    | exact rk_binL h
    | exact rk_jmp h
    | exact rk_callZ
    | exact rk_nx (ks_pF h)
    | exact rk_nx (ks_pA h)
    | exact rk_nx (ks_pQ h)
    | exact rk_nx (ks_pC h)
    | exact rk_nx (ks_hnew h)
theorem rk_stp {y pc : Nat} {ls st : List Value} {b n : Nat} {f : Nat → Int32} {σ : Hp} (h : KS b n f σ) : RsK b n f (stp y pc ls st σ) := by
  unfold stp
  split
  · exact rk_stpI h
  · trivial
theorem ks_exec {b n : Nat} {f : Nat → Int32} : ∀ (k : Nat) {y pc : Nat} {ls st : List Value} {σ σ2 : Hp} {v : Option Value}, KS b n f σ → exec k y pc ls st σ = some (v, σ2) → KS b n f σ2
  | 0, _, _, _, _, _, _, _, _, h => by cases h
  | k + 1, y, pc, ls, st, σ, σ2, v, hk, h => by
    unfold exec at h
    have r := rk_stp (y := y) (pc := pc) (ls := ls) (st := st) hk
    cases hs : stp y pc ls st σ with
    | none => rw [hs] at h; cases h
    | some o =>
      rw [hs] at h r
      rcases o with ⟨pc', ls', st', σ'⟩ | ⟨z, as, q⟩ | w
      · exact ks_exec k r h
      · dsimp only at h
        cases hz : exec k z 0 (entL as (mL z)) [] σ with
        | none => rw [hz] at h; cases h
        | some p =>
          rw [hz] at h
          exact ks_exec k (ks_exec k hk hz) h
      · cases h
        exact hk
theorem ks_X {y pc : Nat} {ls st : List Value} {σ2 : Hp} {v : Option Value} {b n : Nat} {f : Nat → Int32} {σ : Hp} (h : KS b n f σ) (hx : ∀ K : Option Value → Hp → Prop, X y pc ls st σ K = K v σ2) : KS b n f σ2 := by
  have q : X y pc ls st σ (fun r t => r = v ∧ t = σ2) := by
    rw [hx]
    exact ⟨rfl, rfl⟩
  obtain ⟨k, v', s, e, rfl, rfl⟩ := q
  exact ks_exec k h e
