/-! texts: the orders of a text without fault; carrying them out -/
def Tr (p : Nat → Int32) (n : Nat) : List P3 → Nat → Prop
  | [], _ => False
  | w :: L, a => ∃ (a' : Nat) (O' : OrdM), a ≤ a' ∧ a' ≤ n ∧ pth p (a' - a) a ordB O' ∧ ordE O'.1 = true ∧ mtO O' w.1 w.2.1 w.2.2 ∧ ((L = [] ∧ a' = n) ∨ (a' < n ∧ p a' = 59 ∧ Tr p n L (a' + 1)))
theorem app_v {o : Nat → Int32} {c : Nat} {w f z : Int32} : appO o c w f z (4 * c) = w ∧ appO o c w f z (4 * c + 1) = f ∧ appO o c w f z (4 * c + 2) = z ∧ ∀ j, j < 4 * c → appO o c w f z j = o j := by
  unfold appO
  refine ⟨?_, ?_, upd_at, fun j hj => ?_⟩
  · rw [upd_n (by omega), upd_n (by omega), upd_at]
  · rw [upd_n (by omega), upd_at]
  · rw [upd_n (by omega), upd_n (by omega), upd_n (by omega)]
def entO (o : Nat → Int32) (i : Nat) : P3 := (o (4 * i), o (4 * i + 1), o (4 * i + 2))
theorem rl_tr {p : Nat → Int32} {n : Nat} (hn : n ≤ 80) : ∀ (d : Nat) (r : RO) (o : Nat → Int32) (c : Nat) (O : OrdM) (a : Nat), n - r.1 ≤ d → a ≤ r.1 → r.1 ≤ n → EndO p n r O → pth p (r.1 - a) a ordB O → rdA (rlF p n d (roS o c r)) = -6 → ∃ L : List P3, Tr p n L a ∧ (rlF p n d (roS o c r)).2.2.2 = c + L.length ∧ (∀ i, i < L.length → L[i]? = some (entO (rlF p n d (roS o c r)).2.2.1 (c + i))) ∧ (∀ j, j < 4 * c → (rlF p n d (roS o c r)).2.2.1 j = o j) := by
  have n6 : ∀ k, k ≤ n → ¬ nI k = -6 := fun k hk => nI_n6 (by omega)
  have last : ∀ (r : RO) (o : Nat → Int32) (c : Nat) (O : OrdM) (a : Nat), a ≤ r.1 → r.1 ≤ n → ¬ r.1 < n → EndO p n r O → pth p (r.1 - a) a ordB O → r.2.1 = true → ∃ L : List P3, Tr p n L a ∧ (roS o c r).2.2.2 = c + L.length ∧ (∀ i, i < L.length → L[i]? = some (entO (roS o c r).2.2.1 (c + i))) ∧ (∀ j, j < 4 * c → (roS o c r).2.2.1 j = o j) := by
    intro r o c O a h1 h2 h3 he hp hb
    obtain ⟨e1, e2, e3⟩ := he.1 hb
    obtain ⟨v1, v2, v3, v4⟩ := app_v (o := o) (c := c) (w := r.2.2.1) (f := r.2.2.2.1) (z := r.2.2.2.2)
    have eo : (roS o c r).2.2.1 = appO o c r.2.2.1 r.2.2.2.1 r.2.2.2.2 := if_pos hb
    have ec : (roS o c r).2.2.2 = c + 1 := if_pos hb
    refine ⟨[(r.2.2.1, r.2.2.2.1, r.2.2.2.2)], ⟨r.1, O, h1, h2, hp, e1, e2, Or.inl ⟨rfl, by omega⟩⟩, ec, fun i hi => ?_, fun j hj => ?_⟩
    · have i0 : i = 0 := by
        have : i < 1 := hi
        omega
      subst i0
      rw [eo, Nat.add_zero]
      unfold entO
      rw [v1, v2, v3]
      rfl
    · rw [eo]
      exact v4 j hj
  intro d
  induction d with
  | zero =>
    intro r o c O a hd ha hr he hp h6
    have h6' : rdA (roS o c r) = -6 := h6
    cases hb : r.2.1
    · unfold rdA at h6'
      rw [if_neg (show ¬ (roS o c r).2.1 = true from (by show ¬ r.2.1 = true; rw [hb]; exact Bool.false_ne_true))] at h6'
      exact absurd h6' (n6 _ hr)
    · exact last r o c O a ha hr (by omega) he hp hb
  | succ d ih =>
    intro r o c O a hd ha hr he hp h6
    cases hb : r.2.1
    · have e : rlF p n (d + 1) (roS o c r) = roS o c r := by
        unfold rlF
        rw [if_neg (show ¬ (roS o c r).2.1 = true from (by show ¬ r.2.1 = true; rw [hb]; exact Bool.false_ne_true))]
      rw [e] at h6
      unfold rdA at h6
      rw [if_neg (show ¬ (roS o c r).2.1 = true from (by show ¬ r.2.1 = true; rw [hb]; exact Bool.false_ne_true))] at h6
      exact absurd h6 (n6 _ hr)
    · obtain ⟨e1, e2, e3⟩ := he.1 hb
      by_cases h : r.1 < n
      · by_cases h59 : p r.1 = 59
        · have e : rlF p n (d + 1) (roS o c r) = rlF p n d (roS (roS o c r).2.2.1 (roS o c r).2.2.2 (roF p n (r.1 + 1))) := by
            rw [rlF, if_pos (show (roS o c r).2.1 = true from hb), if_pos (show (roS o c r).1 < n from h), if_pos (show inR (sgP p n (roS o c r).1) 59 59 = true from by rw [show (roS o c r).1 = r.1 from rfl, sg59 h]; exact h59)]
            rfl
          rw [e] at h6 ⊢
          obtain ⟨O', q1, q2⟩ := ro_path (p := p) (n := n) (a := r.1 + 1) (by omega)
          obtain ⟨r1, r2, r3⟩ := roF_le (p := p) (n := n) (a := r.1 + 1) (by omega)
          have eo : (roS o c r).2.2.1 = appO o c r.2.2.1 r.2.2.2.1 r.2.2.2.2 := if_pos hb
          have ec : (roS o c r).2.2.2 = c + 1 := if_pos hb
          rw [eo, ec] at h6 ⊢
          obtain ⟨v1, v2, v3, v4⟩ := app_v (o := o) (c := c) (w := r.2.2.1) (f := r.2.2.2.1) (z := r.2.2.2.2)
          obtain ⟨L, t1, t2, t3, t4⟩ := ih (roF p n (r.1 + 1)) (appO o c r.2.2.1 r.2.2.2.1 r.2.2.2.2) (c + 1) O' (r.1 + 1) (by omega) r1 r2 q2 q1 h6
          refine ⟨(r.2.2.1, r.2.2.2.1, r.2.2.2.2) :: L, ⟨r.1, O, ha, hr, hp, e1, e2, Or.inr ⟨h, h59, t1⟩⟩, ?_, fun i hi => ?_, fun j hj => ?_⟩
          · rw [t2, List.length_cons]
            omega
          · cases i with
            | zero =>
              rw [List.getElem?_cons_zero]
              have hE : entO (rlF p n d (roS (appO o c r.2.2.1 r.2.2.2.1 r.2.2.2.2) (c + 1) (roF p n (r.1 + 1)))).2.2.1 c = (r.2.2.1, r.2.2.2.1, r.2.2.2.2) := by
                unfold entO
                rw [t4 _ (by omega), t4 _ (by omega), t4 _ (by omega), v1, v2, v3]
              exact (congrArg some hE).symm
            | succ i =>
              rw [List.getElem?_cons_succ]
              have hi' : i < L.length := by
                rw [List.length_cons] at hi
                omega
              rw [t3 i hi', show c + 1 + i = c + (i + 1) by omega]
          · rw [t4 j (by omega), v4 j hj]
        · have e : rlF p n (d + 1) (roS o c r) = ((roS o c r).1, false, (roS o c r).2.2.1, (roS o c r).2.2.2) := by
            rw [rlF, if_pos (show (roS o c r).2.1 = true from hb), if_pos (show (roS o c r).1 < n from h), if_neg (show ¬ inR (sgP p n (roS o c r).1) 59 59 = true from by rw [show (roS o c r).1 = r.1 from rfl, sg59 h]; exact h59)]
          rw [e] at h6
          unfold rdA at h6
          rw [if_neg Bool.false_ne_true] at h6
          exact absurd h6 (n6 _ hr)
      · have e : rlF p n (d + 1) (roS o c r) = roS o c r := by
          rw [rlF, if_pos (show (roS o c r).2.1 = true from hb), if_neg (show ¬ (roS o c r).1 < n from h)]
        rw [e]
        exact last r o c O a ha hr h he hp hb
theorem rd_tr {p : Nat → Int32} {n : Nat} {o : Nat → Int32} (hn : n ≤ 80) (h6 : rdA (rdS p n o) = -6) : ∃ L : List P3, Tr p n L 0 ∧ (rdS p n o).2.2.2 = L.length ∧ (∀ i, i < L.length → L[i]? = some (entO (rdS p n o).2.2.1 i)) := by
  obtain ⟨O', q1, q2⟩ := ro_path (p := p) (n := n) (a := 0) (by omega)
  obtain ⟨r1, r2, r3⟩ := roF_le (p := p) (n := n) (a := 0) (by omega)
  unfold rdS at h6 ⊢
  obtain ⟨L, t1, t2, t3, _⟩ := rl_tr hn n (roF p n 0) o 0 O' 0 (by omega) (by omega) r2 q2 q1 h6
  refine ⟨L, t1, by rw [t2, Nat.zero_add], fun i hi => ?_⟩
  have := t3 i hi
  rwa [Nat.zero_add] at this
/-- an order carried out -/
def exW (A : StaM) (J : RowM) (w : P3) : Int32 × StaM × RowM :=
  if w.1 = 3 then (if errJ A = 0 then (0, jnS A J, jnJ A J) else (errJ A, A, J))
  else if w.1 = 2 then (0, stSet A w.2.1 (halS (stOf A w.2.1)), J)
  else if errC (stOf A w.1) w.2.1 w.2.2 = 0 then (0, stSet A w.1 (comS (stOf A w.1) w.2.1 w.2.2), J) else (errC (stOf A w.1) w.2.1 w.2.2, A, J)
def exL : List P3 → Nat → StaM → RowM → Nat × StaM × RowM
  | [], c, A, J => (c, A, J)
  | w :: L, c, A, J => if (exW A J w).1 = 0 then exL L (c + 1) (exW A J w).2.1 (exW A J w).2.2 else (c, (exW A J w).2.1, (exW A J w).2.2)
def okOr (w : P3) : Prop := w.1 = 3 ∨ (w.1 = 2 ∧ isSt w.2.1 = true) ∨ isSt w.1 = true
theorem st_n3 {w : Int32} (h : isSt w = true) : ¬ w = 3 := fun e => by
  rw [e] at h
  exact absurd h (by decide +kernel)
theorem st_n2 {w : Int32} (h : isSt w = true) : ¬ w = 2 := fun e => by
  rw [e] at h
  exact absurd h (by decide +kernel)
theorem mt_ok {O : OrdM} {w f z : Int32} (h : mtO O w f z) : okOr (w, f, z) := by
  rcases h with q | q | q
  · exact Or.inl q.1
  · exact Or.inr (Or.inl ⟨q.1, q.2.2.2⟩)
  · exact Or.inr (Or.inr q.1)
theorem coo_ex {A : StaM} {J : RowM} {O : OrdM} {w : P3} (h : mtO O w.1 w.2.1 w.2.2) : cooF A J O = exW A J w := by
  unfold cooF exW
  rcases h with ⟨h1, h2⟩ | ⟨h1, h2, h3, _⟩ | ⟨h1, h2, h3, h4, h5⟩
  · rw [h2, if_neg (by decide : ¬ (2 : Int32) = 1), if_pos rfl, if_pos h1]
  · rw [h2, if_pos rfl, h1, if_neg (by decide : ¬ (2 : Int32) = 3), if_pos rfl, h3]
  · rw [h2, if_neg (by decide : ¬ (0 : Int32) = 1), if_neg (by decide : ¬ (0 : Int32) = 2), if_neg (st_n3 h1), if_neg (st_n2 h1), h3, h4, h5]
theorem co_pth {p : Nat → Int32} {n c : Nat} {A : StaM} {J : RowM} : ∀ (d k : Nat) (O O' : OrdM), k + d ≤ n → pth p d k O O' → coF p n (n + 1 - k) k c A J O = coF p n (n + 1 - (k + d)) (k + d) c A J O' := by
  intro d
  induction d with
  | zero =>
    intro k O O' _ h
    have h' : O = O' := h
    rw [h']
    rfl
  | succ d ih =>
    intro k O O' hk h
    obtain ⟨h1, _, h3⟩ := h
    have hk2 : k < n := by omega
    rw [show n + 1 - k = (n + 1 - (k + 1)) + 1 by omega, coF, if_pos hk2, if_neg h1, ih (k + 1) _ O' (by omega) h3, show k + 1 + d = k + (d + 1) by omega]
theorem co_tr {p : Nat → Int32} {n : Nat} : ∀ (L : List P3) (a c : Nat) (A : StaM) (J : RowM), Tr p n L a → ((coF p n (n + 1 - a) a c A J ordB).1, (coF p n (n + 1 - a) a c A J ordB).2.1, (coF p n (n + 1 - a) a c A J ordB).2.2.1) = exL L c A J := by
  intro L
  induction L with
  | nil => intro a c A J h; exact h.elim
  | cons w L ih =>
    intro a c A J h
    obtain ⟨a', O', h1, h2, h3, h4, h5, h6⟩ := h
    rw [co_pth _ _ _ _ (by omega) h3, show a + (a' - a) = a' by omega, show n + 1 - a' = (n - a') + 1 by omega, coF]
    have hs : (if a' < n then p a' else 59) = 59 := by
      rcases h6 with ⟨_, q⟩ | ⟨q1, q2, _⟩
      · rw [if_neg (by omega)]
      · rw [if_pos q1, q2]
    rw [if_pos hs, coo_ex h5]
    unfold exL
    by_cases he : (exW A J w).1 = 0
    · rw [if_pos he, if_pos he, rd_59, h4, if_pos rfl]
      rcases h6 with ⟨q1, q2⟩ | ⟨q1, _, q3⟩
      · subst q1
        rw [show n - a' = 0 by omega]
        rfl
      · rw [show n - a' = n + 1 - (a' + 1) by omega]
        exact ih (a' + 1) (c + 1) _ _ q3
    · rw [if_neg he, if_neg he]
theorem tr_ok {p : Nat → Int32} {n : Nat} : ∀ (L : List P3) (a : Nat), Tr p n L a → ∀ w, w ∈ L → okOr w := by
  intro L
  induction L with
  | nil => intro a h; exact h.elim
  | cons v L ih =>
    intro a h w hw
    obtain ⟨a', O', _, _, _, _, h5, h6⟩ := h
    rcases List.mem_cons.mp hw with q | q
    · rw [q]
      exact mt_ok h5
    · rcases h6 with ⟨q1, _⟩ | ⟨_, _, q3⟩
      · rw [q1] at q
        cases q
      · exact ih (a' + 1) q3 w q
/-- what is read of the pad, is read below its length alone -/
theorem flt_cg {p p2 : Nat → Int32} : ∀ (d k : Nat) (O : OrdM), (∀ j, k ≤ j → j < k + d → p j = p2 j) → fltF p d k O = fltF p2 d k O := by
  intro d
  induction d with
  | zero => intro k O _; rfl
  | succ d ih =>
    intro k O h
    unfold fltF
    rw [h k (Nat.le_refl _) (by omega), ih (k + 1) _ (fun j h1 h2 => h j (by omega) (by omega))]
theorem co_cg {p p2 : Nat → Int32} {n : Nat} (h : ∀ j, j < n → p j = p2 j) : ∀ (m k c : Nat) (A : StaM) (J : RowM) (O : OrdM), coF p n m k c A J O = coF p2 n m k c A J O := by
  intro m
  induction m with
  | zero => intro k c A J O; rfl
  | succ m ih =>
    intro k c A J O
    have e : (if k < n then p k else 59) = (if k < n then p2 k else 59) := by
      by_cases hk : k < n
      · rw [if_pos hk, if_pos hk, h k hk]
      · rw [if_neg hk, if_neg hk]
    unfold coF
    rw [e, ih, ih]
