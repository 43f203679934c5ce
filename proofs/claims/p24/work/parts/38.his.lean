/-! the history: an object, its row of states, six states -/
def pmF (h : Nat) (pm : Nat → Nat) : Nat → Option Nat := fun i => if i < 6 then some (h + 2 + 17 * pm i) else none
def hisC (h : Nat) (pm : Nat → Nat) (sz : Nat) (j : Nat) : Option AC := match j with
  | 0 => some (.inl (0, [.ref (h + 1), .int (nI sz)]))
  | 1 => some (.inr (.inr (.inl (2, 6, pmF h pm))))
  | _ => none
def hisAt (h : Nat) (pm : Nat → Nat) (sz : Nat) (σ : Hp) : Prop := atC σ h 2 (hisC h pm sz)
def hisPut (h : Nat) (pm : Nat → Nat) (sz : Nat) (σ : Hp) : Hp := ov σ h 2 (hisC h pm sz)
def updN {α : Type} (f : Nat → α) (k : Nat) (x : α) : Nat → α := fun j => if j = k then x else f j
theorem j2 {P : Nat → Prop} (h0 : P 0) (h1 : P 1) : ∀ j, j < 2 → P j := fun j hj => match j, hj with
  | 0, _ => h0
  | 1, _ => h1
theorem his_0 {h : Nat} {pm : Nat → Nat} {sz : Nat} {σ : Hp} (hh : hisAt h pm sz σ) : σ.1 h = some (.inl (0, [.ref (h + 1), .int (nI sz)])) := hh 0 (by omega)
theorem his_1 {h : Nat} {pm : Nat → Nat} {sz : Nat} {σ : Hp} (hh : hisAt h pm sz σ) : σ.1 (h + 1) = some (.inr (.inr (.inl (2, 6, pmF h pm)))) := hh 1 (by omega)
theorem gL_q {σ : Hp} {a t n : Nat} {f : Nat → Option Nat} (h : σ.1 a = some (.inr (.inr (.inl (t, n, f))))) : gL σ a = nI n := by unfold gL; rw [h]
theorem okL_q {σ : Hp} {a t n : Nat} {f : Nat → Option Nat} (h : σ.1 a = some (.inr (.inr (.inl (t, n, f))))) : okL σ a = (Nat.beq t 2 || Nat.beq t 3) := by unfold okL; rw [h]
theorem okQ_q {σ : Hp} {a t n : Nat} {f : Nat → Option Nat} {i : Int32} (h : σ.1 a = some (.inr (.inr (.inl (t, n, f))))) : okQ σ a i = ((Nat.beq t 2 || Nat.beq t 3) && inB i n) := by unfold okQ; rw [h]
theorem gQ_q {σ : Hp} {a t n : Nat} {f : Nat → Option Nat} {i : Int32} (h : σ.1 a = some (.inr (.inr (.inl (t, n, f))))) : gQ σ a i = f i.toNatClampNeg := by unfold gQ; rw [h]
theorem okQw_q {σ : Hp} {a t n v : Nat} {f : Nat → Option Nat} {i : Int32} (h : σ.1 a = some (.inr (.inr (.inl (t, n, f))))) : okQw σ a i v = ((Nat.beq t 2 || Nat.beq t 3) && inB i n && okO σ v (elC t)) := by unfold okQw; rw [h]
theorem pQ_q {σ : Hp} {a t n v : Nat} {f : Nat → Option Nat} {i : Int32} (h : σ.1 a = some (.inr (.inr (.inl (t, n, f))))) : pQ σ a i v = hset σ a (.inr (.inr (.inl (t, n, va_up f i.toNatClampNeg (some v))))) := by unfold pQ; rw [h]
theorem nI_6 : (6 : Int32) = nI 6 := by decide +kernel
theorem hisS {h : Nat} {pm : Nat → Nat} {sz : Nat} {σ : Hp} (hh : hisAt h pm sz σ) : okO σ h 0 = true ∧ okF σ h 0 0 = true ∧ okF σ h 0 1 = true ∧ gF σ h 0 = .ref (h + 1) ∧ gF σ h 1 = .int (nI sz) ∧ okL σ (h + 1) = true ∧ gL σ (h + 1) = nI 6 :=
  ⟨(okO_ob (his_0 hh)).trans rfl, (okF_ob (his_0 hh)).trans rfl, (okF_ob (his_0 hh)).trans rfl, (gF_ob (his_0 hh)).trans rfl, (gF_ob (his_0 hh)).trans rfl, (okL_q (his_1 hh)).trans rfl, gL_q (his_1 hh)⟩
theorem hisQ {h : Nat} {pm : Nat → Nat} {sz : Nat} {σ : Hp} (hh : hisAt h pm sz σ) {k : Nat} (hk : k < 6) : okQ σ (h + 1) (nI k) = true ∧ gQ σ (h + 1) (nI k) = some (h + 2 + 17 * pm k) := by
  refine ⟨(okQ_q (his_1 hh)).trans ?_, (gQ_q (his_1 hh)).trans ?_⟩
  · rw [inB_nI hk (by omega)]
    rfl
  · rw [nI_clamp (by omega)]
    unfold pmF
    rw [if_pos hk]
theorem hisQw {h : Nat} {pm : Nat → Nat} {sz : Nat} {σ : Hp} (hh : hisAt h pm sz σ) {k v : Nat} (hk : k < 6) (hv : okO σ v 5 = true) : okQw σ (h + 1) (nI k) v = true := by
  rw [okQw_q (his_1 hh), inB_nI hk (by omega), show elC 2 = 5 from rfl, hv]
  rfl
theorem hisPQ {h : Nat} {pm : Nat → Nat} {sz : Nat} {σ : Hp} (hh : hisAt h pm sz σ) {k j : Nat} (hk : k < 6) : pQ σ (h + 1) (nI k) (h + 2 + 17 * j) = hisPut h (updN pm k j) sz σ := by
  rw [pQ_q (his_1 hh), nI_clamp (by omega)]
  refine (ov_set hh (k := 1) (by omega)).trans (ov_congr (j2 rfl ?_))
  show some (Sum.inr (Sum.inr (Sum.inl (2, 6, va_up (pmF h pm) k (some (h + 2 + 17 * j)))))) = some (Sum.inr (Sum.inr (Sum.inl (2, 6, pmF h (updN pm k j)))))
  have : va_up (pmF h pm) k (some (h + 2 + 17 * j)) = pmF h (updN pm k j) := by
    funext i
    unfold va_up pmF updN
    by_cases h1 : i = k
    · subst h1
      rw [if_pos rfl, if_pos hk, if_pos rfl]
    · rw [if_neg h1, if_neg h1]
  rw [this]
theorem hisP1 {h : Nat} {pm : Nat → Nat} {sz : Nat} {σ : Hp} (hh : hisAt h pm sz σ) {n : Nat} : pF σ h 1 (.int (nI n)) = hisPut h pm n σ := by
  rw [pF_ob (his_0 hh)]
  exact (ov_set hh (k := 0) (by omega)).trans (ov_congr (j2 rfl rfl))
theorem hisAP {h : Nat} {pm : Nat → Nat} {sz : Nat} {σ : Hp} : hisAt h pm sz (hisPut h pm sz σ) := ov_at
theorem hisPP {h : Nat} {pm pm2 : Nat → Nat} {sz sz2 : Nat} {σ : Hp} : hisPut h pm2 sz2 (hisPut h pm sz σ) = hisPut h pm2 sz2 σ := ov_ov
theorem hisPS {h : Nat} {pm : Nat → Nat} {sz : Nat} {σ : Hp} (hh : hisAt h pm sz σ) : hisPut h pm sz σ = σ := ov_self hh
theorem hisOff {h : Nat} {pm : Nat → Nat} {sz : Nat} {σ : Hp} (hh : hisAt h pm sz σ) {b m : Nat} {g : Nat → Option AC} (hd : h + 2 ≤ b ∨ b + m ≤ h) : hisAt h pm sz (ov σ b m g) := atC_off hh hd
theorem staOffH {a : Nat} {A : StaM} {h : Nat} {pm : Nat → Nat} {sz : Nat} {σ : Hp} (ha : staAt a A σ) (hd : a + 17 ≤ h ∨ h + 2 ≤ a) : staAt a A (hisPut h pm sz σ) := staOff ha hd
def rotF : Nat → Nat → (Nat → Nat) → Nat → Nat
  | 0, _, pm => pm
  | n + 1, k, pm => rotF n (k + 1) (updN pm k (pm (k + 1)))
theorem rotF_lt : ∀ (n k : Nat) (pm : Nat → Nat), (∀ i, i < 6 → pm i < 6) → k + n ≤ 5 → ∀ i, i < 6 → rotF n k pm i < 6
  | 0, _, _, h, _ => h
  | n + 1, k, pm, h, hk => rotF_lt n (k + 1) _ (fun i hi => by
      unfold updN
      by_cases e : i = k
      · rw [if_pos e]; exact h _ (by omega)
      · rw [if_neg e]; exact h i hi) (by omega)
theorem l3 {h o sz : Nat} {S : Nat → StaM} {σ : Hp} {K : Option Value → Hp → Prop} (hS : ∀ j, j < 6 → staAt (h + 2 + 17 * j) (S j) σ) : ∀ (n k : Nat) (pm : Nat → Nat), 5 - k = n → k ≤ 5 → (∀ i, i < 6 → pm i < 6) → X 3 9 [.ref h, .ref o, .int (nI (k + 1))] [] (hisPut h pm sz σ) K = X 3 38 [.ref h, .ref o, .int (nI 6)] [] (hisPut h (rotF n k pm) sz σ) K := by
  intro n
  induction n with
  | zero =>
    intro k pm hn hk hp
    have hh : hisAt h pm sz (hisPut h pm sz σ) := hisAP
    have ek : k = 5 := by omega
    subst ek
    have h1 : ¬ nI (5 + 1) < nI 6 := nI_nlt (by omega) (by omega)
    rw [x3_9]
    simp only [x3_10, x3_11, x3_14, x3_15, x3_18, x3_19, x3_22, x3_23, x3_24, x3_25, x3_26, x3_29, x3_30, x3_31, x3_32, x3_35, pushO, List.length_cons, List.length_nil, Nat.reduceAdd, Nat.reduceLeDiff, Nat.le_refl, Nat.zero_le, isD_i, isD_r, isD_l, isD_n, if_true, if_false, ite_true, ite_false, reduceIte, hisS hh, h1, rotF]
  | succ n ih =>
    intro k pm hn hk hp
    have hh : hisAt h pm sz (hisPut h pm sz σ) := hisAP
    have h1 : nI (k + 1) < nI 6 := nI_lt (by omega) (by omega)
    have hv : okO (hisPut h pm sz σ) (h + 2 + 17 * pm (k + 1)) 5 = true := (staS (staOffH (hS _ (hp (k + 1) (by omega))) (by omega))).1
    have q1 := (hisQ hh (show k + 1 < 6 by omega)).1
    have q2 := (hisQ hh (show k + 1 < 6 by omega)).2
    have q3 := hisQw hh (show k < 6 by omega) hv
    have q4 := hisPQ hh (j := pm (k + 1)) (show k < 6 by omega)
    rw [hisPP] at q4
    rw [x3_9]
    simp only [x3_10, x3_11, x3_14, x3_15, x3_18, x3_19, x3_22, x3_23, x3_24, x3_25, x3_26, x3_29, pushO, List.length_cons, List.length_nil, Nat.reduceAdd, Nat.reduceLeDiff, Nat.le_refl, Nat.zero_le, isD_i, isD_r, isD_l, isD_n, if_true, if_false, ite_true, ite_false, reduceIte, hisS hh, h1, nI_pred]
    rw [x3_30 q1 q2]
    simp only [x3_31, x3_32, x3_35, pushO, List.length_cons, List.length_nil, Nat.reduceAdd, Nat.reduceLeDiff, Nat.le_refl, Nat.zero_le, isD_i, isD_r, isD_l, isD_n, if_true, if_false, ite_true, ite_false, reduceIte, q3, q4]
    rw [← nI_succ (k + 1)]
    exact ih (k + 1) _ (by omega) (by omega) (fun i hi => by
      unfold updN
      by_cases e : i = k
      · rw [if_pos e]; exact hp _ (by omega)
      · rw [if_neg e]; exact hp i hi)
def rotP (pm : Nat → Nat) : Nat → Nat := updN (rotF 5 0 pm) 5 (pm 0)
theorem a3 {h sz : Nat} {pm : Nat → Nat} {S : Nat → StaM} {σ : Hp} {K : Option Value → Hp → Prop} (hh : hisAt h pm sz σ) (hS : ∀ j, j < 6 → staAt (h + 2 + 17 * j) (S j) σ) (hp : ∀ i, i < 6 → pm i < 6) (hz : 0 < sz) (hz2 : sz ≤ 6) : X 3 0 [.ref h, .null, .null] [] σ K = K none (hisPut h (rotP pm) (sz - 1) σ) := by
  have q1 := (hisQ hh (show 0 < 6 by omega)).1
  have q2 := (hisQ hh (show 0 < 6 by omega)).2
  rw [nI_0] at q1 q2
  simp only [x3_0, x3_1, x3_4, pushO, List.length_cons, List.length_nil, Nat.reduceAdd, Nat.reduceLeDiff, Nat.le_refl, Nat.zero_le, isD_i, isD_r, isD_l, isD_n, if_true, if_false, ite_true, ite_false, reduceIte, hisS hh]
  rw [x3_5 q1 q2]
  simp only [x3_6, x3_7, x3_8, pushO, List.length_cons, List.length_nil, Nat.reduceAdd, Nat.reduceLeDiff, Nat.le_refl, Nat.zero_le, isD_i, isD_r, isD_l, isD_n, if_true, if_false, ite_true, ite_false, reduceIte]
  have hL := l3 (K := K) (o := h + 2 + 17 * pm 0) (sz := sz) hS 5 0 pm rfl (by omega) hp
  rw [hisPS hh] at hL
  have e1 : nI (0 + 1) = 1 := by decide +kernel
  rw [e1] at hL
  rw [hL]
  have h1 : hisAt h (rotF 5 0 pm) sz (hisPut h (rotF 5 0 pm) sz σ) := hisAP
  have hv : okO (hisPut h (rotF 5 0 pm) sz σ) (h + 2 + 17 * pm 0) 5 = true := (staS (staOffH (hS _ (hp 0 (by omega))) (by omega))).1
  have q3 := hisQw h1 (show 5 < 6 by omega) hv
  have q4 := hisPQ h1 (j := pm 0) (show 5 < 6 by omega)
  rw [hisPP] at q4
  have h2 : hisAt h (rotP pm) sz (hisPut h (rotP pm) sz σ) := hisAP
  have q5 := hisP1 h2 (n := sz - 1)
  rw [hisPP] at q5
  have e6 : nI 6 - 1 = nI 5 := nI_pred 5
  change pQ (hisPut h (rotF 5 0 pm) sz σ) (h + 1) (nI 5) (h + 2 + 17 * pm 0) = hisPut h (rotP pm) sz σ at q4
  simp only [x3_38, x3_39, x3_42, x3_43, x3_46, x3_47, x3_48, x3_49, x3_50, x3_51, x3_52, x3_52i, x3_53, x3_56, x3_57, x3_58, x3_61, pushO, List.length_cons, List.length_nil, Nat.reduceAdd, Nat.reduceLeDiff, Nat.le_refl, Nat.zero_le, isD_i, isD_r, isD_l, isD_n, if_true, if_false, ite_true, ite_false, reduceIte, hisS h1, e6, q3, q4, hisS h2, nI_sub1 hz, q5]
/-- a state is remembered: the order of the six, how many, and where it is laid -/
def remP (pm : Nat → Nat) (sz : Nat) : Nat → Nat := if sz = 6 then rotP pm else pm
def remZ (sz : Nat) : Nat := if sz = 6 then 5 else sz
theorem rotP_lt {pm : Nat → Nat} (hp : ∀ i, i < 6 → pm i < 6) : ∀ i, i < 6 → rotP pm i < 6 := by
  intro i hi
  unfold rotP updN
  by_cases e : i = 5
  · rw [if_pos e]; exact hp 0 (by omega)
  · rw [if_neg e]; exact rotF_lt 5 0 pm hp (by omega) i hi
theorem a1 {h sz a : Nat} {pm : Nat → Nat} {S : Nat → StaM} {A : StaM} {σ : Hp} {K : Option Value → Hp → Prop} (hh : hisAt h pm sz σ) (hS : ∀ j, j < 6 → staAt (h + 2 + 17 * j) (S j) σ) (hp : ∀ i, i < 6 → pm i < 6) (hz : sz ≤ 6) (ha : staAt a A σ) (hd : a + 17 ≤ h ∨ h + 104 ≤ a) : X 1 0 [.ref h, .ref a] [] σ K = K none (hisPut h (remP pm sz) (remZ sz + 1) (staPut (h + 2 + 17 * remP pm sz (remZ sz)) A σ)) := by
  have core : ∀ (pm : Nat → Nat) (sz : Nat) (σ : Hp), hisAt h pm sz σ → (∀ j, j < 6 → staAt (h + 2 + 17 * j) (S j) σ) → (∀ i, i < 6 → pm i < 6) → sz < 6 → staAt a A σ → X 1 16 [.ref h, .ref a] [] σ K = K none (hisPut h pm (sz + 1) (staPut (h + 2 + 17 * pm sz) A σ)) := by
    intro pm sz σ hh hS hp hz ha
    have hj := hp sz hz
    have q1 := (hisQ hh hz).1
    have q2 := (hisQ hh hz).2
    have hs := hS _ hj
    have p1 := fun K => a52 (K := K) hs ha (by omega)
    have h1 : hisAt h pm sz (staPut (h + 2 + 17 * pm sz) A σ) := hisOff hh (by omega)
    have q5 := hisP1 h1 (n := sz + 1)
    have n1 : ¬ nI sz < 0 := nI_pos (by omega)
    have n2 : nI sz < nI 6 := nI_lt hz (by omega)
    simp only [x1_16, x1_17, x1_20, x1_23, x1_24, x1_27, x1_28, x1_31, x1_32, x1_35, x1_36, x1_39, x1_40, pushO, List.length_cons, List.length_nil, Nat.reduceAdd, Nat.reduceLeDiff, Nat.le_refl, Nat.zero_le, isD_i, isD_r, isD_l, isD_n, if_true, if_false, ite_true, ite_false, reduceIte, hisS hh, n1, n2]
    rw [x1_43 q1 q2]
    simp only [x1_44, x1_45, x1_48, x1_49, x1_49i, x1_50, x1_53, x1_54, x1_55, x1_58, pushO, List.length_cons, List.length_nil, Nat.reduceAdd, Nat.reduceLeDiff, Nat.le_refl, Nat.zero_le, isD_i, isD_r, isD_l, isD_n, if_true, if_false, ite_true, ite_false, reduceIte, staS hs, p1, hisS h1, ← nI_succ, q5]
  by_cases h6 : sz = 6
  · subst h6
    have p1 := fun K => a3 (K := K) hh hS hp (by omega) (by omega)
    have h1 : hisAt h (rotP pm) 5 (hisPut h (rotP pm) 5 σ) := hisAP
    have hc := core (rotP pm) 5 (hisPut h (rotP pm) 5 σ) h1 (fun j hj => staOffH (hS j hj) (by omega)) (rotP_lt hp) (by omega) (staOffH ha (by omega))
    have e5 : 6 - 1 = 5 := rfl
    rw [e5] at p1
    simp only [x1_0, x1_1, x1_4, x1_5, x1_8, x1_9, x1_12, x1_13, pushO, List.length_cons, List.length_nil, Nat.reduceAdd, Nat.reduceLeDiff, Nat.le_refl, Nat.zero_le, isD_i, isD_r, isD_l, isD_n, if_true, if_false, ite_true, ite_false, reduceIte, hisS hh, p1]
    rw [hc]
    unfold remP remZ
    rw [if_pos rfl, if_pos rfl]
    have hj := rotP_lt hp 5 (by omega)
    have : staPut (h + 2 + 17 * rotP pm 5) A (hisPut h (rotP pm) 5 σ) = hisPut h (rotP pm) 5 (staPut (h + 2 + 17 * rotP pm 5) A σ) := (ov_comm (by omega)).trans rfl
    rw [this, hisPP]
  · have h6' : ¬ nI sz = nI 6 := by rw [nI_eq_iff (by omega) (by omega)]; exact h6
    simp only [x1_0, x1_1, x1_4, x1_5, x1_8, x1_9, x1_12, x1_13, pushO, List.length_cons, List.length_nil, Nat.reduceAdd, Nat.reduceLeDiff, Nat.le_refl, Nat.zero_le, isD_i, isD_r, isD_l, isD_n, if_true, if_false, ite_true, ite_false, reduceIte, hisS hh, h6']
    rw [core pm sz σ hh hS hp (by omega) ha]
    unfold remP remZ
    rw [if_neg h6, if_neg h6]
theorem a2 {h sz a : Nat} {pm : Nat → Nat} {S : Nat → StaM} {A : StaM} {σ : Hp} {K : Option Value → Hp → Prop} (hh : hisAt h pm sz σ) (hS : ∀ j, j < 6 → staAt (h + 2 + 17 * j) (S j) σ) (hp : ∀ i, i < 6 → pm i < 6) (hz : sz ≤ 6) (hz1 : 0 < sz) (ha : staAt a A σ) (hd : a + 17 ≤ h ∨ h + 104 ≤ a) : X 2 0 [.ref h, .ref a] [] σ K = K none (staPut a (S (pm (sz - 1))) (hisPut h pm (sz - 1) σ)) := by
  obtain ⟨n, rfl⟩ : ∃ n, sz = n + 1 := ⟨sz - 1, by omega⟩
  have n1 : 0 < nI (n + 1) := by rw [nI_0lt (by omega)]; omega
  have n2 : ¬ nI 6 < nI (n + 1) := nI_nlt (by omega) (by omega)
  have q5 := hisP1 hh (n := n)
  have h1 : hisAt h pm n (hisPut h pm n σ) := hisAP
  have hj := hp n (by omega)
  have q1 := (hisQ h1 (show n < 6 by omega)).1
  have q2 := (hisQ h1 (show n < 6 by omega)).2
  have hs : staAt (h + 2 + 17 * pm n) (S (pm n)) (hisPut h pm n σ) := staOffH (hS _ hj) (by omega)
  have ha1 : staAt a A (hisPut h pm n σ) := staOffH ha (by omega)
  have p1 := fun K => a52 (K := K) ha1 hs (by omega)
  simp only [x2_0, x2_1, x2_4, x2_7, x2_8, x2_11, x2_12, x2_15, x2_16, x2_19, x2_20, x2_20i, x2_21, x2_24, x2_25, x2_26, x2_29, x2_30, x2_31, x2_34, x2_35, pushO, List.length_cons, List.length_nil, Nat.reduceAdd, Nat.reduceLeDiff, Nat.le_refl, Nat.zero_le, isD_i, isD_r, isD_l, isD_n, if_true, if_false, ite_true, ite_false, reduceIte, hisS hh, n1, n2, nI_pred, q5, hisS h1]
  rw [x2_38 q1 q2]
  simp only [x2_39, x2_42, pushO, List.length_cons, List.length_nil, Nat.reduceAdd, Nat.reduceLeDiff, Nat.le_refl, Nat.zero_le, isD_i, isD_r, isD_l, isD_n, if_true, if_false, ite_true, ite_false, reduceIte, staS ha1, p1, Nat.add_sub_cancel]
