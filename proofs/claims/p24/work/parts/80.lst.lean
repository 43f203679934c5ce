/-! rows as lists; strict orders, ranks, insertion from the end -/
def seg {α : Type} (f : Nat → α) : Nat → Nat → List α
  | 0, _ => []
  | d + 1, k => f k :: seg f d (k + 1)
theorem seg_len {α : Type} {f : Nat → α} : ∀ d k, (seg f d k).length = d
  | 0, _ => rfl
  | d + 1, k => by
    unfold seg
    rw [List.length_cons, seg_len d]
theorem seg_mem {α : Type} {f : Nat → α} {a : α} : ∀ d k, a ∈ seg f d k ↔ ∃ j, k ≤ j ∧ j < k + d ∧ a = f j
  | 0, k => by
    unfold seg
    exact ⟨fun h => (by cases h), fun ⟨j, h1, h2, _⟩ => (by omega)⟩
  | d + 1, k => by
    unfold seg
    rw [List.mem_cons, seg_mem d]
    constructor
    · rintro (h | ⟨j, h1, h2, h3⟩)
      · exact ⟨k, Nat.le_refl _, by omega, h⟩
      · exact ⟨j, by omega, by omega, h3⟩
    · rintro ⟨j, h1, h2, h3⟩
      by_cases e : j = k
      · subst e
        exact Or.inl h3
      · exact Or.inr ⟨j, by omega, by omega, h3⟩
theorem seg_in {α : Type} {f : Nat → α} {d k j : Nat} (h1 : k ≤ j) (h2 : j < k + d) : f j ∈ seg f d k := (seg_mem d k).mpr ⟨j, h1, h2, rfl⟩
theorem seg_get {α : Type} {f : Nat → α} : ∀ d k i, i < d → (seg f d k)[i]? = some (f (k + i))
  | 0, _, _, h => by omega
  | d + 1, k, 0, _ => by
    unfold seg
    rw [List.getElem?_cons_zero, Nat.add_zero]
  | d + 1, k, i + 1, h => by
    unfold seg
    rw [List.getElem?_cons_succ, seg_get d (k + 1) i (by omega)]
    congr 2
    omega
theorem seg_snoc {α : Type} {f : Nat → α} : ∀ d k, seg f (d + 1) k = seg f d k ++ [f (k + d)]
  | 0, _ => rfl
  | d + 1, k => by
    show f k :: seg f (d + 1) (k + 1) = f k :: seg f d (k + 1) ++ [f (k + (d + 1))]
    rw [seg_snoc d (k + 1), List.cons_append, show k + 1 + d = k + (d + 1) by omega]
theorem seg_congr {α : Type} {f g : Nat → α} : ∀ d k, (∀ j, k ≤ j → j < k + d → f j = g j) → seg f d k = seg g d k
  | 0, _, _ => rfl
  | d + 1, k, h => by
    show f k :: seg f d (k + 1) = g k :: seg g d (k + 1)
    rw [h k (Nat.le_refl _) (by omega), seg_congr d (k + 1) (fun j h1 h2 => h j (by omega) (by omega))]
theorem seg_map {α β : Type} {f : Nat → α} (h : α → β) : ∀ d k, (seg f d k).map h = seg (fun j => h (f j)) d k
  | 0, _ => rfl
  | d + 1, k => by
    show h (f k) :: (seg f d (k + 1)).map h = h (f k) :: seg (fun j => h (f j)) d (k + 1)
    rw [seg_map h d (k + 1)]
theorem seg_app {α : Type} {f : Nat → α} : ∀ d e k, seg f (d + e) k = seg f d k ++ seg f e (k + d)
  | 0, e, k => by
    rw [Nat.zero_add]
    rfl
  | d + 1, e, k => by
    rw [show d + 1 + e = (d + e) + 1 by omega]
    show f k :: seg f (d + e) (k + 1) = f k :: (seg f d (k + 1) ++ seg f e (k + (d + 1)))
    rw [seg_app d e (k + 1), show k + 1 + d = k + (d + 1) by omega]
theorem seg_shift {α : Type} {f g : Nat → α} {a : Nat} : ∀ d k, (∀ j, k ≤ j → j < k + d → f j = g (j + a)) → seg f d k = seg g d (k + a)
  | 0, _, _ => rfl
  | d + 1, k, h => by
    show f k :: seg f d (k + 1) = g (k + a) :: seg g d (k + a + 1)
    rw [h k (Nat.le_refl _) (by omega), seg_shift d (k + 1) (fun j h1 h2 => h j (by omega) (by omega)), show k + 1 + a = k + a + 1 by omega]
theorem fold_cnt {α : Type} {f : Nat → α} {p : Nat → Prop} {_ : DecidablePred p} {q : α → Bool} (h : ∀ j, p j ↔ q (f j) = true) : ∀ d k a, fold (fun a j => if p j then a + 1 else a) d k a = a + (seg f d k).countP q
  | 0, _, _ => rfl
  | d + 1, k, a => by
    unfold fold seg
    rw [List.countP_cons]
    by_cases hp : p k
    · rw [if_pos hp, if_pos ((h k).mp hp), fold_cnt h d]
      omega
    · rw [if_neg hp, if_neg (fun q => hp ((h k).mpr q)), fold_cnt h d]
      omega
theorem fold_cg {α : Type} {f g : α → Nat → α} : ∀ d k x, (∀ a j, k ≤ j → j < k + d → f a j = g a j) → fold f d k x = fold g d k x
  | 0, _, _, _ => rfl
  | d + 1, k, x, h => by
    unfold fold
    rw [h x k (Nat.le_refl _) (by omega), fold_cg d (k + 1) _ (fun a j h1 h2 => h a j (by omega) (by omega))]
theorem fnd_congr {p q : Nat → Bool} : ∀ d k, (∀ j, k ≤ j → j < k + d → p j = q j) → fnd p d k = fnd q d k
  | 0, _, _ => rfl
  | d + 1, k, h => by
    unfold fnd
    rw [h k (Nat.le_refl _) (by omega), fnd_congr d (k + 1) (fun j h1 h2 => h j (by omega) (by omega))]
theorem fndO_congr {p q : Nat → Bool} : ∀ d k, (∀ j, k ≤ j → j < k + d → p j = q j) → fndO p d k = fndO q d k
  | 0, _, _ => rfl
  | d + 1, k, h => by
    unfold fndO
    rw [h k (Nat.le_refl _) (by omega), fndO_congr d (k + 1) (fun j h1 h2 => h j (by omega) (by omega))]
theorem at_congr {f g : Nat → Int32} {t : Nat} {i : Int32} (ht : t < 2 ^ 31) (h : ∀ j, j < t → f j = g j) : at_ f t i = at_ g t i := by
  unfold at_
  by_cases h1 : i < 0
  · rw [if_pos h1, if_pos h1]
  · rw [if_neg h1, if_neg h1]
    by_cases h2 : i < nI t
    · rw [if_pos h2, if_pos h2]
      rw [lt_clamp h1 ht] at h2
      exact h _ h2
    · rw [if_neg h2, if_neg h2]
/-- a strict order in which any two stand -/
def LinO {α : Type} (B : α → α → Bool) : Prop := (∀ a, B a a = false) ∧ (∀ a b c, B a b = true → B b c = true → B a c = true) ∧ (∀ a b, a ≠ b → B a b = true ∨ B b a = true)
theorem lin_as {α : Type} {B : α → α → Bool} (hB : LinO B) {a b : α} (h : B a b = true) : B b a = false := by
  cases h2 : B b a
  · rfl
  · have := hB.2.1 a b a h h2
    rw [hB.1 a] at this
    cases this
def rnk {α : Type} (B : α → α → Bool) (L : List α) (a : α) : Nat := L.countP (fun b => B b a)
theorem rank_at {α : Type} {B : α → α → Bool} (hB : LinO B) : ∀ (L : List α), L.Pairwise (fun a b => B a b = true) → ∀ i a, L[i]? = some a → rnk B L a = i := by
  intro L
  induction L with
  | nil =>
    intro _ i a h
    cases h
  | cons x xs ih =>
    intro hp i a h
    obtain ⟨h1, h2⟩ := List.pairwise_cons.mp hp
    unfold rnk
    rw [List.countP_cons]
    cases i with
    | zero =>
      rw [List.getElem?_cons_zero] at h
      cases h
      rw [if_neg (by rw [hB.1]; exact Bool.false_ne_true)]
      have : xs.countP (fun b => B b x) = 0 := List.countP_eq_zero.mpr (fun b hb => by
        rw [lin_as hB (h1 b hb)]
        exact Bool.false_ne_true)
      omega
    | succ i =>
      rw [List.getElem?_cons_succ] at h
      have hm : a ∈ xs := List.mem_of_getElem? h
      rw [if_pos (h1 a hm)]
      have := ih h2 i a h
      unfold rnk at this
      omega
theorem srt_ex {α : Type} {B : α → α → Bool} (hB : LinO B) (L : List α) (hn : L.Nodup) : ∃ L' : List α, L'.Perm L ∧ L'.Pairwise (fun a b => B a b = true) := by
  have hp := List.mergeSort_perm L (fun a b => !B b a)
  refine ⟨L.mergeSort (fun a b => !B b a), hp, ?_⟩
  have hs := List.pairwise_mergeSort (le := fun a b => !B b a) (fun a b c h1 h2 => by
    have e1 : B b a = false := by simpa using h1
    have e2 : B c b = false := by simpa using h2
    cases h3 : B c a
    · simp
    · exfalso
      by_cases q : a = b
      · subst q
        rw [h3] at e2
        cases e2
      · rcases hB.2.2 a b q with k | k
        · have := hB.2.1 c a b h3 k
          rw [this] at e2
          cases e2
        · rw [k] at e1
          cases e1) (fun a b => by
    cases h1 : B b a
    · simp
    · have := lin_as hB h1
      simp [this]) L
  have hn2 : (L.mergeSort (fun a b => !B b a)).Nodup := hp.symm.nodup hn
  refine List.Pairwise.imp₂ (R := fun a b => (!B b a) = true) (S := fun a b => a ≠ b) (fun a b h1 h2 => ?_) hs hn2
  rcases hB.2.2 a b h2 with k | k
  · exact k
  · rw [k] at h1
    cases h1
theorem rank_ex {α : Type} {B : α → α → Bool} (hB : LinO B) {L : List α} (hn : L.Nodup) {i : Nat} (hi : i < L.length) : ∃ a, a ∈ L ∧ rnk B L a = i := by
  obtain ⟨L', hp, hs⟩ := srt_ex hB L hn
  have hi' : i < L'.length := by rw [hp.length_eq]; exact hi
  have hg : L'[i]? = some L'[i] := List.getElem?_eq_getElem hi'
  refine ⟨L'[i], hp.mem_iff.mp (List.mem_of_getElem? hg), ?_⟩
  have := rank_at hB L' hs i _ hg
  unfold rnk at this ⊢
  rw [← hp.countP_eq]
  exact this
theorem rank_lt {α : Type} {B : α → α → Bool} (hB : LinO B) {L : List α} (hn : L.Nodup) {a : α} (ha : a ∈ L) : rnk B L a < L.length := by
  obtain ⟨L', hp, hs⟩ := srt_ex hB L hn
  obtain ⟨i, hi, hg⟩ := List.mem_iff_getElem.mp (hp.mem_iff.mpr ha)
  have := rank_at hB L' hs i a (by rw [List.getElem?_eq_getElem hi, hg])
  unfold rnk at this ⊢
  rw [← hp.countP_eq, this, ← hp.length_eq]
  exact hi
theorem rank_inj {α : Type} {B : α → α → Bool} (hB : LinO B) {L : List α} (hn : L.Nodup) {a b : α} (ha : a ∈ L) (hb : b ∈ L) (h : rnk B L a = rnk B L b) : a = b := by
  obtain ⟨L', hp, hs⟩ := srt_ex hB L hn
  obtain ⟨i, hi, hg⟩ := List.mem_iff_getElem.mp (hp.mem_iff.mpr ha)
  obtain ⟨j, hj, hk⟩ := List.mem_iff_getElem.mp (hp.mem_iff.mpr hb)
  have e1 := rank_at hB L' hs i a (by rw [List.getElem?_eq_getElem hi, hg])
  have e2 := rank_at hB L' hs j b (by rw [List.getElem?_eq_getElem hj, hk])
  unfold rnk at e1 e2 h
  rw [hp.countP_eq] at e1 e2
  have : i = j := by omega
  subst this
  rw [← hg, ← hk]
theorem rank_perm {α : Type} {B : α → α → Bool} {L L' : List α} (h : L.Perm L') (a : α) : rnk B L a = rnk B L' a := h.countP_eq _
/-- a new one, moved up from the end -/
def insE {α : Type} (B : α → α → Bool) (f : Nat → α) (x : α) : Nat → List α
  | 0 => [x]
  | k + 1 => if B x (f k) = true then insE B f x k ++ [f k] else seg f (k + 1) 0 ++ [x]
theorem insE_congr {α : Type} {B : α → α → Bool} {f g : Nat → α} {x : α} : ∀ k, (∀ j, j < k → f j = g j) → insE B f x k = insE B g x k
  | 0, _ => rfl
  | k + 1, h => by
    unfold insE
    rw [h k (by omega), insE_congr k (fun j hj => h j (by omega)), seg_congr (f := f) (g := g) (k + 1) 0 (fun j _ h2 => h j (by omega))]
theorem insE_perm {α : Type} {B : α → α → Bool} {f : Nat → α} {x : α} : ∀ k, (insE B f x k).Perm (x :: seg f k 0)
  | 0 => List.Perm.refl _
  | k + 1 => by
    unfold insE
    split
    · have h1 := (insE_perm (B := B) (f := f) (x := x) k).append_right [f k]
      have e : x :: seg f (k + 1) 0 = (x :: seg f k 0) ++ [f k] := by
        rw [seg_snoc k 0, Nat.zero_add, List.cons_append]
      rw [e]
      exact h1
    · exact List.perm_append_comm
theorem insE_srt {α : Type} {B : α → α → Bool} (hB : LinO B) {f : Nat → α} {x : α} : ∀ k, (seg f k 0).Pairwise (fun a b => B a b = true) → (∀ j, j < k → x ≠ f j) → (insE B f x k).Pairwise (fun a b => B a b = true) := by
  intro k
  induction k with
  | zero =>
    intro _ _
    unfold insE
    exact List.pairwise_cons.mpr ⟨fun a h => (by cases h), List.Pairwise.nil⟩
  | succ k ih =>
    intro hs hx
    rw [seg_snoc k 0, Nat.zero_add] at hs
    obtain ⟨h1, h2, h3⟩ := List.pairwise_append.mp hs
    unfold insE
    by_cases hb : B x (f k) = true
    · rw [if_pos hb]
      refine List.pairwise_append.mpr ⟨ih h1 (fun j hj => hx j (by omega)), h2, fun a ha b hb2 => ?_⟩
      rcases List.mem_cons.mp ((insE_perm k).mem_iff.mp ha) with q | q
      · subst q
        rcases List.mem_cons.mp hb2 with r | r
        · subst r; exact hb
        · cases r
      · exact h3 a q b hb2
    · rw [if_neg hb]
      have hk : B (f k) x = true := by
        rcases hB.2.2 x (f k) (hx k (by omega)) with q | q
        · exact absurd q hb
        · exact q
      rw [seg_snoc k 0, Nat.zero_add]
      refine List.pairwise_append.mpr ⟨hs, List.pairwise_cons.mpr ⟨fun a h => (by cases h), List.Pairwise.nil⟩, fun a ha b hb2 => ?_⟩
      have eb : b = x := by
        rcases List.mem_cons.mp hb2 with r | r
        · exact r
        · cases r
      subst eb
      rcases List.mem_append.mp ha with q | q
      · exact hB.2.1 a (f k) b (h3 a q _ List.mem_cons_self) hk
      · rcases List.mem_cons.mp q with r | r
        · subst r; exact hk
        · cases r
/-- the orders of the two tables -/
abbrev P2 : Type := Int32 × Int32
abbrev P3 : Type := Int32 × Int32 × Int32
def tlB (p q : P2) : Bool := if p.2 = q.2 then decide (p.1 < q.1) else decide (q.2 < p.2)
def stB (p q : P3) : Bool := if p.2.1 = q.2.1 then (if p.2.2 = q.2.2 then decide (p.1 < q.1) else decide (p.2.2 < q.2.2)) else decide (q.2.1 < p.2.1)
theorem tlB_iff {p q : P2} : tlB p q = true ↔ q.2.toInt < p.2.toInt ∨ (p.2.toInt = q.2.toInt ∧ p.1.toInt < q.1.toInt) := by
  unfold tlB
  by_cases h : p.2 = q.2
  · rw [if_pos h, decide_eq_true_eq, Int32.lt_iff_toInt_lt, h]
    omega
  · rw [if_neg h, decide_eq_true_eq, Int32.lt_iff_toInt_lt]
    have : ¬ p.2.toInt = q.2.toInt := fun k => h (Int32.toInt_inj.mp k)
    omega
theorem stB_iff {p q : P3} : stB p q = true ↔ q.2.1.toInt < p.2.1.toInt ∨ (p.2.1.toInt = q.2.1.toInt ∧ (p.2.2.toInt < q.2.2.toInt ∨ (p.2.2.toInt = q.2.2.toInt ∧ p.1.toInt < q.1.toInt))) := by
  unfold stB
  by_cases h : p.2.1 = q.2.1
  · rw [if_pos h, h]
    by_cases h2 : p.2.2 = q.2.2
    · rw [if_pos h2, decide_eq_true_eq, Int32.lt_iff_toInt_lt, h2]
      omega
    · rw [if_neg h2, decide_eq_true_eq, Int32.lt_iff_toInt_lt]
      have : ¬ p.2.2.toInt = q.2.2.toInt := fun k => h2 (Int32.toInt_inj.mp k)
      omega
  · rw [if_neg h, decide_eq_true_eq, Int32.lt_iff_toInt_lt]
    have : ¬ p.2.1.toInt = q.2.1.toInt := fun k => h (Int32.toInt_inj.mp k)
    omega
theorem tlB_lin : LinO tlB := by
  refine ⟨fun a => ?_, fun a b c h1 h2 => ?_, fun a b h => ?_⟩
  · cases h : tlB a a
    · rfl
    · have := tlB_iff.mp h
      omega
  · have k1 := tlB_iff.mp h1
    have k2 := tlB_iff.mp h2
    refine tlB_iff.mpr ?_
    omega
  · have : ¬ (a.1.toInt = b.1.toInt ∧ a.2.toInt = b.2.toInt) := fun k => h (Prod.ext (Int32.toInt_inj.mp k.1) (Int32.toInt_inj.mp k.2))
    rw [tlB_iff, tlB_iff]
    omega
theorem stB_lin : LinO stB := by
  refine ⟨fun a => ?_, fun a b c h1 h2 => ?_, fun a b h => ?_⟩
  · cases h : stB a a
    · rfl
    · have := stB_iff.mp h
      omega
  · have k1 := stB_iff.mp h1
    have k2 := stB_iff.mp h2
    refine stB_iff.mpr ?_
    omega
  · have : ¬ (a.1.toInt = b.1.toInt ∧ a.2.1.toInt = b.2.1.toInt ∧ a.2.2.toInt = b.2.2.toInt) := fun k => h (Prod.ext (Int32.toInt_inj.mp k.1) (Prod.ext (Int32.toInt_inj.mp k.2.1) (Int32.toInt_inj.mp k.2.2)))
    rw [stB_iff, stB_iff]
    omega
def pr2 (g c : Nat → Int32) (j : Nat) : P2 := (g j, c j)
def pr3 (g c e : Nat → Int32) (j : Nat) : P3 := (g j, c j, e j)
theorem upd_n {f : Nat → Int32} {k j : Nat} {x : Int32} (h : j ≠ k) : upd f k x j = f j := if_neg h
theorem muF_seg {x y : Int32} : ∀ (k : Nat) (q : (Nat → Int32) × (Nat → Int32)), seg (pr2 (muF x y k q).1 (muF x y k q).2) (k + 1) 0 = insE tlB (pr2 q.1 q.2) (x, y) k ∧ ∀ j, k < j → pr2 (muF x y k q).1 (muF x y k q).2 j = pr2 q.1 q.2 j := by
  intro k
  induction k with
  | zero =>
    intro q
    refine ⟨?_, fun j hj => ?_⟩
    · unfold muF
      show [(upd q.1 0 x 0, upd q.2 0 y 0)] = [(x, y)]
      rw [upd_at, upd_at]
    · unfold muF
      show (upd q.1 0 x j, upd q.2 0 y j) = _
      rw [upd_n (by omega), upd_n (by omega)]
      rfl
  | succ k ih =>
    intro q
    have stay : seg (pr2 (upd q.1 (k + 1) x) (upd q.2 (k + 1) y)) (k + 1 + 1) 0 = seg (pr2 q.1 q.2) (k + 1) 0 ++ [(x, y)] ∧ ∀ j, k + 1 < j → pr2 (upd q.1 (k + 1) x) (upd q.2 (k + 1) y) j = pr2 q.1 q.2 j := by
      refine ⟨?_, fun j hj => ?_⟩
      · rw [seg_snoc, Nat.zero_add]
        congr 1
        · refine seg_congr _ _ (fun j _ h2 => ?_)
          show (upd q.1 (k + 1) x j, upd q.2 (k + 1) y j) = _
          rw [upd_n (by omega), upd_n (by omega)]
          rfl
        · show [(upd q.1 (k + 1) x (k + 1), upd q.2 (k + 1) y (k + 1))] = _
          rw [upd_at, upd_at]
      · show (upd q.1 (k + 1) x j, upd q.2 (k + 1) y j) = _
        rw [upd_n (by omega), upd_n (by omega)]
        rfl
    have move : seg (pr2 (muF x y k (upd q.1 (k + 1) (q.1 k), upd q.2 (k + 1) (q.2 k))).1 (muF x y k (upd q.1 (k + 1) (q.1 k), upd q.2 (k + 1) (q.2 k))).2) (k + 1 + 1) 0 = insE tlB (pr2 q.1 q.2) (x, y) k ++ [pr2 q.1 q.2 k] ∧ ∀ j, k + 1 < j → pr2 (muF x y k (upd q.1 (k + 1) (q.1 k), upd q.2 (k + 1) (q.2 k))).1 (muF x y k (upd q.1 (k + 1) (q.1 k), upd q.2 (k + 1) (q.2 k))).2 j = pr2 q.1 q.2 j := by
      obtain ⟨i1, i2⟩ := ih (upd q.1 (k + 1) (q.1 k), upd q.2 (k + 1) (q.2 k))
      refine ⟨?_, fun j hj => ?_⟩
      · rw [seg_snoc, Nat.zero_add, i1, i2 (k + 1) (by omega)]
        congr 1
        · refine insE_congr _ (fun j hj => ?_)
          show (upd q.1 (k + 1) (q.1 k) j, upd q.2 (k + 1) (q.2 k) j) = _
          rw [upd_n (by omega), upd_n (by omega)]
          rfl
        · show [(upd q.1 (k + 1) (q.1 k) (k + 1), upd q.2 (k + 1) (q.2 k) (k + 1))] = _
          rw [upd_at, upd_at]
          rfl
      · rw [i2 j (by omega)]
        show (upd q.1 (k + 1) (q.1 k) j, upd q.2 (k + 1) (q.2 k) j) = _
        rw [upd_n (by omega), upd_n (by omega)]
        rfl
    unfold insE
    have ht : tlB (x, y) (pr2 q.1 q.2 k) = if y = q.2 k then decide (x < q.1 k) else decide (q.2 k < y) := rfl
    unfold muF
    by_cases h1 : q.2 k < y
    · have hne : ¬ y = q.2 k := fun e => by rw [e] at h1; exact Int32.lt_irrefl h1
      rw [if_neg hne, decide_eq_true h1] at ht
      rw [if_pos h1, ht, if_pos rfl]
      exact move
    · rw [if_neg h1]
      by_cases h2 : q.2 k = y
      · rw [if_pos h2]
        rw [if_pos h2.symm] at ht
        by_cases h3 : x < q.1 k
        · rw [decide_eq_true h3] at ht
          rw [if_pos h3, ht, if_pos rfl]
          exact move
        · rw [decide_eq_false h3] at ht
          rw [if_neg h3, ht, if_neg Bool.false_ne_true]
          exact stay
      · rw [if_neg (fun e => h2 e.symm), decide_eq_false h1] at ht
        rw [if_neg h2, ht, if_neg Bool.false_ne_true]
        exact stay
theorem swp_k {f : Nat → Int32} {k : Nat} : swpF f k k = f (k + 1) := by
  unfold swpF
  rw [upd_at]
theorem swp_s {f : Nat → Int32} {k : Nat} : swpF f k (k + 1) = f k := by
  unfold swpF
  rw [upd_n (by omega), upd_at]
theorem swp_n {f : Nat → Int32} {k j : Nat} (h1 : j ≠ k) (h2 : j ≠ k + 1) : swpF f k j = f j := by
  unfold swpF
  rw [upd_n h1, upd_n h2]
theorem insF_seg : ∀ (k : Nat) (q : (Nat → Int32) × (Nat → Int32) × (Nat → Int32)), seg (pr3 (insF k q).1 (insF k q).2.1 (insF k q).2.2) (k + 1) 0 = insE stB (pr3 q.1 q.2.1 q.2.2) (pr3 q.1 q.2.1 q.2.2 k) k ∧ ∀ j, k < j → pr3 (insF k q).1 (insF k q).2.1 (insF k q).2.2 j = pr3 q.1 q.2.1 q.2.2 j := by
  intro k
  induction k with
  | zero =>
    intro q
    exact ⟨rfl, fun j _ => rfl⟩
  | succ k ih =>
    intro q
    unfold insF insE
    have ht : stB (pr3 q.1 q.2.1 q.2.2 (k + 1)) (pr3 q.1 q.2.1 q.2.2 k) = ihN q.1 q.2.1 q.2.2 (k + 1) k := rfl
    rw [ht]
    by_cases h1 : ihN q.1 q.2.1 q.2.2 (k + 1) k = true
    · rw [if_pos h1, if_pos h1]
      obtain ⟨i1, i2⟩ := ih (swpF q.1 k, swpF q.2.1 k, swpF q.2.2 k)
      refine ⟨?_, fun j hj => ?_⟩
      · rw [seg_snoc, Nat.zero_add, i1, i2 (k + 1) (by omega)]
        have e1 : pr3 (swpF q.1 k) (swpF q.2.1 k) (swpF q.2.2 k) k = pr3 q.1 q.2.1 q.2.2 (k + 1) := by
          unfold pr3
          rw [swp_k, swp_k, swp_k]
        have e2 : pr3 (swpF q.1 k) (swpF q.2.1 k) (swpF q.2.2 k) (k + 1) = pr3 q.1 q.2.1 q.2.2 k := by
          unfold pr3
          rw [swp_s, swp_s, swp_s]
        show insE stB (pr3 (swpF q.1 k) (swpF q.2.1 k) (swpF q.2.2 k)) (pr3 (swpF q.1 k) (swpF q.2.1 k) (swpF q.2.2 k) k) k ++ [pr3 (swpF q.1 k) (swpF q.2.1 k) (swpF q.2.2 k) (k + 1)] = _
        rw [e1, e2]
        congr 1
        refine insE_congr _ (fun j hj => ?_)
        unfold pr3
        rw [swp_n (by omega) (by omega), swp_n (by omega) (by omega), swp_n (by omega) (by omega)]
      · rw [i2 j (by omega)]
        show pr3 (swpF q.1 k) (swpF q.2.1 k) (swpF q.2.2 k) j = _
        unfold pr3
        rw [swp_n (by omega) (by omega), swp_n (by omega) (by omega), swp_n (by omega) (by omega)]
    · rw [if_neg h1, if_neg h1]
      refine ⟨?_, fun j _ => rfl⟩
      rw [seg_snoc (k + 1) 0, Nat.zero_add]
