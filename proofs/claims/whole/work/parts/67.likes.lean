/-! ===== layouts, one like another ===== -/
def EQ (L : Nat) (g h : Nat → Int) : Prop := ∀ k, k < L → g k = h k
def cntP (L : Nat) (g : Nat → Int) (P : Int → Bool) : Int := cntTo L (fun k => P (g k))
theorem sum_adj {f f' : Nat → Int} {m : Nat} (h : ∀ k, k ≠ m → k ≠ m + 1 → f k = f' k) (h2 : f m + f (m + 1) = f' m + f' (m + 1)) : ∀ L, m + 1 < L → sumTo L f = sumTo L f' := by
  intro L
  induction L with
  | zero => intro h; omega
  | succ L ih =>
    intro hL
    by_cases c : m + 1 < L
    · rw [sumTo_succ, sumTo_succ, ih c, h L (by omega) (by omega)]
    · obtain rfl : L = m + 1 := by omega
      rw [sumTo_succ, sumTo_succ, sumTo_succ, sumTo_succ, sumTo_congr (fun k hk => h k (by omega) (by omega))]
      omega
theorem cntP_adj {L m : Nat} (g : Nat → Int) (P : Int → Bool) (h : m + 1 < L) : cntP L (exF g (m + 1) m) P = cntP L g P := by
  unfold cntP
  rw [cnt_sum, cnt_sum]
  have e1 : exF g (m + 1) m m = g (m + 1) := by unfold exF; rw [if_pos rfl]
  have e2 : exF g (m + 1) m (m + 1) = g m := by unfold exF; rw [if_neg (by omega), if_pos rfl]
  refine sum_adj (m := m) (fun k h1 h2 => ?_) ?_ L h
  · have e : exF g (m + 1) m k = g k := by unfold exF; rw [if_neg h1, if_neg h2]
    rw [e]
  · rw [e1, e2]; omega
theorem cntP_in1 {L : Nat} (P : Int → Bool) : ∀ m (g : Nat → Int), m < L → cntP L (in1 m g) P = cntP L g P := by
  intro m
  induction m with
  | zero => intro g _; rfl
  | succ m ih =>
    intro g h
    unfold in1
    split
    · rfl
    · rw [ih _ (by omega), cntP_adj g P h]
theorem cntP_srF {L : Nat} (P : Int → Bool) (g : Nat → Int) : ∀ m, m ≤ L → cntP L (srF m g) P = cntP L g P := by
  intro m
  induction m with
  | zero => intro _; rfl
  | succ m ih => intro h; exact (cntP_in1 P m _ (by omega)).trans (ih (by omega))
theorem cntP_congr {L : Nat} {g h : Nat → Int} (e : EQ L g h) (P : Int → Bool) : cntP L g P = cntP L h P := by
  unfold cntP
  rw [cnt_sum, cnt_sum]
  exact sumTo_congr fun k hk => by rw [e k hk]
theorem cnt_zero {L : Nat} {P : Nat → Bool} (h : ∀ k, k < L → P k = false) : cntTo L P = 0 := by
  induction L with
  | zero => rfl
  | succ L ih => rw [cntTo_succ, h L (by omega), if_neg (by decide), ih (fun k hk => h k (by omega))]
/-- in order, and alike as heaps: the same -/
theorem sr_uniq : ∀ (L : Nat) (g h : Nat → Int), (∀ i j, i < j → j < L → g i ≤ g j) → (∀ i j, i < j → j < L → h i ≤ h j) → (∀ P, cntP L g P = cntP L h P) → EQ L g h := by
  intro L
  induction L with
  | zero => intro g h _ _ _ k hk; omega
  | succ L ih =>
    intro g h hg hh hc
    have key : ∀ g h : Nat → Int, (∀ i j, i < j → j < L + 1 → g i ≤ g j) → (∀ P, cntP (L + 1) g P = cntP (L + 1) h P) → h L ≤ g L := by
      intro g h hg hc
      by_cases c : h L ≤ g L
      · exact c
      · exfalso
        have e := hc (fun x => decide (x = h L))
        unfold cntP at e
        rw [cnt_zero (P := fun k => decide (g k = h L)) (fun k hk => decide_eq_false (by
          by_cases f : k = L
          · subst f; omega
          · have := hg k L (by omega) (by omega); omega)), cntTo_succ, if_pos (decide_eq_true rfl)] at e
        have := (cntTo_rng L (fun k => decide (h k = h L))).1
        have e : (0 : Int) = cntTo L (fun k => decide (h k = h L)) + 1 := e
        omega
    have eL : g L = h L := by
      have a := key g h hg hc
      have b := key h g hh (fun P => (hc P).symm)
      omega
    have e := ih g h (fun i j a b => hg i j a (by omega)) (fun i j a b => hh i j a (by omega)) (fun P => by
      have e := hc P
      unfold cntP at e ⊢
      rw [cntTo_succ, cntTo_succ, eL] at e
      split at e <;> omega)
    intro k hk
    by_cases f : k = L
    · subst f; exact eL
    · exact e k (by omega)
def SR (L : Nat) (A B : Nat → Int) : Prop := EQ L (srF L A) (srF L B)
theorem SR_cnt {L : Nat} {A B : Nat → Int} : SR L A B ↔ ∀ P, cntP L A P = cntP L B P :=
  ⟨fun h P => (cntP_srF P A L (Nat.le_refl _)).symm.trans ((cntP_congr h P).trans (cntP_srF P B L (Nat.le_refl _))), fun h => sr_uniq L _ _ (srF_sr L A) (srF_sr L B) (fun P => (cntP_srF P A L (Nat.le_refl _)).trans ((h P).trans (cntP_srF P B L (Nat.le_refl _)).symm))⟩
theorem SR.symm {L : Nat} {A B : Nat → Int} (h : SR L A B) : SR L B A := fun k hk => (h k hk).symm
theorem SR.trans {L : Nat} {A B C : Nat → Int} (h : SR L A B) (h2 : SR L B C) : SR L A C := fun k hk => (h k hk).trans (h2 k hk)
theorem SR.of {L : Nat} {A B : Nat → Int} (h : EQ L A B) : SR L A B := SR_cnt.mpr (cntP_congr h)
theorem SR.map {L : Nat} {A B : Nat → Int} (h : SR L A B) (f : Int → Int) : SR L (fun k => f (A k)) (fun k => f (B k)) := SR_cnt.mpr fun P => (SR_cnt.mp h) (fun x => P (f x))
theorem SR.inv {L : Nat} {A B : Nat → Int} {f fi : Int → Int} (h : SR L (fun k => f (A k)) (fun k => f (B k))) (hA : ∀ k, k < L → fi (f (A k)) = A k) (hB : ∀ k, k < L → fi (f (B k)) = B k) : SR L A B :=
  ((SR.of (fun k hk => (hA k hk).symm)).trans (h.map fi)).trans (SR.of hB)
/-- an array in order with the right heap is the sorted one -/
theorem SR_row {L : Nat} {A R : Nat → Int} (h1 : ∀ i j, i < j → j < L → R i ≤ R j) (h2 : ∀ P, cntP L R P = cntP L A P) : EQ L R (srF L A) :=
  sr_uniq L _ _ h1 (srF_sr L A) (fun P => (h2 P).trans (cntP_srF P A L (Nat.le_refl _)).symm)
/-! the lesser of two -/
def fdx (s m : Nat → Int) : Nat → Nat → Nat
  | 0, i => i
  | k + 1, i => if s i = m i then fdx s m k (i + 1) else i
def lxm (L : Nat) (s m : Nat → Int) : Nat → Int := if fdx s m L 0 < L ∧ m (fdx s m L 0) < s (fdx s m L 0) then m else s
theorem fdx_p (s m : Nat → Int) : ∀ k i, i ≤ fdx s m k i ∧ fdx s m k i ≤ i + k ∧ (∀ j, i ≤ j → j < fdx s m k i → s j = m j) ∧ (fdx s m k i < i + k → s (fdx s m k i) ≠ m (fdx s m k i)) := by
  intro k
  induction k with
  | zero => intro i; exact ⟨Nat.le_refl _, Nat.le_refl _, fun j a b => absurd b (by show ¬ j < i; omega), fun h => absurd h (by show ¬ i < i + 0; omega)⟩
  | succ k ih =>
    intro i
    unfold fdx
    by_cases c : s i = m i
    · rw [if_pos c]
      obtain ⟨a1, a2, a3, a4⟩ := ih (i + 1)
      refine ⟨by omega, by omega, fun j b1 b2 => ?_, fun h => a4 (by omega)⟩
      by_cases e : j = i
      · rw [e]; exact c
      · exact a3 j (by omega) b2
    · rw [if_neg c]
      exact ⟨Nat.le_refl _, by omega, fun j a b => absurd b (by omega), fun _ => c⟩
theorem fdx_congr {s m s' m' : Nat → Int} {L : Nat} (h1 : EQ L s s') (h2 : EQ L m m') : ∀ k i, i + k ≤ L → fdx s m k i = fdx s' m' k i := by
  intro k
  induction k with
  | zero => intro i _; rfl
  | succ k ih =>
    intro i hi
    unfold fdx
    rw [h1 i (by omega), h2 i (by omega), ih (i + 1) (by omega)]
theorem lxm_congr {s m s' m' : Nat → Int} {L : Nat} (h1 : EQ L s s') (h2 : EQ L m m') : EQ L (lxm L s m) (lxm L s' m') := by
  intro k hk
  have e := fdx_congr h1 h2 L 0 (by omega)
  unfold lxm
  rw [e]
  by_cases c : fdx s' m' L 0 < L
  · rw [h1 _ c, h2 _ c]
    split
    · exact h2 k hk
    · exact h1 k hk
  · rw [if_neg (fun h => c h.1), if_neg (fun h => c h.1)]
    exact h1 k hk
theorem fdx_symm (s m : Nat → Int) : ∀ k i, fdx s m k i = fdx m s k i := by
  intro k
  induction k with
  | zero => intro i; rfl
  | succ k ih =>
    intro i
    unfold fdx
    rw [ih (i + 1)]
    by_cases c : s i = m i
    · rw [if_pos c, if_pos c.symm]
    · rw [if_neg c, if_neg (fun h => c h.symm)]
theorem lxm_symm (s m : Nat → Int) (L : Nat) : EQ L (lxm L s m) (lxm L m s) := by
  intro k hk
  obtain ⟨a1, a2, a3, a4⟩ := fdx_p s m L 0
  unfold lxm
  rw [← fdx_symm s m L 0]
  by_cases c : fdx s m L 0 < L
  · have ne := a4 (by omega)
    by_cases e : m (fdx s m L 0) < s (fdx s m L 0)
    · rw [if_pos ⟨c, e⟩, if_neg (fun h => by have := h.2; omega)]
    · rw [if_neg (fun h => e h.2), if_pos ⟨c, by omega⟩]
  · rw [if_neg (fun h => c h.1), if_neg (fun h => c h.1)]
    exact a3 k (by omega) (by omega)
theorem lxm_or (s m : Nat → Int) (L : Nat) : lxm L s m = s ∨ lxm L s m = m := by
  unfold lxm
  split
  · exact Or.inr rfl
  · exact Or.inl rfl
/-- what the class writes down of a layout -/
def canF (L : Nat) (f : Int → Int) (A : Nat → Int) : Nat → Int := lxm L (srF L A) (srF L (fun k => f (A k)))
theorem can_iff {L : Nat} {f : Int → Int} {A B : Nat → Int} (hA : ∀ k, k < L → f (f (A k)) = A k) (hB : ∀ k, k < L → f (f (B k)) = B k) : EQ L (canF L f A) (canF L f B) ↔ SR L A B ∨ SR L A (fun k => f (B k)) := by
  constructor
  · intro h
    unfold canF at h
    rcases lxm_or (srF L A) (srF L (fun k => f (A k))) L with a | a <;> rcases lxm_or (srF L B) (srF L (fun k => f (B k))) L with b | b <;> rw [a, b] at h
    · exact Or.inl h
    · exact Or.inr h
    · have h : SR L (fun k => f (A k)) B := h
      exact Or.inr ((SR.of (fun k hk => (hA k hk).symm)).trans (h.map f))
    · have h : SR L (fun k => f (A k)) (fun k => f (B k)) := h
      exact Or.inl (SR.inv (fi := f) h hA hB)
  · intro h
    rcases h with h | h
    · exact lxm_congr h (h.map f)
    · have h2 : SR L (fun k => f (A k)) B := (h.map f).trans (SR.of hB)
      intro k hk
      exact (lxm_congr (L := L) h h2 k hk).trans (lxm_symm _ _ L k hk)
