/-! ===== cuts: a line is the same iff there is no cut between ===== -/
def frC (L : Nat) (lo hi : Nat → Int) (lab : Nat → Int) (g x : Int) : Prop := ∀ k, k < L → lab k = g → ¬ (lo k < x ∧ x < hi k)
def ptC (L : Nat) (lo hi : Nat → Int) (lab : Nat → Int) (i j : Nat) : Prop := ∃ x : Int, (hi i ≤ x ∨ hi j ≤ x) ∧ (x ≤ lo i ∨ x ≤ lo j) ∧ frC L lo hi lab (lab i) x
/-- l is the line that piece i lies at -/
def lnC (L : Nat) (lo hi : Nat → Int) (lab : Nat → Int) (i : Nat) (l : Int) : Prop := (∀ k, k < L → lab k = lab i → lo k ≤ lo i → frC L lo hi lab (lab i) (lo k) → lo k ≤ l) ∧ (l = -1 ∨ ∃ k, k < L ∧ lab k = lab i ∧ lo k ≤ lo i ∧ frC L lo hi lab (lab i) (lo k) ∧ l = lo k)
theorem least_lo (lo : Nat → Int) (P : Nat → Prop) : ∀ L, (∃ k, k < L ∧ P k) → ∃ k, k < L ∧ P k ∧ ∀ j, j < L → P j → lo k ≤ lo j := by
  intro L
  induction L with
  | zero => rintro ⟨k, hk, -⟩; omega
  | succ L ih =>
    rintro ⟨k, hk, hp⟩
    by_cases h : ∃ k, k < L ∧ P k
    · obtain ⟨m, m1, m2, m3⟩ := ih h
      by_cases c : P L ∧ lo L < lo m
      · refine ⟨L, by omega, c.1, fun j hj pj => ?_⟩
        by_cases e : j = L
        · rw [e]; exact Int.le_refl _
        · have := m3 j (by omega) pj; have := c.2; omega
      · refine ⟨m, by omega, m2, fun j hj pj => ?_⟩
        by_cases e : j = L
        · subst e
          by_cases f : lo j < lo m
          · exact absurd ⟨pj, f⟩ c
          · omega
        · exact m3 j (by omega) pj
    · have e : k = L := by
        by_cases e : k = L
        · exact e
        · exact absurd ⟨k, by omega, hp⟩ h
      subst e
      refine ⟨k, by omega, hp, fun j hj pj => ?_⟩
      by_cases f : j = k
      · rw [f]; exact Int.le_refl _
      · exact absurd ⟨j, by omega, pj⟩ h
theorem ln_le {L : Nat} {lo hi lab : Nat → Int} {i : Nat} {l : Int} (h0 : 0 ≤ lo i) (h : lnC L lo hi lab i l) : l ≤ lo i := by
  rcases h.2 with h | ⟨k, -, -, h1, -, h2⟩ <;> omega
/-- one side: i begins no later than j -/
theorem ln_pt1 {L : Nat} {lo hi lab : Nat → Int} (h0 : ∀ k, k < L → 0 ≤ lo k ∧ lo k < hi k) {i j : Nat} (hi1 : i < L) (hj1 : j < L) (hg : lab i = lab j) (hij : lo i ≤ lo j) {a b : Int} (ha : lnC L lo hi lab i a) (hb : lnC L lo hi lab j b) : a = b ↔ ¬ ptC L lo hi lab i j := by
  have hgi := h0 i hi1
  have hgj := h0 j hj1
  constructor
  · rintro e ⟨x, x1, x2, x3⟩
    have hx1 : hi i ≤ x := by
      rcases x1 with h | h
      · exact h
      · rcases x2 with h2 | h2 <;> omega
    have hx2 : x ≤ lo j := by rcases x2 with h2 | h2 <;> omega
    obtain ⟨k, k1, ⟨k2, k3⟩, k4⟩ := least_lo lo (fun k => lab k = lab i ∧ x ≤ lo k) L ⟨j, hj1, hg.symm, hx2⟩
    have kj := k4 j hj1 ⟨hg.symm, hx2⟩
    have fr : frC L lo hi lab (lab j) (lo k) := by
      rintro m m1 m2 ⟨m3, m4⟩
      have hm : lo m < x := by
        by_cases c : x ≤ lo m
        · have := k4 m m1 ⟨m2.trans hg.symm, c⟩; omega
        · omega
      exact x3 m m1 (m2.trans hg.symm) ⟨hm, by omega⟩
    have h1 := hb.1 k k1 (k2.trans hg) kj fr
    have h2 := ln_le hgi.1 ha
    omega
  · intro hn
    have hab : a ≤ b := by
      rcases ha.2 with h | ⟨k, k1, k2, k3, k4, k5⟩
      · rcases hb.2 with h2 | ⟨k, k1, -, -, -, k5⟩
        · omega
        · have := h0 k k1; omega
      · have := hb.1 k k1 (k2.trans hg) (by omega) (by rw [← hg]; exact k4)
        omega
    by_cases c : a = b
    · exact c
    · exfalso
      apply hn
      rcases hb.2 with h2 | ⟨k, k1, k2, k3, k4, k5⟩
      · rcases ha.2 with h | ⟨k, k1, -, -, -, k5⟩
        · omega
        · have := h0 k k1; omega
      · have fr : frC L lo hi lab (lab i) (lo k) := by rw [hg]; exact k4
        have hlt : lo i < lo k := by
          by_cases d : lo k ≤ lo i
          · have := ha.1 k k1 (k2.trans hg.symm) d fr; omega
          · omega
        refine ⟨lo k, Or.inl ?_, Or.inr k3, fr⟩
        by_cases d : hi i ≤ lo k
        · exact d
        · exact absurd ⟨hlt, by omega⟩ (fr i hi1 rfl)
theorem pt_symm {L : Nat} {lo hi lab : Nat → Int} {i j : Nat} (hg : lab i = lab j) (h : ptC L lo hi lab i j) : ptC L lo hi lab j i := by
  obtain ⟨x, x1, x2, x3⟩ := h
  exact ⟨x, x1.symm, x2.symm, by rw [← hg]; exact x3⟩
theorem ln_pt {L : Nat} {lo hi lab : Nat → Int} (h0 : ∀ k, k < L → 0 ≤ lo k ∧ lo k < hi k) {i j : Nat} (hi1 : i < L) (hj1 : j < L) (hg : lab i = lab j) {a b : Int} (ha : lnC L lo hi lab i a) (hb : lnC L lo hi lab j b) : a = b ↔ ¬ ptC L lo hi lab i j := by
  by_cases c : lo i ≤ lo j
  · exact ln_pt1 h0 hi1 hj1 hg c ha hb
  · have h := ln_pt1 h0 hj1 hi1 hg.symm (by omega) hb ha
    exact ⟨fun e p => h.mp e.symm (pt_symm hg p), fun n => (h.mpr (fun p => n (pt_symm hg.symm p))).symm⟩
