/-! ===== cuts: coarser stays coarser; a cut twice is a cut ===== -/
/-- what a cut leaves together -/
def tgC (L : Nat) (lo hi : Nat → Int) (lab : Nat → Int) (i j : Nat) : Prop := lab i = lab j ∧ ¬ ptC L lo hi lab i j
theorem pt_mono {L : Nat} {lo hi lab lab' : Nat → Int} {i j : Nat} (h : ∀ k, k < L → lab k = lab i → lab' k = lab' i) (p : ptC L lo hi lab' i j) : ptC L lo hi lab i j := by
  obtain ⟨x, x1, x2, x3⟩ := p
  exact ⟨x, x1, x2, fun k k1 k2 => x3 k k1 (h k k1 k2)⟩
/-- coarser stays coarser -/
theorem tg_mono {L : Nat} {lo hi lab lab' : Nat → Int} (h : ∀ i j, i < L → j < L → lab i = lab j → lab' i = lab' j) {i j : Nat} (hi1 : i < L) (hj1 : j < L) (t : tgC L lo hi lab i j) : tgC L lo hi lab' i j :=
  ⟨h i j hi1 hj1 t.1, fun p => t.2 (pt_mono (fun k k1 k2 => h k i k1 hi1 k2) p)⟩
theorem ln_mono {L : Nat} {lo hi lab : Nat → Int} (h0 : ∀ k, k < L → 0 ≤ lo k ∧ lo k < hi k) {i j : Nat} (hg : lab i = lab j) (hij : lo i ≤ lo j) {a b : Int} (ha : lnC L lo hi lab i a) (hb : lnC L lo hi lab j b) : a ≤ b := by
  rcases ha.2 with h | ⟨k, k1, k2, k3, k4, k5⟩
  · rcases hb.2 with h2 | ⟨k, k1, -, -, -, k5⟩
    · omega
    · have := h0 k k1; omega
  · have := hb.1 k k1 (k2.trans hg) (by omega) (by rw [← hg]; exact k4)
    omega
theorem tg_twice1 {L : Nat} {lo hi lab lab2 : Nat → Int} (h0 : ∀ k, k < L → 0 ≤ lo k ∧ lo k < hi k) {ln : Nat → Int} (hl : ∀ k, k < L → lnC L lo hi lab k (ln k)) (h2 : ∀ i j, i < L → j < L → (lab2 i = lab2 j ↔ tgC L lo hi lab i j)) {i j : Nat} (hi1 : i < L) (hj1 : j < L) (hij : lo i ≤ lo j) (e : lab2 i = lab2 j) : ¬ ptC L lo hi lab2 i j := by
  rintro ⟨x, x1, x2, x3⟩
  have t := (h2 i j hi1 hj1).mp e
  have hgi := h0 i hi1
  have hgj := h0 j hj1
  have hx1 : hi i ≤ x := by
    rcases x1 with h | h
    · exact h
    · rcases x2 with h2 | h2 <;> omega
  have hx2 : x ≤ lo j := by rcases x2 with h2 | h2 <;> omega
  have eij : ln i = ln j := (ln_pt h0 hi1 hj1 t.1 (hl i hi1) (hl j hj1)).mpr t.2
  apply t.2
  refine ⟨x, x1, x2, fun k k1 k2 k3 => ?_⟩
  have lki : ln k = ln i := by
    by_cases c : lo i ≤ lo k
    · have a := ln_mono h0 k2.symm c (hl i hi1) (hl k k1)
      have b := ln_mono h0 (k2.trans t.1) (by omega) (hl k k1) (hl j hj1)
      omega
    · have a := ln_mono h0 k2 (by omega) (hl k k1) (hl i hi1)
      have b : ln i ≤ ln k := by
        rcases (hl i hi1).2 with h | ⟨m, m1, m2, m3, m4, m5⟩
        · rcases (hl k k1).2 with h3 | ⟨m, m1, -, -, -, m5⟩
          · omega
          · have := h0 m m1; omega
        · have hm : lo m ≤ lo k := by
            by_cases d : lo m ≤ lo k
            · exact d
            · exact absurd ⟨by omega, by omega⟩ (m4 k k1 k2)
          have := (hl k k1).1 m m1 (m2.trans k2.symm) hm (by rw [k2]; exact m4)
          omega
      omega
  have e2 : lab2 k = lab2 i := (h2 k i k1 hi1).mpr ⟨k2, (ln_pt h0 k1 hi1 k2 (hl k k1) (hl i hi1)).mp lki⟩
  exact x3 k k1 e2 k3
/-- a cut twice is a cut -/
theorem tg_twice {L : Nat} {lo hi lab lab2 : Nat → Int} (h0 : ∀ k, k < L → 0 ≤ lo k ∧ lo k < hi k) {ln : Nat → Int} (hl : ∀ k, k < L → lnC L lo hi lab k (ln k)) (h2 : ∀ i j, i < L → j < L → (lab2 i = lab2 j ↔ tgC L lo hi lab i j)) {i j : Nat} (hi1 : i < L) (hj1 : j < L) : tgC L lo hi lab2 i j ↔ lab2 i = lab2 j := by
  refine ⟨fun t => t.1, fun e => ⟨e, ?_⟩⟩
  by_cases c : lo i ≤ lo j
  · exact tg_twice1 h0 hl h2 hi1 hj1 c e
  · exact fun p => tg_twice1 h0 hl h2 hj1 hi1 (by omega) e.symm (pt_symm e p)
