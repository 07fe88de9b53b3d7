/-! ===== lines, the class ===== -/
section LIN
variable {S : List sk_Sh} {I v : sk_H}
def lnF (L : Nat) (lo hi lab : Nat → Int) (i : Nat) : Nat → Int
  | 0 => -1
  | j + 1 => if lab j = lab i ∧ lo j ≤ lo i ∧ lnF L lo hi lab i j < lo j ∧ frD L lo hi lab (lab i) (lo j) = true then lo j else lnF L lo hi lab i j
theorem lnF_s (L : Nat) (lo hi lab : Nat → Int) (i j : Nat) : lnF L lo hi lab i (j + 1) = if lab j = lab i ∧ lo j ≤ lo i ∧ lnF L lo hi lab i j < lo j ∧ frD L lo hi lab (lab i) (lo j) = true then lo j else lnF L lo hi lab i j := rfl
theorem frD_iff {L : Nat} {lo hi lab : Nat → Int} {g x : Int} : frD L lo hi lab g x = true ↔ frC L lo hi lab g x := ⟨fun h => (of_decide_eq_true h : ∀ k, k < L → lab k = g → ¬ (lo k < x ∧ x < hi k)), fun h => decide_eq_true (show ∀ k, k < L → lab k = g → ¬ (lo k < x ∧ x < hi k) from h)⟩
theorem lnF_spec {L : Nat} {lo hi lab : Nat → Int} {i : Nat} : lnC L lo hi lab i (lnF L lo hi lab i L) := by
  have key : ∀ n, n ≤ L → (∀ k, k < n → lab k = lab i → lo k ≤ lo i → frC L lo hi lab (lab i) (lo k) → lo k ≤ lnF L lo hi lab i n) ∧ (lnF L lo hi lab i n = -1 ∨ ∃ k, k < L ∧ lab k = lab i ∧ lo k ≤ lo i ∧ frC L lo hi lab (lab i) (lo k) ∧ lnF L lo hi lab i n = lo k) := by
    intro n
    induction n with
    | zero => intro _; exact ⟨fun k hk => absurd hk (by omega), Or.inl rfl⟩
    | succ n ih =>
      intro hn
      obtain ⟨a1, a2⟩ := ih (by omega)
      rw [lnF_s]
      by_cases c : lab n = lab i ∧ lo n ≤ lo i ∧ lnF L lo hi lab i n < lo n ∧ frD L lo hi lab (lab i) (lo n) = true
      · rw [if_pos c]
        refine ⟨fun k hk h1 h2 h3 => ?_, Or.inr ⟨n, by omega, c.1, c.2.1, frD_iff.mp c.2.2.2, rfl⟩⟩
        by_cases e : k = n
        · rw [e]; exact Int.le_refl _
        · have := a1 k (by omega) h1 h2 h3; have := c.2.2.1; omega
      · rw [if_neg c]
        refine ⟨fun k hk h1 h2 h3 => ?_, a2⟩
        by_cases e : k = n
        · subst e
          by_cases f : lnF L lo hi lab i k < lo k
          · exact absurd ⟨h1, h2, f, frD_iff.mpr h3⟩ c
          · omega
        · exact a1 k (by omega) h1 h2 h3
  exact key L (Nat.le_refl _)
theorem lnF_rng {L : Nat} {lo hi lab : Nat → Int} (h : ∀ k, k < L → 0 ≤ lo k ∧ lo k ≤ 1000) {i : Nat} : ∀ n, n ≤ L → -1 ≤ lnF L lo hi lab i n ∧ lnF L lo hi lab i n ≤ 1000 := by
  intro n
  induction n with
  | zero => intro _; exact ⟨Int.le_refl _, by show (-1 : Int) ≤ 1000; decide⟩
  | succ n ih =>
    intro hn
    rw [lnF_s]
    split
    · have := h n (by omega); omega
    · exact ih (by omega)
/-- one piece's line -/
theorem c14_16 {d : Nat} (hd : 1 ≤ d) (hS : sk_G S) {K : sk_H} {x3 x4 L : Nat} (h3 : S[x3]? = some (.inl 10)) (h4 : S[x4]? = some (.inl 10)) (hL : L ≤ 10) (h6 : K 80 6 = L) (r3 : ∀ k, k < L → 0 ≤ K x3 k ∧ K x3 k ≤ 1000) (r4 : ∀ k, k < L → 0 ≤ K x4 k ∧ K x4 k ≤ 1000) (r5 : ∀ k, k < L → 0 ≤ K 85 k ∧ K 85 k ≤ 1000) {i : Nat} (hi : i < L) (o6 : Option Value) : ∃ o4 o5 o6', sk_D14 d 16 [some (.ref 80), some (.ref x3), some (.ref x4), some (.int (sj (i : Int))), some (.int (sj (-1))), some (.int (sj 0)), o6] [] (sk_mk S K) = sk_D14 d 2 [some (.ref 80), some (.ref x3), some (.ref x4), some (.int (sj ((i + 1 : Nat) : Int))), o4, o5, o6'] [] (sk_mk S (u2 K 86 i (lnF L (K x3) (K x4) (K 85) i L))) := by
  have a3 := fun (k : Nat) (hk : k < L) => mk_ald (S := S) (I := K) (i := (k : Int)) h3 (by omega) (by omega) (by omega)
  have key := lp_run (fun j (X : Option sk_R) => ∃ o6', X = sk_D14 d 16 [some (.ref 80), some (.ref x3), some (.ref x4), some (.int (sj (i : Int))), some (.int (sj (lnF L (K x3) (K x4) (K 85) i j))), some (.int (sj (j : Int))), o6'] [] (sk_mk S K)) L (fun j X hj hX => by
    obtain ⟨o, rfl⟩ := hX
    have t2 : (j : Int) + 1 = ((j + 1 : Nat) : Int) := rfl
    have lr := lnF_rng (L := L) (lo := K x3) (hi := K x4) (lab := K 85) r3 (i := i) j (by omega)
    have qj := r3 j hj
    have qi := r3 i hi
    have l5j := r5 j hj
    have l5i := r5 i hi
    have eF := m15 (S := S) (K := K) (d := d) (by omega) hS h3 h4 hL h6 r3 r4 r5 l5i.1 l5i.2 qj.1 qj.2
    rw [lnF_s]
    rw [sk_e14_16, g80_i6b hS, h6, if_neg (kn_ge (by omega) (by omega) (by omega) (by omega) (by omega)), g80_r4b hS, g85_ab hS (by omega) (by omega), Int.toNat_natCast, g80_r4b hS, g85_ab hS (by omega) (by omega), Int.toNat_natCast]
    by_cases c1 : K 85 j = K 85 i
    rotate_left
    · rw [if_pos (ky_ne (by omega) (by omega) (by omega) (by omega) c1), sk_e14_56, if_pos (by decide), sj_add, t2, if_neg (fun h => c1 h.1)]
      exact ⟨_, rfl⟩
    rw [if_neg (kn_ne c1), a3 j hj, Option.bind_some, Int.toNat_natCast, a3 i hi, Option.bind_some, Int.toNat_natCast]
    by_cases c2 : K x3 j ≤ K x3 i
    rotate_left
    · rw [if_pos (ky_gt (by omega) (by omega) (by omega) (by omega) (by omega)), sk_e14_56, if_pos (by decide), sj_add, t2, if_neg (fun h => c2 h.2.1)]
      exact ⟨_, rfl⟩
    rw [if_neg (kn_gt (by omega) (by omega) (by omega) (by omega) (by omega)), sk_e14_56, if_neg (by decide), a3 j hj, Option.bind_some, Int.toNat_natCast]
    by_cases c3 : lnF L (K x3) (K x4) (K 85) i j < K x3 j
    rotate_left
    · rw [if_pos (ky_le (by omega) (by omega) (by omega) (by omega) (by omega)), sj_add, t2, if_neg (fun h => c3 h.2.2.1)]
      exact ⟨_, rfl⟩
    rw [if_neg (kn_le (by omega) (by omega) (by omega) (by omega) (by omega)), g80_r4b hS, g85_ab hS (by omega) (by omega), Int.toNat_natCast, Option.bind_some, g80_ob hS, eF, sk_ci_some]
    cases hf : frD L (K x3) (K x4) (K 85) (K 85 i) (K x3 j) with
    | false =>
      rw [if_pos cf_beq, sj_add, t2, if_neg (fun h => by have := h.2.2.2; cases this)]
      exact ⟨_, rfl⟩
    | true =>
      rw [if_neg ct_beq, a3 j hj, Option.bind_some, Int.toNat_natCast, sj_add, t2, if_pos ⟨c1, c2, c3, rfl⟩]
      exact ⟨_, rfl⟩) ⟨o6, rfl⟩
  obtain ⟨o, e⟩ := key
  have t2 : (i : Int) + 1 = ((i + 1 : Nat) : Int) := rfl
  refine ⟨some (.int (sj (lnF L (K x3) (K x4) (K 85) i L))), some (.int (sj (L : Int))), o, e.trans ?_⟩
  rw [sk_e14_16, g80_i6b hS, h6, if_pos (ky_ge (by omega) (by omega) (by omega) (by omega) (by omega)), g80_r5b hS, g86_sb hS (by omega) (by omega), Int.toNat_natCast, sj_add, t2]
end LIN
