/-! ===== free places, the class ===== -/
section FRE
variable {S : List sk_Sh} {I v : sk_H}
def frD (L : Nat) (lo hi lab : Nat → Int) (g x : Int) : Bool := decide (∀ k, k < L → lab k = g → ¬ (lo k < x ∧ x < hi k))
theorem m15 {d : Nat} (hd : 1 ≤ d) (hS : sk_G S) {K : sk_H} {x3 x4 L : Nat} (h3 : S[x3]? = some (.inl 10)) (h4 : S[x4]? = some (.inl 10)) (hL : L ≤ 10) (h6 : K 80 6 = L) (r3 : ∀ k, k < L → 0 ≤ K x3 k ∧ K x3 k ≤ 1000) (r4 : ∀ k, k < L → 0 ≤ K x4 k ∧ K x4 k ≤ 1000) (r5 : ∀ k, k < L → 0 ≤ K 85 k ∧ K 85 k ≤ 1000) {g x : Int} (g1 : 0 ≤ g) (g2 : g ≤ 1000) (x1 : 0 ≤ x) (x2 : x ≤ 1000) : sk_c d 15 [.ref 80, .int (sj g), .int (sj x), .ref x3, .ref x4] (sk_mk S K) = some (some (.int (sj (bi (frD L (K x3) (K x4) (K 85) g x)))), sk_mk S K) := by
  obtain ⟨d, rfl⟩ : ∃ e, d = e + 1 := ⟨d - 1, by omega⟩; rw [sk_e15]
  have a3 := fun (k : Nat) (hk : k < L) => mk_ald (S := S) (I := K) (i := (k : Int)) h3 (by omega) (by omega) (by omega)
  have a4 := fun (k : Nat) (hk : k < L) => mk_ald (S := S) (I := K) (i := (k : Int)) h4 (by omega) (by omega) (by omega)
  have key : ∀ m q, q + m = L → (∀ k, k < q → K 85 k = g → ¬ (K x3 k < x ∧ x < K x4 k)) → sk_D15 d 3 [some (.ref 80), some (.int (sj g)), some (.int (sj x)), some (.ref x3), some (.ref x4), some (.int (sj (q : Int)))] [] (sk_mk S K) = some (some (.int (sj (bi (frD L (K x3) (K x4) (K 85) g x)))), sk_mk S K) := by
    intro m
    induction m with
    | zero =>
      intro q hq h
      have e : frD L (K x3) (K x4) (K 85) g x = true := decide_eq_true (fun k hk => h k (by omega))
      rw [sk_e15_3, g80_i6b hS, h6, if_pos (ky_ge (by omega) (by omega) (by omega) (by omega) (by omega)), e]
      rfl
    | succ m ih =>
      intro q hq h
      have t2 : (q : Int) + 1 = ((q + 1 : Nat) : Int) := rfl
      have q3 := r3 q (by omega)
      have q4 := r4 q (by omega)
      have q5 := r5 q (by omega)
      have nx : (K 85 q = g → ¬ (K x3 q < x ∧ x < K x4 q)) → sk_D15 d 3 [some (.ref 80), some (.int (sj g)), some (.int (sj x)), some (.ref x3), some (.ref x4), some (.int (sj (q : Int) + sj 1))] [] (sk_mk S K) = some (some (.int (sj (bi (frD L (K x3) (K x4) (K 85) g x)))), sk_mk S K) := fun hq2 => by
        rw [sj_add, t2]
        refine ih (q + 1) (by omega) (fun k hk => ?_)
        by_cases f : k = q
        · rw [f]; exact hq2
        · exact h k (by omega)
      rw [sk_e15_3, g80_i6b hS, h6, if_neg (kn_ge (by omega) (by omega) (by omega) (by omega) (by omega)), g80_r4b hS, g85_ab hS (by omega) (by omega), Int.toNat_natCast]
      by_cases c : K 85 q = g
      rotate_left
      · rw [if_pos (ky_ne (by omega) (by omega) (by omega) (by omega) c)]
        exact nx (fun h => absurd h c)
      rw [if_neg (kn_ne c), a3 q (by omega), Option.bind_some, Int.toNat_natCast]
      by_cases c2 : x ≤ K x3 q
      · rw [if_pos (ky_ge (by omega) (by omega) (by omega) (by omega) c2)]
        exact nx (fun _ h => by omega)
      rw [if_neg (kn_ge (by omega) (by omega) (by omega) (by omega) (by omega)), a4 q (by omega), Option.bind_some, Int.toNat_natCast]
      by_cases c3 : K x4 q ≤ x
      · rw [if_pos (ky_ge (by omega) (by omega) (by omega) (by omega) c3)]
        exact nx (fun _ h => by omega)
      rw [if_neg (kn_ge (by omega) (by omega) (by omega) (by omega) (by omega))]
      have e : frD L (K x3) (K x4) (K 85) g x = false := decide_eq_false (fun h => h q (by omega) c ⟨by omega, by omega⟩)
      rw [e]
      rfl
  exact key L 0 (by omega) (fun k hk => absurd hk (by omega))
end FRE
