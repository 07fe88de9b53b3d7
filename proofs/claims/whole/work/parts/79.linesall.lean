section LIA
variable {S : List sk_Sh} {I v : sk_H}
/-- all lines, then the numbers -/
theorem m14 {d : Nat} (hd : 2 ≤ d) (hS : sk_G S) {K : sk_H} {x3 x4 L : Nat} (h3 : S[x3]? = some (.inl 10)) (h4 : S[x4]? = some (.inl 10)) (n3 : x3 ≠ 86) (n4 : x4 ≠ 86) (hL : L ≤ 10) (h6 : K 80 6 = L) (r3 : ∀ k, k < L → 0 ≤ K x3 k ∧ K x3 k ≤ 1000) (r4 : ∀ k, k < L → 0 ≤ K x4 k ∧ K x4 k ≤ 1000) (r5 : ∀ k, k < L → 0 ≤ K 85 k ∧ K 85 k ≤ 1000) : ∃ J : sk_H, (∀ k, k < L → J 86 k = lnF L (K x3) (K x4) (K 85) k L) ∧ (∀ c, c ≠ 86 → J c = K c) ∧ sk_c d 14 [.ref 80, .ref x3, .ref x4] (sk_mk S K) = sk_ci (sk_c (d - 1) 16 [.ref 80] (sk_mk S J)) fun v3 w2 => some (some (.int v3), w2) := by
  obtain ⟨d, rfl⟩ : ∃ e, d = e + 1 := ⟨d - 1, by omega⟩; rw [sk_e14]
  have key := lp_run (fun i (X : Option sk_R) => ∃ J o4 o5 o6, X = sk_D14 d 2 [some (.ref 80), some (.ref x3), some (.ref x4), some (.int (sj (i : Int))), o4, o5, o6] [] (sk_mk S J) ∧ (∀ k, k < i → J 86 k = lnF L (K x3) (K x4) (K 85) k L) ∧ ∀ c, c ≠ 86 → J c = K c) L (fun i X hi hX => by
    obtain ⟨J, o4, o5, o6, rfl, j1, j2⟩ := hX
    have e3 := j2 x3 n3
    have e4 := j2 x4 n4
    have e5 := j2 85 (by omega)
    have e6 : J 80 6 = L := by rw [j2 80 (by omega)]; exact h6
    obtain ⟨p4, p5, p6, e⟩ := c14_16 (S := S) (K := J) (d := d) (by omega) hS h3 h4 hL e6 (by rw [e3]; exact r3) (by rw [e4]; exact r4) (by rw [e5]; exact r5) hi o6
    rw [e3, e4, e5] at e
    refine ⟨u2 J 86 i (lnF L (K x3) (K x4) (K 85) i L), p4, p5, p6, ?_, fun k hk => ?_, fun c hc => (funext fun k => u2_ne _ _ (by omega)).trans (j2 c hc)⟩
    · rw [sk_e14_2, g80_i6b hS, e6, if_neg (kn_ge (by omega) (by omega) (by omega) (by omega) (by omega))]
      exact e
    · by_cases f : k = i
      · rw [f, u2_eq]
      · rw [u2_ne _ _ (by omega)]; exact j1 k (by omega)) ⟨K, none, none, none, rfl, fun k hk => absurd hk (by omega), fun _ _ => rfl⟩
  obtain ⟨J, o4, o5, o6, e, j1, j2⟩ := key
  have e6 : J 80 6 = L := by rw [j2 80 (by omega)]; exact h6
  refine ⟨J, j1, j2, e.trans ?_⟩
  rw [sk_e14_2, g80_i6b hS, e6, if_pos (ky_ge (by omega) (by omega) (by omega) (by omega) (by omega)), g80_ob hS]
  rfl
end LIA
