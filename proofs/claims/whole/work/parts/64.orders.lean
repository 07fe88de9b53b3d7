/-! ===== orders, on both ===== -/
section ORD
variable {S : List sk_Sh} {I v : sk_H}
theorem m72 {d : Nat} (hd : 2 ≤ d) (hS : sk_G S) (hv : vC I 53 = v) (hT : VT v) {n : Nat} (hn : v 0 2 = n) (o0 : Nat) : (nxF leI n (v 9) = none → sk_c d 72 [.ref o0, .ref 53] (sk_mk S I) = some (some (.int (sj 0)), sk_mk S I)) ∧ ∀ g, nxF leI n (v 9) = some g → ∃ I', sk_c d 72 [.ref o0, .ref 53] (sk_mk S I) = some (some (.int (sj 1)), sk_mk S I') ∧ vC I' 53 = st9 v g ∧ ∀ c, c ≠ 55 → I' c = I c := by
  have hV := hT.1
  have ha : sk_isP 53 := Or.inr (Or.inr rfl)
  obtain ⟨n1, n2, n3, n4, n5, n6, n7, n8, n9, n10, n11, n12⟩ := hV.1
  obtain ⟨d, rfl⟩ : ∃ e, d = e + 1 := ⟨d - 1, by omega⟩; rw [sk_e72]
  have rng : ∀ k : Nat, k < n → -2147483648 ≤ v 9 k ∧ v 9 k < 2147483648 := fun k hk => by
    obtain ⟨d1, d2, -⟩ := hV.2.2.1.1 k (by omega); omega
  rw [pl_r1b hS ha, pl_i6b hS ha, vc6 hv, hn, sj_sub]
  have down : ∀ m : Nat, m ≤ n - 1 → sk_D72 d 12 [some (.ref o0), some (.ref 53), some (.ref 55), some (.int (sj ((m : Int) - 1))), none, none, none] [] (sk_mk S I) = match fst1 (fun i j => leI (v 9 i) (v 9 j)) m with
      | none => some (some (.int (sj 0)), sk_mk S I)
      | some i => sk_D72 d 47 [some (.ref o0), some (.ref 53), some (.ref 55), some (.int (sj (i : Int))), some (.int (sj ((n : Int) - 1))), none, none] [] (sk_mk S I) := by
    intro m
    induction m with
    | zero =>
      intro _
      rw [sk_e72_12, if_pos (ky_lt (by omega) (by omega) (by omega) (by omega) (by omega)), if_neg (kn_ge (by omega) (by omega) (by omega) (by omega) (by omega))]
      rfl
    | succ m ih =>
      intro hm
      have a1 := rng m (by omega)
      have a2 := rng (m + 1) (by omega)
      have t1 : ((m : Int) + 1).toNat = m + 1 := by omega
      unfold fst1
      rw [show (((m + 1 : Nat) : Int) - 1) = (m : Int) by omega, sk_e72_12, if_neg (kn_lt (by omega) (by omega) (by omega) (by omega) (by omega)), po_ab hS ha (by omega) (by omega), Int.toNat_natCast, vo_ hv, sj_add, po_ab hS ha (by omega) (by omega), t1, vo_ hv]
      by_cases c : v 9 m ≤ v 9 (m + 1)
      · rw [if_pos (ky_le (by omega) (by omega) (by omega) (by omega) c), if_pos (ky_ge (by omega) (by omega) (by omega) (by omega) (by omega)), pl_i6b hS ha, vc6 hv, hn, sj_sub, if_pos (decide_eq_true c)]
      · rw [if_neg (kn_le (by omega) (by omega) (by omega) (by omega) (by omega)), if_neg (show ¬ leI (v 9 m) (v 9 (m + 1)) = true from fun h => c (of_decide_eq_true h)), sj_add, show (m : Int) + -1 = (m : Int) - 1 by omega]
        exact ih (by omega)
  have rev : ∀ (m : Nat) (w J : sk_H) (a b : Nat) (o2 o3 o4 : Option Value), b ≤ a + m → b < n → vC J 53 = w → VT w → w 0 2 = n → ∃ J', sk_D72 d 89 [some (.ref o0), some (.ref 53), o2, o3, o4, some (.int (sj (a : Int))), some (.int (sj (b : Int)))] [] (sk_mk S J) = some (some (.int (sj 1)), sk_mk S J') ∧ vC J' 53 = st9 w (rvF m (w 9) a b) ∧ ∀ c, c ≠ 55 → J' c = J c := by
    intro m
    induction m with
    | zero =>
      intro w J a b o2 o3 o4 h hb hw hTw h2
      refine ⟨J, ?_, ?_, fun _ _ => rfl⟩
      · rw [sk_e72_89]
        by_cases ha9 : a ≤ 100
        · rw [if_pos (ky_ge (by omega) (by omega) (by omega) (by omega) (by omega))]
        · exact absurd hb (by sorry)
      · rw [show rvF 0 (w 9) a b = w 9 from rfl, st9_id]; exact hw
    | succ m ih =>
      intro w J a b o2 o3 o4 h hb hw hTw h2
      sorry
  sorry
end ORD
