/-! ===== orders, on both ===== -/
section ORD
variable {S : List sk_Sh} {I v : sk_H}
theorem m72 {d : Nat} (hd : 2 ≤ d) (hS : sk_G S) (hv : vC I 53 = v) (hT : VT v) {n : Nat} (hn : v 0 2 = n) (o0 : Nat) : (nxF leI n (v 9) = none → sk_c d 72 [.ref o0, .ref 53] (sk_mk S I) = some (some (.int (sj 0)), sk_mk S I)) ∧ ∀ g, nxF leI n (v 9) = some g → ∃ I', sk_c d 72 [.ref o0, .ref 53] (sk_mk S I) = some (some (.int (sj 1)), sk_mk S I') ∧ vC I' 53 = st9 v g ∧ ∀ c, c ≠ 55 → I' c = I c := by
  have hV := hT.1
  have ha : sk_isP 53 := Or.inr (Or.inr rfl)
  obtain ⟨n1, n2, n3, n4, n5, n6, n7, n8, n9, n10, n11, n12⟩ := hV.1
  obtain ⟨d, rfl⟩ : ∃ e, d = e + 1 := ⟨d - 1, by omega⟩; rw [sk_e72]
  have rng : ∀ k : Nat, k < n → -2147483648 ≤ v 9 k ∧ v 9 k < 2147483648 := fun k hk => by
    obtain ⟨d1, d2, -⟩ := hV.2.2.1.1 k (by omega); omega
  rw [pl_r1b hS ha, pl_i6b hS ha, vc6 hv, hn, sj_sub]
  have down : ∀ m : Nat, m ≤ n - 1 → sk_D72 d 12 [some (.ref o0), some (.ref 53), some (.ref 55), some (.int (sj ((m : Int) - 1))), none, none, none] [] (sk_mk S I) = match fst1 (fun i j => leI (v 9 i) (v 9 j)) m with
      | none => some (some (.int (sj 0)), sk_mk S I)
      | some i => sk_D72 d 47 [some (.ref o0), some (.ref 53), some (.ref 55), some (.int (sj (i : Int))), some (.int (sj ((n : Int) - 1))), none, none] [] (sk_mk S I) := by
    intro m
    induction m with
    | zero =>
      intro _
      rw [sk_e72_12, if_pos (ky_lt (by omega) (by omega) (by omega) (by omega) (by omega)), if_neg (kn_ge (by omega) (by omega) (by omega) (by omega) (by omega))]
      rfl
    | succ m ih =>
      intro hm
      have a1 := rng m (by omega)
      have a2 := rng (m + 1) (by omega)
      have t1 : ((m : Int) + 1).toNat = m + 1 := by omega
      unfold fst1
      rw [show (((m + 1 : Nat) : Int) - 1) = (m : Int) by omega, sk_e72_12, if_neg (kn_lt (by omega) (by omega) (by omega) (by omega) (by omega)), po_ab hS ha (by omega) (by omega), Int.toNat_natCast, vo_ hv, sj_add, po_ab hS ha (by omega) (by omega), t1, vo_ hv]
      by_cases c : v 9 m ≤ v 9 (m + 1)
      · rw [if_pos (ky_le (by omega) (by omega) (by omega) (by omega) c), if_pos (ky_ge (by omega) (by omega) (by omega) (by omega) (by omega)), pl_i6b hS ha, vc6 hv, hn, sj_sub, if_pos (show leI (v 9 m) (v 9 (m + 1)) = true from decide_eq_true c)]
      · rw [if_neg (kn_le (by omega) (by omega) (by omega) (by omega) (by omega)), if_neg (show ¬ leI (v 9 m) (v 9 (m + 1)) = true from fun h => c (of_decide_eq_true h)), sj_add, show (m : Int) + -1 = (m : Int) - 1 by omega]
        exact ih (by omega)
  have rev : ∀ (m : Nat) (w J : sk_H) (a b : Nat) (o2 o3 o4 : Option Value), b ≤ a + m → b < n → a ≤ n → vC J 53 = w → VT w → w 0 2 = n → ∃ J', sk_D72 d 89 [some (.ref o0), some (.ref 53), o2, o3, o4, some (.int (sj (a : Int))), some (.int (sj (b : Int)))] [] (sk_mk S J) = some (some (.int (sj 1)), sk_mk S J') ∧ vC J' 53 = st9 w (rvF m (w 9) a b) ∧ ∀ c, c ≠ 55 → J' c = J c := by
    intro m
    induction m with
    | zero =>
      intro w J a b o2 o3 o4 h hb han hw hTw h2
      refine ⟨J, ?_, ?_, fun _ _ => rfl⟩
      · rw [sk_e72_89, if_pos (ky_ge (by omega) (by omega) (by omega) (by omega) (by omega))]
      · rw [show rvF 0 (w 9) a b = w 9 from rfl, st9_id]; exact hw
    | succ m ih =>
      intro w J a b o2 o3 o4 h hb han hw hTw h2
      unfold rvF
      by_cases c : b ≤ a
      · refine ⟨J, ?_, ?_, fun _ _ => rfl⟩
        · rw [sk_e72_89, if_pos (ky_ge (by omega) (by omega) (by omega) (by omega) (by omega))]
        · rw [if_pos c, st9_id]; exact hw
      · obtain ⟨K, ek, k1, k2⟩ := m47 (S := S) (I := J) (d := d) (by omega) hS ha hw (i := a) (j := b) (by omega) (by omega)
        have hTx : VT (exV w a b) := VT_exV hTw (by omega) (by omega)
        obtain ⟨J', e, j1, j2⟩ := ih (exV w a b) K (a + 1) (b - 1) o2 o3 o4 (by omega) (by omega) (by omega) k1 hTx (by rw [exV_ne _ _ _ (by omega)]; exact h2)
        have t2 : (a : Int) + 1 = ((a + 1 : Nat) : Int) := rfl
        have t3 : (b : Int) + -1 = ((b - 1 : Nat) : Int) := by omega
        refine ⟨J', ?_, ?_, fun c hc => (j2 c hc).trans (k2 c hc)⟩
        · rw [sk_e72_89, if_neg (kn_ge (by omega) (by omega) (by omega) (by omega) (by omega)), pl_ob hS ha, ek, sk_cv_some, sj_add, sj_add, t2, t3]
          exact e
        · rw [if_neg c, j1, exV_nine, exV_st9, st9_st9]
  have e0 : sk_D72 d 12 [some (.ref o0), some (.ref 53), some (.ref 55), some (.int (sj ((n : Int) - 2))), none, none, none] [] (sk_mk S I) = match fst1 (fun i j => leI (v 9 i) (v 9 j)) (n - 1) with
      | none => some (some (.int (sj 0)), sk_mk S I)
      | some i => sk_D72 d 47 [some (.ref o0), some (.ref 53), some (.ref 55), some (.int (sj (i : Int))), some (.int (sj ((n : Int) - 1))), none, none] [] (sk_mk S I) := by
    by_cases n0 : n = 0
    · rw [sk_e72_12, if_pos (ky_lt (by omega) (by omega) (by omega) (by omega) (by omega)), if_neg (kn_ge (by omega) (by omega) (by omega) (by omega) (by omega)), show n - 1 = 0 by omega]
      rfl
    · rw [show (n : Int) - 2 = ((n - 1 : Nat) : Int) - 1 by omega]
      exact down (n - 1) (Nat.le_refl _)
  show (nxF leI n (v 9) = none → sk_D72 d 12 [some (.ref o0), some (.ref 53), some (.ref 55), some (.int (sj ((n : Int) - 2))), none, none, none] [] (sk_mk S I) = _) ∧ ∀ g, nxF leI n (v 9) = some g → ∃ I', sk_D72 d 12 [some (.ref o0), some (.ref 53), some (.ref 55), some (.int (sj ((n : Int) - 2))), none, none, none] [] (sk_mk S I) = _ ∧ _
  rw [e0]
  unfold nxF
  cases hf : fst1 (fun i j => leI (v 9 i) (v 9 j)) (n - 1) with
  | none => exact ⟨fun _ => rfl, fun g h => by cases h⟩
  | some i =>
    have hi := fst1_lt _ hf
    refine ⟨fun h => (by cases h), fun g h => ?_⟩
    cases h
    have up : ∀ m : Nat, m ≤ n - 1 → sk_D72 d 47 [some (.ref o0), some (.ref 53), some (.ref 55), some (.int (sj (i : Int))), some (.int (sj (m : Int))), none, none] [] (sk_mk S I) = sk_cv (sk_c d 47 [.ref 53, .int (sj (i : Int)), .int (sj (lst1 (fun i j => leI (v 9 i) (v 9 j)) i m : Int))] (sk_mk S I)) (fun w1 => (sk_geti w1 53 3 6).bind fun v2 => sk_D72 d 89 [some (.ref o0), some (.ref 53), some (.ref 55), some (.int (sj (i : Int))), some (.int (sj (lst1 (fun i j => leI (v 9 i) (v 9 j)) i m : Int))), some (.int (sj (i : Int) + sj 1)), some (.int (v2 - sj 1))] [] w1) := by
      intro m
      induction m with
      | zero =>
        intro _
        rw [sk_e72_47, if_pos (ky_le (by omega) (by omega) (by omega) (by omega) (by omega)), pl_ob hS ha]
        rfl
      | succ m ih =>
        intro hm
        have a1 := rng i (by omega)
        have a2 := rng (m + 1) (by omega)
        unfold lst1
        rw [sk_e72_47]
        by_cases c : m + 1 ≤ i
        · rw [if_pos (ky_le (by omega) (by omega) (by omega) (by omega) (by omega)), pl_ob hS ha, if_pos (Or.inl c)]
        · rw [if_neg (kn_le (by omega) (by omega) (by omega) (by omega) (by omega)), po_ab hS ha (by omega) (by omega), Int.toNat_natCast, vo_ hv, po_ab hS ha (by omega) (by omega), Int.toNat_natCast, vo_ hv]
          by_cases e : v 9 i ≤ v 9 (m + 1)
          · rw [if_pos (ky_ge (by omega) (by omega) (by omega) (by omega) (by omega)), pl_ob hS ha, if_pos (Or.inr (show leI (v 9 i) (v 9 (m + 1)) = true from decide_eq_true e))]
          · rw [if_neg (kn_ge (by omega) (by omega) (by omega) (by omega) (by omega)), if_neg (fun h => h.elim c (fun h => e (of_decide_eq_true h))), sj_add, show ((m + 1 : Nat) : Int) + -1 = (m : Int) by omega]
            exact ih (by omega)
    have hl := lst1_le (le := fun i j => leI (v 9 i) (v 9 j)) (i := i) (n - 1)
    have eu := up (n - 1) (Nat.le_refl _)
    generalize lst1 (fun i j => leI (v 9 i) (v 9 j)) i (n - 1) = l at *
    obtain ⟨K, ek, k1, k2⟩ := m47 (S := S) (I := I) (d := d) (by omega) hS ha hv (i := i) (j := l) (by omega) (by omega)
    have hTx : VT (exV v i l) := VT_exV hT (by omega) (by omega)
    have x2 : exV v i l 0 2 = n := (exV_ne _ _ _ (by omega)).trans hn
    obtain ⟨J', e, j1, j2⟩ := rev n (exV v i l) K (i + 1) (n - 1) (some (.ref 55)) (some (.int (sj (i : Int)))) (some (.int (sj (l : Int)))) (by omega) (by omega) (by omega) k1 hTx x2
    have t2 : (i : Int) + 1 = ((i + 1 : Nat) : Int) := rfl
    refine ⟨J', ?_, ?_, fun c hc => (j2 c hc).trans (k2 c hc)⟩
    · dsimp only
      rw [show (n : Int) - 1 = ((n - 1 : Nat) : Int) by omega, eu, ek, sk_cv_some, pl_i6b hS ha, vc6 k1, x2, sj_add, sj_sub, t2, show (n : Int) - 1 = ((n - 1 : Nat) : Int) by omega]
      exact e
    · rw [j1, exV_nine, exV_st9, st9_st9]
theorem m198 {d : Nat} (hd : 2 ≤ d) (hS : sk_G S) (hR : RP I 107 v) (hT : VT v) {n : Nat} (hn : v 0 2 = n) : (nxF leI n (v 9) = none → sk_c d 198 [.ref 105] (sk_mk S I) = some (some (.int (sj 0)), sk_mk S I)) ∧ ∀ g, nxF leI n (v 9) = some g → ∃ I', sk_c d 198 [.ref 105] (sk_mk S I) = some (some (.int (sj 1)), sk_mk S I') ∧ RP I' 107 (st9 v g) ∧ ∀ c, c ≠ 107 → I' c = I c := by
  have hV := hT.1
  obtain ⟨n1, n2, n3, n4, n5, n6, n7, n8, n9, n10, n11, n12⟩ := hV.1
  obtain ⟨d, rfl⟩ : ∃ e, d = e + 1 := ⟨d - 1, by omega⟩; rw [sk_e198]
  have rng : ∀ k : Nat, k < n → -2147483648 ≤ v 9 k ∧ v 9 k < 2147483648 := fun k hk => by
    obtain ⟨d1, d2, -⟩ := hV.2.2.1.1 k (by omega); omega
  have z2 : (2 : Int).toNat = 2 := rfl
  have q2 : I 107 2 = n := (hR.1 2 (by omega)).trans hn
  have rd : ∀ k : Nat, k < n → I 107 (87 + (k : Int)).toNat = v 9 k := fun k hk => by rw [show (87 + (k : Int)).toNat = 87 + k by omega]; exact hR.2.2.1 k (by omega)
  rw [g105_r1b hS, g107_ab hS (by omega) (by omega), z2, q2, sj_sub]
  have down : ∀ m : Nat, m ≤ n - 1 → sk_D198 d 11 [some (.ref 105), some (.int (sj (n : Int))), some (.int (sj ((m : Int) - 1))), none, none, none] [] (sk_mk S I) = match fst1 (fun i j => leI (v 9 i) (v 9 j)) m with
      | none => some (some (.int (sj 0)), sk_mk S I)
      | some i => sk_D198 d 54 [some (.ref 105), some (.int (sj (n : Int))), some (.int (sj (i : Int))), some (.int (sj ((n : Int) - 1))), none, none] [] (sk_mk S I) := by
    intro m
    induction m with
    | zero =>
      intro _
      rw [sk_e198_11, if_pos (ky_lt (by omega) (by omega) (by omega) (by omega) (by omega)), if_neg (kn_ge (by omega) (by omega) (by omega) (by omega) (by omega))]
      rfl
    | succ m ih =>
      intro hm
      have a1 := rng m (by omega)
      have a2 := rng (m + 1) (by omega)
      unfold fst1
      rw [show (((m + 1 : Nat) : Int) - 1) = (m : Int) by omega, sk_e198_11, if_neg (kn_lt (by omega) (by omega) (by omega) (by omega) (by omega)), g105_r1b hS, sj_add, g107_ab hS (by omega) (by omega), rd m (by omega), g105_r1b hS, sj_add, show 87 + (m : Int) + 1 = 87 + ((m + 1 : Nat) : Int) by omega, g107_ab hS (by omega) (by omega), rd (m + 1) (by omega)]
      by_cases c : v 9 m ≤ v 9 (m + 1)
      · rw [if_pos (ky_le (by omega) (by omega) (by omega) (by omega) c), if_pos (ky_ge (by omega) (by omega) (by omega) (by omega) (by omega)), sj_sub, if_pos (show leI (v 9 m) (v 9 (m + 1)) = true from decide_eq_true c)]
      · rw [if_neg (kn_le (by omega) (by omega) (by omega) (by omega) (by omega)), if_neg (show ¬ leI (v 9 m) (v 9 (m + 1)) = true from fun h => c (of_decide_eq_true h)), sj_add, show (m : Int) + -1 = (m : Int) - 1 by omega]
        exact ih (by omega)
  have rev : ∀ (m : Nat) (w J : sk_H) (a b : Nat) (o2 o3 o4 : Option Value), b ≤ a + m → b < n → a ≤ n → RP J 107 w → VT w → w 0 2 = n → ∃ J', sk_D198 d 97 [some (.ref 105), o2, o3, o4, some (.int (sj (a : Int))), some (.int (sj (b : Int)))] [] (sk_mk S J) = some (some (.int (sj 1)), sk_mk S J') ∧ RP J' 107 (st9 w (rvF m (w 9) a b)) ∧ ∀ c, c ≠ 107 → J' c = J c := by
    intro m
    induction m with
    | zero =>
      intro w J a b o2 o3 o4 h hb han hw hTw h2
      refine ⟨J, ?_, ?_, fun _ _ => rfl⟩
      · rw [sk_e198_97, if_pos (ky_ge (by omega) (by omega) (by omega) (by omega) (by omega))]
      · rw [show rvF 0 (w 9) a b = w 9 from rfl, st9_id]; exact hw
    | succ m ih =>
      intro w J a b o2 o3 o4 h hb han hw hTw h2
      unfold rvF
      by_cases c : b ≤ a
      · refine ⟨J, ?_, ?_, fun _ _ => rfl⟩
        · rw [sk_e198_97, if_pos (ky_ge (by omega) (by omega) (by omega) (by omega) (by omega))]
        · rw [if_pos c, st9_id]; exact hw
      · obtain ⟨K, ek, k1, k2⟩ := m171 (S := S) (I := J) (d := d) (by omega) hS hw hTw.1 (i := a) (j := b) (by omega) (by omega)
        have hTx : VT (exV w a b) := VT_exV hTw (by omega) (by omega)
        obtain ⟨J', e, j1, j2⟩ := ih (exV w a b) K (a + 1) (b - 1) o2 o3 o4 (by omega) (by omega) (by omega) k1 hTx (by rw [exV_ne _ _ _ (by omega)]; exact h2)
        have t2 : (a : Int) + 1 = ((a + 1 : Nat) : Int) := rfl
        have t3 : (b : Int) + -1 = ((b - 1 : Nat) : Int) := by omega
        refine ⟨J', ?_, ?_, fun c hc => (j2 c hc).trans (k2 c hc)⟩
        · rw [sk_e198_97, if_neg (kn_ge (by omega) (by omega) (by omega) (by omega) (by omega)), g105_ob hS, ek, sk_cv_some, sj_add, sj_add, t2, t3]
          exact e
        · rw [if_neg c, ← st9_st9 w (exF (w 9) a b), ← exV_st9, ← exV_nine]; exact j1
  have e0 : sk_D198 d 11 [some (.ref 105), some (.int (sj (n : Int))), some (.int (sj ((n : Int) - 2))), none, none, none] [] (sk_mk S I) = match fst1 (fun i j => leI (v 9 i) (v 9 j)) (n - 1) with
      | none => some (some (.int (sj 0)), sk_mk S I)
      | some i => sk_D198 d 54 [some (.ref 105), some (.int (sj (n : Int))), some (.int (sj (i : Int))), some (.int (sj ((n : Int) - 1))), none, none] [] (sk_mk S I) := by
    by_cases n0 : n = 0
    · rw [sk_e198_11, if_pos (ky_lt (by omega) (by omega) (by omega) (by omega) (by omega)), if_neg (kn_ge (by omega) (by omega) (by omega) (by omega) (by omega)), show n - 1 = 0 by omega]
      rfl
    · rw [show (n : Int) - 2 = ((n - 1 : Nat) : Int) - 1 by omega]
      exact down (n - 1) (Nat.le_refl _)
  rw [e0]
  unfold nxF
  cases hf : fst1 (fun i j => leI (v 9 i) (v 9 j)) (n - 1) with
  | none => exact ⟨fun _ => rfl, fun g h => by cases h⟩
  | some i =>
    have hi := fst1_lt _ hf
    refine ⟨fun h => (by cases h), fun g h => ?_⟩
    cases h
    have up : ∀ m : Nat, m ≤ n - 1 → i ≤ m → sk_D198 d 54 [some (.ref 105), some (.int (sj (n : Int))), some (.int (sj (i : Int))), some (.int (sj (m : Int))), none, none] [] (sk_mk S I) = sk_cv (sk_c d 171 [.ref 105, .int (sj (i : Int)), .int (sj (lst1 (fun i j => leI (v 9 i) (v 9 j)) i m : Int))] (sk_mk S I)) (fun w5 => sk_D198 d 97 [some (.ref 105), some (.int (sj (n : Int))), some (.int (sj (i : Int))), some (.int (sj (lst1 (fun i j => leI (v 9 i) (v 9 j)) i m : Int))), some (.int (sj (i : Int) + sj 1)), some (.int (sj (n : Int) - sj 1))] [] w5) := by
      intro m
      induction m with
      | zero =>
        intro _ h0
        have i0 : i = 0 := by omega
        subst i0
        have a1 := rng 0 (by omega)
        rw [sk_e198_54, g105_r1b hS, sj_add, g107_ab hS (by omega) (by omega), rd 0 (by omega), g105_r1b hS, g107_ab hS (by omega) (by omega), rd 0 (by omega), if_pos (ky_ge (by omega) (by omega) (by omega) (by omega) (by omega)), g105_ob hS]
        rfl
      | succ m ih =>
        intro hm him
        have a1 := rng i (by omega)
        have a2 := rng (m + 1) (by omega)
        unfold lst1
        rw [sk_e198_54, g105_r1b hS, sj_add, g107_ab hS (by omega) (by omega), rd (m + 1) (by omega), g105_r1b hS, sj_add, g107_ab hS (by omega) (by omega), rd i (by omega)]
        by_cases e : v 9 i ≤ v 9 (m + 1)
        · rw [if_pos (ky_ge (by omega) (by omega) (by omega) (by omega) (by omega)), g105_ob hS, if_pos (Or.inr (show leI (v 9 i) (v 9 (m + 1)) = true from decide_eq_true e))]
        · have ne : ¬ m + 1 ≤ i := fun h => e (by rw [show m + 1 = i by omega]; omega)
          rw [if_neg (kn_ge (by omega) (by omega) (by omega) (by omega) (by omega)), if_neg (fun h => h.elim ne (fun h => e (of_decide_eq_true h))), sj_add, show ((m + 1 : Nat) : Int) + -1 = (m : Int) by omega]
          exact ih (by omega) (by omega)
    have hl := lst1_le (le := fun i j => leI (v 9 i) (v 9 j)) (i := i) (n - 1)
    have eu := up (n - 1) (Nat.le_refl _) (by omega)
    generalize lst1 (fun i j => leI (v 9 i) (v 9 j)) i (n - 1) = l at *
    obtain ⟨K, ek, k1, k2⟩ := m171 (S := S) (I := I) (d := d) (by omega) hS hR hV (i := i) (j := l) (by omega) (by omega)
    have hTx : VT (exV v i l) := VT_exV hT (by omega) (by omega)
    have x2 : exV v i l 0 2 = n := (exV_ne _ _ _ (by omega)).trans hn
    obtain ⟨J', e, j1, j2⟩ := rev n (exV v i l) K (i + 1) (n - 1) (some (.int (sj (n : Int)))) (some (.int (sj (i : Int)))) (some (.int (sj (l : Int)))) (by omega) (by omega) (by omega) k1 hTx x2
    have t2 : (i : Int) + 1 = ((i + 1 : Nat) : Int) := rfl
    refine ⟨J', ?_, ?_, fun c hc => (j2 c hc).trans (k2 c hc)⟩
    · dsimp only
      rw [show (n : Int) - 1 = ((n - 1 : Nat) : Int) by omega, eu, ek, sk_cv_some, sj_add, sj_sub, t2, show (n : Int) - 1 = ((n - 1 : Nat) : Int) by omega]
      exact e
    · rw [← st9_st9 v (exF (v 9) i l), ← exV_st9, ← exV_nine]; exact j1
end ORD
