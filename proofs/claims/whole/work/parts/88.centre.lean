/-! ===== centre ===== -/
section CEN
variable {S : List sk_Sh} {I v : sk_H} {a : Nat}
theorem m58 {d : Nat} (hd : 2 ≤ d) (hS : sk_G S) (ha : sk_isP a) (hv : vC I a = v) (hV : VO v) {x : Nat} (hx : x < 2) {N : Nat} (hN : (N : Int) = v 0 1) (h1 : 1 ≤ sI v N) : sk_c d 58 [.ref a, .int (sj (x : Int))] (sk_mk S I) = some (some (.float (FP.fdiv (sM v x N) (sA v N))), sk_mk S I) := by
  have n4 := hV.1.2.2.2.1
  obtain ⟨d, rfl⟩ : ∃ e, d = e + 1 := ⟨d - 1, by omega⟩; rw [sk_e58]
  have key := lp_run (fun p (X : Option sk_R) => ∃ o5 o6 o7 o8, X = sk_D58 d 7 [some (.ref a), some (.int (sj (x : Int))), some (.float (sA v p)), some (.float (sM v x p)), some (.int (sj (p : Int))), o5, o6, o7, o8] [] (sk_mk S I)) N (fun p X hp hX => by
    obtain ⟨o5, o6, o7, o8, rfl⟩ := hX
    have hp2 : (p : Int) < v 0 1 := by omega
    have hp10 : p < 10 := by omega
    have t2 : (p : Int) + 1 = ((p + 1 : Nat) : Int) := rfl
    rw [sk_e58_7, pl_i5b hS ha, vc5 hv, if_neg (kn_ge (by omega) (by omega) (by omega) (by omega) (by omega)), pl_r0b hS ha, pl_pb hS ha (by omega) (by omega), Int.toNat_natCast, pq_ob hS ha hp10, p27 (by omega) hS ha hv hV hp2, sk_ci_some]
    by_cases c : v 5 p = 0
    · have hl : ¬ lyB v p = true := fun h => (of_decide_eq_true h) c
      rw [decide_eq_false (fun h => h c), if_neg cf_bne, sj_add, t2, sA_s, if_neg hl, sM_s, if_neg hl]
      exact ⟨_, _, _, _, rfl⟩
    have hl : lyB v p = true := decide_eq_true c
    obtain ⟨q1, -, q3, q4, q5⟩ := pc_ok hV x hl hp2
    have a1 := pf_nn (pf_add (K := 160 + 2 * p) (sA_ok hV p (by omega)).1 (pf_mono q1 (by omega)) (by omega)) (by omega)
    have a5 := pf_nn (pf_add (K := 196 + 2 * p) (sM_ok hV x p (by omega)) (pf_mono q5 (by omega)) (by omega)) (by omega)
    have a3 := pf_nn q3 (by omega)
    have a4 := pf_nn q4 (by omega)
    have a6 := pf_nn q5 (by omega)
    unfold miF at a5 a6
    unfold arF at a1 a5 a6
    rw [decide_eq_true c, if_pos ct_bne, pq_i8b hS ha hp10, vp8 hv hp10, pq_i9b hS ha hp10, vp9 hv hp10]
    rw [sA_s, if_pos hl, sM_s, if_pos hl]
    by_cases cx : x = 0
    · subst cx
      have e1 : LOv v 0 p = v 6 p := if_pos rfl
      have e2 : szV v 0 p = v 15 p := if_pos rfl
      rw [e1, e2] at a5 a6 a4
      rw [e2] at a3
      rw [if_pos (ky_eq (show ((0 : Nat) : Int) = 0 from rfl)), pq_i5b hS ha hp10, vp5 hv hp10, if_pos (ky_eq (show ((0 : Nat) : Int) = 0 from rfl)), pq_i8b hS ha hp10, vp8 hv hp10, sk_e58_87, sj_mul, if_pos a1, if_pos a3, if_pos a4, if_pos a6, if_pos a5, sj_add, t2]
      unfold miF arF
      rw [e1, e2]
      exact ⟨_, _, _, _, rfl⟩
    · obtain rfl : x = 1 := by omega
      have e1 : LOv v 1 p = v 7 p := if_neg (by decide)
      have e2 : szV v 1 p = v 16 p := if_neg (by decide)
      rw [e1, e2] at a5 a6 a4
      rw [e2] at a3
      rw [if_neg (kn_eq (by omega) (by omega) (by omega) (by omega) (by decide)), pq_i6b hS ha hp10, vp6 hv hp10, if_neg (kn_eq (by omega) (by omega) (by omega) (by omega) (by decide)), pq_i9b hS ha hp10, vp9 hv hp10, sk_e58_87, sj_mul, if_pos a1, if_pos a3, if_pos a4, if_pos a6, if_pos a5, sj_add, t2]
      unfold miF arF
      rw [e1, e2]
      exact ⟨_, _, _, _, rfl⟩) ⟨none, none, none, none, rfl⟩
  obtain ⟨o5, o6, o7, o8, e⟩ := key
  refine e.trans ?_
  obtain ⟨b1, b2, b3, b4⟩ := sA_ok hV N (by omega)
  have cm : FP.fcmp (sA v N) FP.fconst0 = _ := FP.Core.fcmp_int b2 fi_0
  rw [sk_e58_7, pl_i5b hS ha, vc5 hv, if_pos (ky_ge (by omega) (by omega) (by omega) (by omega) (by omega)), if_neg (show ¬ sk_cond .le (Op.cmpValue (FP.fcmp (sA v N) FP.fconst0) .l) (sj 0) = true by rw [cv_le cm]; omega), if_pos (pf_nn (mid_ok hV x hN h1) (by omega))]
theorem m57 {d : Nat} (hd : 2 ≤ d) (hS : sk_G S) (ha : sk_isP a) (hv : vC I a = v) (hV : VO v) {N : Nat} (hN : (N : Int) = v 0 1) : sk_c d 57 [.ref a] (sk_mk S I) = some (some (.int (sj (sI v N))), sk_mk S I) := by
  have n4 := hV.1.2.2.2.1
  obtain ⟨d, rfl⟩ : ∃ e, d = e + 1 := ⟨d - 1, by omega⟩; rw [sk_e57]
  have key := lp_run (fun p (X : Option sk_R) => ∃ o3, X = sk_D57 d 4 [some (.ref a), some (.int (sj (sI v p))), some (.int (sj (p : Int))), o3] [] (sk_mk S I)) N (fun p X hp hX => by
    obtain ⟨o3, rfl⟩ := hX
    have hp2 : (p : Int) < v 0 1 := by omega
    have hp10 : p < 10 := by omega
    have t2 : (p : Int) + 1 = ((p + 1 : Nat) : Int) := rfl
    rw [sk_e57_4, pl_i5b hS ha, vc5 hv, if_neg (kn_ge (by omega) (by omega) (by omega) (by omega) (by omega)), pl_r0b hS ha, pl_pb hS ha (by omega) (by omega), Int.toNat_natCast, pq_ob hS ha hp10, p27 (by omega) hS ha hv hV hp2, sk_ci_some]
    by_cases c : v 5 p = 0
    · have hl : ¬ lyB v p = true := fun h => (of_decide_eq_true h) c
      rw [decide_eq_false (fun h => h c), if_pos cf_beq, sj_add, t2, sI_s, if_neg hl]
      exact ⟨_, rfl⟩
    have hl : lyB v p = true := decide_eq_true c
    rw [decide_eq_true c, if_neg ct_beq, pq_i8b hS ha hp10, vp8 hv hp10, pq_i9b hS ha hp10, vp9 hv hp10, sj_mul, sj_add, sj_add, t2, sI_s, if_pos hl]
    exact ⟨_, rfl⟩) ⟨none, rfl⟩
  obtain ⟨o3, e⟩ := key
  refine e.trans ?_
  rw [sk_e57_4, pl_i5b hS ha, vc5 hv, if_pos (ky_ge (by omega) (by omega) (by omega) (by omega) (by omega))]
theorem wtp_rng {v : sk_H} (hV : VO v) (h1 : 1 ≤ topV v) : 1 ≤ v 0 0 * topV v ∧ v 0 0 * topV v ≤ 20000 := by
  obtain ⟨n1, n2, -⟩ := hV.1
  have tr := topV_rng hV
  have m1 : 1 * 1 ≤ v 0 0 * topV v := Int.mul_le_mul n1 h1 (by omega) (by omega)
  have m2 : v 0 0 * topV v ≤ 20 * 1000 := Int.mul_le_mul n2 tr.2 (by omega) (by omega)
  omega
theorem m59 {d : Nat} (hd : 3 ≤ d) (hS : sk_G S) (ha : sk_isP a) (hv : vC I a = v) (hV : VO v) {N : Nat} (hN : (N : Int) = v 0 1) (h1 : 1 ≤ topV v) : sk_c d 59 [.ref a] (sk_mk S I) = some (some (.float (FP.fdiv (FP.i2f (sj (sI v N))) (FP.i2f (sj (v 0 0 * topV v))))), sk_mk S I) := by
  have n4 := hV.1.2.2.2.1
  have wr := wtp_rng hV h1
  obtain ⟨b1, b2, b3, b4⟩ := sA_ok hV N (by omega)
  obtain ⟨d, rfl⟩ : ∃ e, d = e + 1 := ⟨d - 1, by omega⟩; rw [sk_e59]
  have cm : FP.fcmp (FP.i2f (sj (v 0 0 * topV v))) FP.fconst0 = _ := FP.Core.fcmp_int (fi_i2s (x := v 0 0 * topV v) (by omega) (by omega)) fi_0
  rw [pl_i4b hS ha, vc4 hv, pl_ob hS ha, m43 (by omega) hS ha hv hV, sk_ci_some, sj_mul, if_neg (show ¬ sk_cond .le (Op.cmpValue (FP.fcmp (FP.i2f (sj (v 0 0 * topV v))) FP.fconst0) .l) (sj 0) = true by rw [cv_le cm]; omega), pl_ob hS ha, m57 (by omega) hS ha hv hV hN, sk_ci_some, if_pos (pf_nn (fil_ok (x := sI v N) (y := v 0 0 * topV v) (by omega) (by omega) (by omega) (by omega)) (by omega))]
theorem m212 {d : Nat} (hd : 1 ≤ d) (hS : sk_G S) (hR : RP I 107 v) (hV : VO v) : ∃ b, sk_c d 212 [.ref 105] (sk_mk S I) = some (some (.int (sj (bi b))), sk_mk S I) ∧ (b = true ↔ ∃ p : Nat, (p : Int) < v 0 1 ∧ lyB v p = true) := by
  have n3 := hV.1.2.2.1
  have n4 := hV.1.2.2.2.1
  have z1 : (1 : Int).toNat = 1 := rfl
  have c0 : I 107 1 = v 0 1 := hR.1 1 (by omega)
  obtain ⟨N, hN⟩ : ∃ N : Nat, v 0 1 = N := ⟨(v 0 1).toNat, by omega⟩
  obtain ⟨d, rfl⟩ : ∃ e, d = e + 1 := ⟨d - 1, by omega⟩; rw [sk_e212]
  have key : ∀ m q, q + m = N → (∀ k : Nat, k < q → ¬ lyB v k = true) → ∃ b, sk_D212 d 2 [some (.ref 105), some (.int (sj (q : Int)))] [] (sk_mk S I) = some (some (.int (sj (bi b))), sk_mk S I) ∧ (b = true ↔ ∃ p : Nat, (p : Int) < v 0 1 ∧ lyB v p = true) := by
    intro m
    induction m with
    | zero =>
      intro q hq h
      refine ⟨false, ?_, fun e => (by cases e), fun ⟨p, p1, p2⟩ => absurd p2 (h p (by omega))⟩
      rw [sk_e212_2, g105_r1b hS, g107_ab hS (by omega) (by omega), z1, c0, if_pos (ky_ge (by omega) (by omega) (by omega) (by omega) (by omega))]
      rfl
    | succ m ih =>
      intro q hq h
      have hq2 : (q : Int) < v 0 1 := by omega
      have t2 : (q : Int) + 1 = ((q + 1 : Nat) : Int) := rfl
      have t77 : (77 + (q : Int)).toNat = 77 + q := by omega
      have r5 := (hR.2.1 q hq2).2.2.2.2.1
      obtain ⟨q1, q2, q3, q4, q5, q6, q7, q8, q9, q10, -⟩ := vo_p hV hq2
      rw [sk_e212_2, g105_r1b hS, g107_ab hS (by omega) (by omega), z1, c0, if_neg (kn_ge (by omega) (by omega) (by omega) (by omega) (by omega)), g105_r1b hS, sj_add, g107_ab hS (by omega) (by omega), t77, r5]
      by_cases c : v 5 q = 0
      · rw [if_pos (ky_eq c), sj_add, t2]
        refine ih (q + 1) (by omega) (fun k hk => ?_)
        by_cases f : k = q
        · rw [f]; exact fun hh => (of_decide_eq_true hh) c
        · exact h k (by omega)
      · rw [if_neg (kn_eq (by omega) (by omega) (by omega) (by omega) c)]
        exact ⟨true, rfl, fun _ => ⟨q, hq2, decide_eq_true c⟩, fun _ => rfl⟩
  exact key N 0 (by omega) (fun k hk => absurd hk (by omega))
theorem lyN_iff {v : sk_H} : lyN v ≠ 0 ↔ ∃ p : Nat, (p : Int) < v 0 1 ∧ lyB v p = true := by
  constructor
  · intro h
    by_cases c : ∃ p : Nat, (p : Int) < v 0 1 ∧ lyB v p = true
    · exact c
    · exfalso
      apply h
      unfold lyN
      refine cntTo_zero (fun k hk => decide_eq_false (fun hh => c ⟨k, by omega, decide_eq_true hh⟩))
  · rintro ⟨p, p1, p2⟩
    have := cntTo_lt (n := (v 0 1).toNat) (P := fun _ => false) (Q := fun p => decide (v 5 p ≠ 0)) (fun _ _ h => by cases h) (p := p) (by omega) p2 rfl
    rw [cntTo_zero (fun _ _ => rfl)] at this
    unfold lyN
    omega
theorem r213_35 {d : Nat} (hd : 3 ≤ d) (hS : sk_G S) (hR : RP I 107 v) (hV : VO v) {x : Int} (x0 : 0 ≤ x) (x1 : x ≤ 2) {N : Nat} (hN : (N : Int) = v 0 1) (h1 : 1 ≤ sI v N) (h2 : 1 ≤ topV v) : sk_D213 d 35 [some (.ref 105), some (.int (sj x)), some (.float FP.fconst0), some (.float FP.fconst0), some (.float FP.fconst0), some (.int (sj 0)), some (.int (sj 0)), none] [] (sk_mk S I) = some (some (.int (sj (((if x = 0 then FP.fdiv (sM v 0 N) (sA v N) else if x = 1 then FP.fdiv (sM v 1 N) (sA v N) else FP.fdiv (FP.i2f (sj (sI v N))) (FP.i2f (sj (v 0 0 * topV v)))).toNat : Nat) : Int))), sk_mk S I) := by
  have n4 := hV.1.2.2.2.1
  have z1 : (1 : Int).toNat = 1 := rfl
  have z0 : (0 : Int).toNat = 0 := rfl
  have c0 : I 107 1 = v 0 1 := hR.1 1 (by omega)
  have w0 : I 107 0 = v 0 0 := hR.1 0 (by omega)
  have key := lp_run (fun p (X : Option sk_R) => ∃ o7, X = sk_D213 d 35 [some (.ref 105), some (.int (sj x)), some (.float (sA v p)), some (.float (sM v 0 p)), some (.float (sM v 1 p)), some (.int (sj (sI v p))), some (.int (sj (p : Int))), o7] [] (sk_mk S I)) N (fun p X hp hX => by
    obtain ⟨o7, rfl⟩ := hX
    have hp2 : (p : Int) < v 0 1 := by omega
    have t2 : (p : Int) + 1 = ((p + 1 : Nat) : Int) := rfl
    have t77 : (77 + (p : Int)).toNat = 77 + p := by omega
    have t47 : (47 + (p : Int)).toNat = 47 + p := by omega
    have t57 : (57 + (p : Int)).toNat = 57 + p := by omega
    obtain ⟨r1, r2, r3, r4, r5, r6⟩ := hR.2.1 p hp2
    obtain ⟨q1, q2, q3, q4, q5, q6, q7, q8, q9, q10, -⟩ := vo_p hV hp2
    rw [sk_e213_35, g105_r1b hS, g107_ab hS (by omega) (by omega), z1, c0, if_neg (kn_ge (by omega) (by omega) (by omega) (by omega) (by omega)), g105_r1b hS, sj_add, g107_ab hS (by omega) (by omega), t77, r5]
    by_cases c : v 5 p = 0
    · have hl : ¬ lyB v p = true := fun h => (of_decide_eq_true h) c
      rw [if_neg (kn_ne c), sj_add, t2, sA_s, if_neg hl, sM_s, if_neg hl, sM_s, if_neg hl, sI_s, if_neg hl]
      exact ⟨_, rfl⟩
    have hl : lyB v p = true := decide_eq_true c
    obtain ⟨r6, r7, r8⟩ := r6 c
    have e154 := m154 (S := S) (I := I) (d := d) (by omega) hS hR hV hp2 c
    have e155 := m155 (S := S) (I := I) (d := d) (by omega) hS hR hV hp2 c
    obtain ⟨p1, -, p3, p4, p5⟩ := pc_ok hV 0 hl hp2
    obtain ⟨-, -, s3, s4, s5⟩ := pc_ok hV 1 hl hp2
    have a1 := pf_nn (pf_add (K := 160 + 2 * p) (sA_ok hV p (by omega)).1 (pf_mono p1 (by omega)) (by omega)) (by omega)
    have a5 := pf_nn (pf_add (K := 196 + 2 * p) (sM_ok hV 0 p (by omega)) (pf_mono p5 (by omega)) (by omega)) (by omega)
    have b5 := pf_nn (pf_add (K := 196 + 2 * p) (sM_ok hV 1 p (by omega)) (pf_mono s5 (by omega)) (by omega)) (by omega)
    have a3 := pf_nn p3 (by omega)
    have a4 := pf_nn p4 (by omega)
    have a6 := pf_nn p5 (by omega)
    have b3 := pf_nn s3 (by omega)
    have b4 := pf_nn s4 (by omega)
    have b6 := pf_nn s5 (by omega)
    have e1 : LOv v 0 p = v 6 p := if_pos rfl
    have e2 : szV v 0 p = v 15 p := if_pos rfl
    have e3 : LOv v 1 p = v 7 p := if_neg (by decide)
    have e4 : szV v 1 p = v 16 p := if_neg (by decide)
    unfold miF at a5 a6 b5 b6
    unfold arF at a1 a5 a6 b5 b6
    rw [e1, e2] at a5 a6 a4
    rw [e2] at a3
    rw [e3, e4] at b5 b6 b4
    rw [e4] at b3
    rw [if_pos (ky_ne (by omega) (by omega) (by omega) (by omega) c), g105_ob hS, e154, sk_ci_some, g105_ob hS, e155, sk_ci_some, g105_ob hS, e154, sk_ci_some, g105_ob hS, e155, sk_ci_some, sj_mul, if_pos a1]
    rw [g105_r1b hS, sj_add, g107_ab hS (by omega) (by omega), t47, r6, g105_ob hS, e154, sk_ci_some, if_pos a3, if_pos a4, if_pos a6, if_pos a5]
    rw [g105_r1b hS, sj_add, g107_ab hS (by omega) (by omega), t57, r7, g105_ob hS, e155, sk_ci_some, if_pos b3, if_pos b4, if_pos b6, if_pos b5]
    rw [sj_add, sj_add, t2, sA_s, if_pos hl, sM_s, if_pos hl, sM_s, if_pos hl, sI_s, if_pos hl]
    unfold miF arF
    rw [e1, e2, e3, e4]
    exact ⟨_, rfl⟩) ⟨none, rfl⟩
  obtain ⟨o7, e⟩ := key
  refine (show _ = _ from e).trans ?_
  obtain ⟨b1, b2, b3, b4⟩ := sA_ok hV N (by omega)
  have wr := wtp_rng hV h2
  rw [sk_e213_35, g105_r1b hS, g107_ab hS (by omega) (by omega), z1, c0, if_pos (ky_ge (by omega) (by omega) (by omega) (by omega) (by omega))]
  by_cases k0 : x = 0
  · have m := mid_ok hV 0 hN h1
    rw [if_pos (ky_ne (by omega) (by omega) (by omega) (by omega) (by omega)), if_neg (kn_ne k0), if_pos (pf_nn m (by omega)), m238 (by omega) m, sk_ci_some, if_pos k0]
  by_cases k1 : x = 1
  · have m := mid_ok hV 1 hN h1
    rw [if_pos (ky_ne (by omega) (by omega) (by omega) (by omega) (by omega)), if_pos (ky_ne (by omega) (by omega) (by omega) (by omega) k0), if_pos (pf_nn m (by omega)), m238 (by omega) m, sk_ci_some, if_neg k0, if_pos k1]
  · have m := fil_ok (x := sI v N) (y := v 0 0 * topV v) (by omega) (by omega) (by omega) (by omega)
    rw [if_neg (kn_ne (show x = 2 by omega)), g105_r1b hS, g107_ab hS (by omega) (by omega), z0, w0, g105_ob hS, m185 (by omega) hS hR hV, sk_ci_some, sj_mul, if_pos (pf_nn m (by omega)), m238 (by omega) m, sk_ci_some, if_neg k0, if_neg k1]
end CEN
section CEF
variable {S : List sk_Sh} {I v : sk_H}
theorem f_centre (hS : sk_G S) (hG : GI I v) {x : Int} (x1 : -2147483648 ≤ x) (x2 : x < 2147483648) : FC S I 120 213 [.int (sj x)] := by
  have hG0 := hG
  obtain ⟨hv, hT, hR, hTp, hM, hRk, hSh⟩ := hG; have hV := hT.1; have ha : sk_isP 15 := Or.inl rfl; obtain ⟨n1, n2, n3, n4, n5, n6, n7, n8, n9, n10, n11, n12⟩ := hV.1
  have cc := sk_e120 19 1 (sj x) (sk_mk S I)
  have rr := sk_e213 19 105 (sj x) (sk_mk S I)
  have e144 := m144 (d := 19) (by omega) (x := x) (l := 0) (h := 2) x1 x2 (by omega) (by omega) (by omega) (by omega) (w := sk_mk S I)
  by_cases hx : 0 ≤ x ∧ x ≤ 2
  rotate_left
  · refine FC_same hG0 (-2) ?_ ?_
    · rw [cc]
      by_cases c : x < 0
      · rw [if_pos (ky_lt (by omega) (by omega) (by omega) (by omega) c)]
      · rw [if_neg (kn_lt (by omega) (by omega) (by omega) (by omega) (by omega)), if_neg (kn_le (by omega) (by omega) (by omega) (by omega) (by omega))]
    · rw [rr, e144, sk_ci_some, decide_eq_false hx, if_neg cf_bne]
  have lr : 0 ≤ lyN v ∧ lyN v ≤ 10 := by
    have := cntTo_rng (v 0 1).toNat (fun p => decide (v 5 p ≠ 0))
    unfold lyN
    omega
  obtain ⟨b, e212, hb⟩ := m212 (S := S) (I := I) (d := 19) (by omega) hS hR hV
  rw [if_neg (kn_lt (by omega) (by omega) (by omega) (by omega) (by omega)), if_pos (ky_le (by omega) (by omega) (by omega) (by omega) (by omega)), g1_r1b hS, pl_ob hS ha, m42 (by omega) hS ha hv hV, sk_ci_some] at cc
  rw [e144, sk_ci_some, decide_eq_true hx, if_pos ct_bne, g105_ob hS, e212, sk_ci_some] at rr
  by_cases hl : lyN v = 0
  · rw [if_neg (kn_ne hl)] at cc
    have hb0 : b = false := by
      cases b with
      | false => rfl
      | true => exact absurd hl (lyN_iff.mpr (hb.mp rfl))
    rw [hb0, if_neg cf_bne] at rr
    exact FC_same hG0 (-3) cc rr
  obtain ⟨p, p1, p2⟩ := lyN_iff.mp hl
  have hb1 : b = true := hb.mpr ⟨p, p1, p2⟩
  obtain ⟨N, hN⟩ : ∃ N : Nat, (N : Int) = v 0 1 := ⟨(v 0 1).toNat, by omega⟩
  have s1 := sI_pos hV p2 N (by omega) (by omega)
  have t1 := top_pos hT p2 p1
  have wr := wtp_rng hV t1
  obtain ⟨b1, b2, b3, b4⟩ := sA_ok hV N (by omega)
  rw [hb1, if_pos ct_bne, r213_35 (by omega) hS hR hV hx.1 hx.2 hN s1 t1] at rr
  rw [if_pos (ky_ne (by omega) (by omega) (by omega) (by omega) hl)] at cc
  refine FC_same hG0 _ ?_ rr
  rw [cc]
  by_cases k0 : x = 0
  · subst k0
    have m := mid_ok hV 0 hN s1
    have e58 : sk_c 19 58 [.ref 15, .int (sj 0)] (sk_mk S I) = _ := m58 (by omega) hS ha hv hV (x := 0) (by omega) hN s1
    rw [if_pos (ky_ne (by omega) (by omega) (by omega) (by omega) (by omega)), g1_r1b hS, if_pos (ky_ne (by omega) (by omega) (by omega) (by omega) (by omega)), pl_ob hS ha, e58, sk_cf_some, m139 (by omega) m, sk_ci_some, if_pos rfl]
  by_cases k1 : x = 1
  · subst k1
    have m := mid_ok hV 1 hN s1
    have e58 : sk_c 19 58 [.ref 15, .int (sj 1)] (sk_mk S I) = _ := m58 (by omega) hS ha hv hV (x := 1) (by omega) hN s1
    rw [if_pos (ky_ne (by omega) (by omega) (by omega) (by omega) (by omega)), g1_r1b hS, if_neg (kn_ne rfl), pl_ob hS ha, e58, sk_cf_some, m139 (by omega) m, sk_ci_some, if_neg k0, if_pos rfl]
  · have m := fil_ok (x := sI v N) (y := v 0 0 * topV v) (by omega) (by omega) (by omega) (by omega)
    rw [if_neg (kn_ne (show x = 2 by omega)), g1_r1b hS, pl_ob hS ha, m59 (by omega) hS ha hv hV hN t1, sk_cf_some, m139 (by omega) m, sk_ci_some, if_neg k0, if_neg k1]
end CEF
