/-! ===== racks ===== -/
theorem GR1_pt {I J v : sk_H} {r : Nat} (h : GR1 I v r) (h1 : J (87 + 3 + 4 * r) = I (87 + 3 + 4 * r)) (h2 : J (120 + r) = I (120 + r)) (h3 : J (87 + 2 + 4 * r) = I (87 + 2 + 4 * r)) (h4 : J 117 r = I 117 r) (h5 : J 118 r = I 118 r) : GR1 J v r := by
  unfold GR1 at h ⊢
  rw [h1, h2, h3, h4, h5]
  exact h
theorem GI_R {I J v : sk_H} (hG : GI I v) (h : ∀ b, ¬ (89 ≤ b ∧ b < 105) → b ≠ 117 → b ≠ 118 → ¬ (120 ≤ b ∧ b < 125) → J b = I b) (hs : ∀ s, s < 4 → J (87 + 4 + 4 * s) = I (87 + 4 + 4 * s) ∧ J (87 + 5 + 4 * s) = I (87 + 5 + 4 * s)) (hr : ∀ r, r < 4 → GR1 J v r) : GI J v := by
  obtain ⟨g1, g2, g3, g4, g5, g6, g7⟩ := hG
  have f := fun b (hb : ¬ (89 ≤ b ∧ b < 105) ∧ b ≠ 117 ∧ b ≠ 118 ∧ ¬ (120 ≤ b ∧ b < 125)) => h b hb.1 hb.2.1 hb.2.2.1 hb.2.2.2
  refine ⟨(vC_fr (fun b b1 b2 => f b (by omega))).trans g1, g2, g3.fr (f 107 (by omega)), ?_, ?_, hr, fun s hs4 => ?_⟩
  · exact GT_fr g4 (by rw [f 2 (by omega)]) (by rw [f 105 (by omega)]) (f 3 (by omega)) (f 110 (by omega)) (fun k hk => f _ (by omega))
  · exact GM_fr g5 (f 1 (by omega)) (by rw [f 105 (by omega)]) (fun b b1 b2 => f b (by omega)) (f 108 (by omega))
  · exact GH1_fr (g7 s hs4) (hs s hs4).1 (hs s hs4).2 (f _ (by omega)) (f 125 (by omega)) (f 126 (by omega))
def tkR (v : sk_H) (kd p : Int) : Bool := decide (p = -1) || und (v 1 p.toNat) kd
def rgR (i n s : Int) : Bool := decide (0 ≤ n ∧ 0 ≤ i ∧ n ≤ s ∧ i ≤ s - n)
section RCK
variable {S : List sk_Sh} {I v : sk_H} {a : Nat}
theorem m137 {d : Nat} (hd : 1 ≤ d) {i n s : Int} (i1 : -2147483648 ≤ i) (i2 : i < 2147483648) (k1 : -2147483648 ≤ n) (k2 : n < 2147483648) (s1 : 0 ≤ s) (s2 : s ≤ 100) {w : sk_W} : sk_c d 137 [.int (sj i), .int (sj n), .int (sj s)] w = some (some (.int (sj (bi (rgR i n s)))), w) := by
  obtain ⟨d, rfl⟩ : ∃ e, d = e + 1 := ⟨d - 1, by omega⟩; rw [sk_e137]
  unfold rgR
  by_cases c1 : n < 0
  · rw [if_pos (ky_lt (by omega) (by omega) (by omega) (by omega) c1), decide_eq_false (by omega)]; rfl
  rw [if_neg (kn_lt (by omega) (by omega) (by omega) (by omega) (by omega))]
  by_cases c2 : i < 0
  · rw [if_pos (ky_lt (by omega) (by omega) (by omega) (by omega) c2), decide_eq_false (by omega)]; rfl
  rw [if_neg (kn_lt (by omega) (by omega) (by omega) (by omega) (by omega))]
  by_cases c3 : s < n
  · rw [if_pos (ky_gt (by omega) (by omega) (by omega) (by omega) c3), decide_eq_false (by omega)]; rfl
  rw [if_neg (kn_gt (by omega) (by omega) (by omega) (by omega) (by omega)), sj_sub]
  by_cases c4 : s - n < i
  · rw [if_pos (ky_gt (by omega) (by omega) (by omega) (by omega) c4), decide_eq_false (by omega)]; rfl
  · rw [if_neg (kn_gt (by omega) (by omega) (by omega) (by omega) (by omega)), decide_eq_true (by omega)]; rfl
theorem m66 {d : Nat} (hd : 8 ≤ d) (hS : sk_G S) (ha : sk_isP a) (hv : vC I a = v) (hV : VO v) {r : Nat} (hr : r < 4) (k1 : 0 ≤ I (87 + 2 + 4 * r) 1) (k2 : I (87 + 2 + 4 * r) 1 ≤ 5) {p : Int} (p1 : -1 ≤ p) (p2 : p < v 0 1) : sk_c d 66 [.ref (87 + 2 + 4 * r), .ref a, .int (sj p)] (sk_mk S I) = some (some (.int (sj (bi (tkR v (I (87 + 2 + 4 * r) 1) p)))), sk_mk S I) := by
  obtain ⟨n1, n2, n3, n4, n5, n6, n7, n8, n9, n10, n11, n12⟩ := hV.1
  obtain ⟨d, rfl⟩ : ∃ e, d = e + 1 := ⟨d - 1, by omega⟩; rw [sk_e66]
  unfold tkR
  by_cases c : p = -1
  · rw [if_pos (ky_eq c), decide_eq_true c]; rfl
  · obtain ⟨n, rfl⟩ : ∃ n : Nat, p = n := ⟨p.toNat, by omega⟩
    have e39 := m39 (S := S) (I := I) (d := d) (by omega) hS ha hv hV (p := n) (by omega) (by omega)
    rw [decide_eq_true (show 0 ≤ (n : Int) ∧ (n : Int) < v 0 1 by omega)] at e39
    obtain ⟨q1, q2, -⟩ := vo_p hV (p := n) p2
    have p0 : I (a + 9 + n) 0 = v 1 n := vp0 hv (by omega)
    have e1 := m1 (d := d) (by omega) (k := v 1 n) (b := I (87 + 2 + 4 * r) 1) q1 q2 k1 k2 (w := sk_mk S I)
    rw [if_neg (kn_eq (by omega) (by omega) (by omega) (by omega) c), decide_eq_false c, Bool.false_or, pl_ob hS ha, e39, sk_ci_some, if_neg ct_beq, pl_r0b hS ha, pl_pb hS ha (by omega) (by omega), Int.toNat_natCast, pq_i0b hS ha (by omega), p0, rk_i1b hS hr, e1, sk_ci_some]
    cases und (v 1 n) (I (87 + 2 + 4 * r) 1)
    · rw [if_pos cf_beq]; rfl
    · rw [if_neg ct_beq]; rfl
theorem m223 {d : Nat} (hd : 2 ≤ d) (hS : sk_G S) (hR : RP I 107 v) (hV : VO v) {r : Nat} (hr : r < 4) (k1 : 0 ≤ I 118 r) (k2 : I 118 r ≤ 5) {p : Int} (p1 : -1 ≤ p) (p2 : p < v 0 1) : sk_c d 223 [.ref 105, .int (sj r), .int (sj p)] (sk_mk S I) = some (some (.int (sj (bi (tkR v (I 118 r) p)))), sk_mk S I) := by
  obtain ⟨n1, n2, n3, n4, n5, n6, n7, n8, n9, n10, n11, n12⟩ := hV.1
  obtain ⟨d, rfl⟩ : ∃ e, d = e + 1 := ⟨d - 1, by omega⟩; rw [sk_e223]
  unfold tkR
  by_cases c : p = -1
  · rw [if_pos (ky_eq c), decide_eq_true c]; rfl
  · obtain ⟨n, rfl⟩ : ∃ n : Nat, p = n := ⟨p.toNat, by omega⟩
    obtain ⟨q1, q2, -⟩ := vo_p hV (p := n) p2
    have t7 : (7 + (n : Int)).toNat = 7 + n := by omega
    have r1 : I 107 (7 + n) = v 1 n := (hR.2.1 n p2).1
    have e149 := m149 (d := d) (by omega) (k := v 1 n) (b := I 118 r) q1 q2 k1 k2 (w := sk_mk S I)
    rw [if_neg (kn_eq (by omega) (by omega) (by omega) (by omega) c), decide_eq_false c, Bool.false_or, g105_r1b hS, sj_add, g107_ab hS (by omega) (by omega), t7, r1, g105_r17b hS, g118_ab hS (by omega) (by omega), Int.toNat_natCast, e149, sk_ci_some, Int.toNat_natCast]
    cases und (v 1 n) (I 118 r)
    · rw [if_pos cf_beq]; rfl
    · rw [if_neg ct_beq]; rfl
theorem f_rack (hS : sk_G S) (hG : GI I v) {r k n : Int} (r1 : -2147483648 ≤ r) (r2 : r < 2147483648) (k1 : -2147483648 ≤ k) (k2 : k < 2147483648) (c1 : -2147483648 ≤ n) (c2 : n < 2147483648) : FC S I 124 222 [.int (sj r), .int (sj k), .int (sj n)] := by
  have hG0 := hG
  obtain ⟨hv, hT, hR, hTp, hM, hRk, hSh⟩ := hG; have hV := hT.1; have ha : sk_isP 15 := Or.inl rfl; obtain ⟨n1, n2, n3, n4, n5, n6, n7, n8, n9, n10, n11, n12⟩ := hV.1
  have cc := sk_e124 19 1 (sj r) (sj k) (sj n) (sk_mk S I)
  have rr := fun J : sk_H => sk_e222 19 105 (sj r) (sj k) (sj n) (sk_mk S J)
  have e220 := fun J : sk_H => m220 (d := 19) (by omega) r1 r2 (w := sk_mk S J)
  have e144 := fun J : sk_H => m144 (d := 19) (by omega) (x := k) (l := 0) (h := 5) k1 k2 (by omega) (by omega) (by omega) (by omega) (w := sk_mk S J)
  rw [m136 (by omega) r1 r2, sk_ci_some] at cc
  by_cases hr4 : 0 ≤ r ∧ r < 4
  rotate_left
  · rw [decide_eq_false hr4, if_pos cf_beq] at cc
    refine FC_same hG0 (-2) cc ?_
    rw [rr, e220, sk_ci_some, decide_eq_false hr4, if_pos cf_beq]
  rw [decide_eq_true hr4, if_neg ct_beq, m135 (by omega) k1 k2, sk_ci_some] at cc
  by_cases hk : 0 ≤ k ∧ k ≤ 5
  rotate_left
  · rw [decide_eq_false hk, if_pos cf_beq] at cc
    refine FC_same hG0 (-2) cc ?_
    rw [rr, e220, sk_ci_some, decide_eq_true hr4, if_neg ct_beq, e144, sk_ci_some, decide_eq_false hk, if_pos cf_beq]
  rw [decide_eq_true hk, if_neg ct_beq] at cc
  by_cases hn : n ≤ 10
  rotate_left
  · rw [if_neg (kn_le (by omega) (by omega) (by omega) (by omega) (by omega))] at cc
    refine FC_same hG0 (-2) cc ?_
    rw [rr, e220, sk_ci_some, decide_eq_true hr4, if_neg ct_beq, e144, sk_ci_some, decide_eq_true hk, if_neg ct_beq, if_neg (kn_le (by omega) (by omega) (by omega) (by omega) (by omega))]
  rw [if_pos (ky_le (by omega) (by omega) (by omega) (by omega) hn)] at cc
  by_cases hn0 : 0 ≤ n
  rotate_left
  · rw [if_neg (kn_ge (by omega) (by omega) (by omega) (by omega) (by omega))] at cc
    refine FC_same hG0 (-14) cc ?_
    rw [rr, e220, sk_ci_some, decide_eq_true hr4, if_neg ct_beq, e144, sk_ci_some, decide_eq_true hk, if_neg ct_beq, if_pos (ky_le (by omega) (by omega) (by omega) (by omega) hn), if_neg (kn_ge (by omega) (by omega) (by omega) (by omega) (by omega))]
  obtain ⟨q, rfl⟩ : ∃ q : Nat, r = q := ⟨r.toNat, by omega⟩
  have hq : q < 4 := by omega
  have q87 : sk_aldr (sk_mk S I) 87 (sj (q : Int)) = some (87 + 2 + 4 * q) := g87_q hS (by omega) (by omega)
  obtain ⟨I1, e1, h1, f1⟩ := m65 (S := S) (I := u2 (u2 I (87 + 2 + 4 * q) 1 k) (87 + 2 + 4 * q) 2 n) (d := 18) (by omega) hS hq
  have e64 : sk_c 19 64 [.ref (87 + 2 + 4 * q), .int (sj k), .int (sj n)] (sk_mk S I) = some (none, sk_mk S I1) := by
    rw [sk_e64, rk_u1b hS hq, rk_u2b hS hq, rk_ob hS hq, e1, sk_cv_some]
  rw [if_pos (ky_ge (by omega) (by omega) (by omega) (by omega) hn0), g1_r7b hS, q87, Option.bind_some, rk_ob hS hq, e64, sk_cv_some] at cc
  have g1 : I1 (87 + 2 + 4 * q) 1 = k ∧ I1 (87 + 2 + 4 * q) 2 = n := by
    rw [f1 _ (by omega)]
    exact ⟨by rw [u2_ne _ _ (by omega), u2_eq], u2_eq _ _ _ _⟩
  have f1' : ∀ b, b ≠ 87 + 2 + 4 * q → b ≠ 87 + 3 + 4 * q → I1 b = I b := fun b a1 a2 => by
    rw [f1 b a2]
    funext j
    simp (disch := omega) only [u2_ne]
  have key := lp_run (fun j (X : Option sk_R) => ∃ I', X = sk_D222 19 49 [some (.ref 105), some (.int (sj q)), some (.int (sj k)), some (.int (sj n)), some (.int (sj (j : Int)))] [] (sk_mk S I') ∧ (∀ i, i < j → I' (120 + q) i = -1) ∧ (I' 117 q = n ∧ I' 118 q = k) ∧ (∀ t, t ≠ q → I' 117 t = I 117 t ∧ I' 118 t = I 118 t) ∧ ∀ b, b ≠ 120 + q → b ≠ 117 → b ≠ 118 → I' b = I1 b) 10 (fun j X hj hX => by
    obtain ⟨I2, rfl, a1, a2, a3, a4⟩ := hX
    have t1 : (j : Int) + 1 = ((j + 1 : Nat) : Int) := rfl
    have q119 : sk_aldr (sk_mk S I2) 119 (sj (q : Int)) = some (120 + q) := g119_q hS (by omega) (by omega)
    refine ⟨u2 I2 (120 + q) j (-1), ?_, fun i hi => ?_, ?_, fun t ht => ?_, fun b b1 b2 b3 => ?_⟩
    · rw [sk_e222_49, if_neg (kn_ge (by omega) (by omega) (by omega) (by omega) (by omega)), g105_r18b hS, q119, Option.bind_some, mr_sb hS hq (by omega) (by omega), sj_add, t1, Int.toNat_natCast]
    · by_cases c : i = j
      · subst c; exact u2_eq _ _ _ _
      · rw [u2_ne _ _ (by omega)]; exact a1 i (by omega)
    · rw [u2_ne _ _ (by omega), u2_ne _ _ (by omega)]; exact a2
    · rw [u2_ne _ _ (by omega), u2_ne _ _ (by omega)]; exact a3 t ht
    · rw [← a4 b b1 b2 b3]
      funext t
      exact u2_ne _ _ (by omega)) ⟨u2 (u2 I1 117 q n) 118 q k, rfl, fun i hi => by omega, ⟨by rw [u2_ne _ _ (by omega), u2_eq], u2_eq _ _ _ _⟩, fun t ht => by
      rw [u2_ne (a := 118) _ _ (by omega), u2_ne _ _ (by omega), u2_ne _ _ (by omega), u2_ne _ _ (by omega), f1' 117 (by omega) (by omega), f1' 118 (by omega) (by omega)]
      exact ⟨rfl, rfl⟩, fun b b1 b2 b3 => funext fun t => by simp (disch := omega) only [u2_ne]⟩
  obtain ⟨I2, e2, a1, a2, a3, a4⟩ := key
  refine ⟨sj 1, I1, I2, v, cc, ?_, ?_⟩
  · rw [rr, e220, sk_ci_some, decide_eq_true hr4, if_neg ct_beq, e144, sk_ci_some, decide_eq_true hk, if_neg ct_beq, if_pos (ky_le (by omega) (by omega) (by omega) (by omega) hn), if_pos (ky_ge (by omega) (by omega) (by omega) (by omega) hn0), g105_r16b hS, g117_sb hS (by omega) (by omega), g105_r17b hS, g118_sb hS (by omega) (by omega), Int.toNat_natCast]
    refine e2.trans ?_
    rw [sk_e222_49, if_pos (ky_ge (by omega) (by omega) (by omega) (by omega) (by omega))]
  · refine GI_R hG0 (fun b b1 b2 b3 b4 => (a4 b (by omega) b2 b3).trans (f1' b (by omega) (by omega))) (fun s hs => ⟨(a4 _ (by omega) (by omega) (by omega)).trans (f1' _ (by omega) (by omega)), (a4 _ (by omega) (by omega) (by omega)).trans (f1' _ (by omega) (by omega))⟩) (fun t ht => ?_)
    by_cases c : t = q
    · subst c
      refine ⟨fun i hi => by rw [a4 _ (by omega) (by omega) (by omega), h1 i hi, a1 i hi], Or.inr ?_⟩
      rw [a4 _ (by omega) (by omega) (by omega), g1.1, g1.2, a2.1, a2.2]
      exact ⟨hk.1, hk.2, rfl, hn0, hn, rfl, fun i hi => by rw [a1 i hi]; omega⟩
    · exact GR1_pt (hRk t ht) ((a4 _ (by omega) (by omega) (by omega)).trans (f1' _ (by omega) (by omega))) ((a4 _ (by omega) (by omega) (by omega)).trans (f1' _ (by omega) (by omega))) ((a4 _ (by omega) (by omega) (by omega)).trans (f1' _ (by omega) (by omega))) (a3 t c).1 (a3 t c).2
theorem f_puts (hS : sk_G S) (hG : GI I v) {r i p : Int} (r1 : -2147483648 ≤ r) (r2 : r < 2147483648) (k1 : -2147483648 ≤ i) (k2 : i < 2147483648) (c1 : -2147483648 ≤ p) (c2 : p < 2147483648) : FC S I 125 224 [.int (sj r), .int (sj i), .int (sj p)] := by
  have hG0 := hG
  obtain ⟨hv, hT, hR, hTp, hM, hRk, hSh⟩ := hG; have hV := hT.1; have ha : sk_isP 15 := Or.inl rfl; obtain ⟨n1, n2, n3, n4, n5, n6, n7, n8, n9, n10, n11, n12⟩ := hV.1
  have cc := sk_e125 19 1 (sj r) (sj i) (sj p) (sk_mk S I)
  have rr := fun J : sk_H => sk_e224 19 105 (sj r) (sj i) (sj p) (sk_mk S J)
  have e220 := fun J : sk_H => m220 (d := 19) (by omega) r1 r2 (w := sk_mk S J)
  rw [m136 (by omega) r1 r2, sk_ci_some] at cc
  by_cases hr4 : 0 ≤ r ∧ r < 4
  rotate_left
  · rw [decide_eq_false hr4, if_pos cf_beq] at cc
    refine FC_same hG0 (-2) cc ?_
    rw [rr, e220, sk_ci_some, decide_eq_false hr4, if_pos cf_beq]
  rw [decide_eq_true hr4, if_neg ct_beq] at cc
  have e39 := m39 (S := S) (I := I) (d := 19) (by omega) hS ha hv hV c1 c2
  by_cases hp : -1 ≤ p ∧ p < v 0 1
  rotate_left
  · have hp1 : ¬ p = -1 := by omega
    have e148 := m148 (S := S) (I := I) (d := 19) (by omega) hS hR hV c1 c2
    rw [decide_eq_false (show ¬ (0 ≤ p ∧ p < v 0 1) by omega)] at e39 e148
    rw [if_neg (kn_eq (by omega) (by omega) (by omega) (by omega) hp1), g1_r1b hS, pl_ob hS ha, e39, sk_ci_some, if_neg cf_bne] at cc
    refine FC_same hG0 (-2) cc ?_
    rw [rr, e220, sk_ci_some, decide_eq_true hr4, if_neg ct_beq, if_neg (kn_eq (by omega) (by omega) (by omega) (by omega) hp1), g105_ob hS, e148, sk_ci_some, if_neg cf_bne]
  obtain ⟨q, rfl⟩ : ∃ q : Nat, r = q := ⟨r.toNat, by omega⟩
  have hq : q < 4 := by omega
  have q87 : sk_aldr (sk_mk S I) 87 (sj (q : Int)) = some (87 + 2 + 4 * q) := g87_q hS (by omega) (by omega)
  have cD : sk_c 20 125 [.ref 1, .int (sj q), .int (sj i), .int (sj p)] (sk_mk S I) = sk_D125 19 26 [some (.ref 1), some (.int (sj q)), some (.int (sj i)), some (.int (sj p)), none] [] (sk_mk S I) := by
    rw [cc]
    by_cases c : p = -1
    · rw [if_pos (ky_eq c)]
    · rw [decide_eq_true (show 0 ≤ p ∧ p < v 0 1 by omega)] at e39
      rw [if_neg (kn_eq (by omega) (by omega) (by omega) (by omega) c), g1_r1b hS, pl_ob hS ha, e39, sk_ci_some, if_pos ct_bne]
  have rD : ∀ J : sk_H, RP J 107 v → sk_c 20 224 [.ref 105, .int (sj q), .int (sj i), .int (sj p)] (sk_mk S J) = sk_D224 19 23 [some (.ref 105), some (.int (sj q)), some (.int (sj i)), some (.int (sj p))] [] (sk_mk S J) := by
    intro J hJ
    rw [rr, e220, sk_ci_some, decide_eq_true hr4, if_neg ct_beq]
    by_cases c : p = -1
    · rw [if_pos (ky_eq c)]
    · have e148 := m148 (S := S) (I := J) (d := 19) (by omega) hS hJ hV c1 c2
      rw [decide_eq_true (show 0 ≤ p ∧ p < v 0 1 by omega)] at e148
      rw [if_neg (kn_eq (by omega) (by omega) (by omega) (by omega) c), g105_ob hS, e148, sk_ci_some, if_pos ct_bne]
  clear cc
  have cc := sk_e125_26 19 1 (sj q) (sj i) (sj p) (sk_mk S I)
  obtain ⟨gp, gq⟩ := hRk q hq
  rcases gq with ⟨j1, j2⟩ | ⟨j1, j2, j3, j4, j5, j6, j7⟩
  · have e63 := m63 (S := S) (I := I) (d := 19) (by omega) hS hq (by omega) (by omega)
    rw [decide_eq_true j1] at e63
    rw [g1_r7b hS, q87, Option.bind_some, rk_ob hS hq, e63, sk_ci_some, if_neg ct_beq] at cc
    refine FC_same hG0 (-11) (cD.trans cc) ((rD I hR).trans ?_)
    rw [sk_e224_23, g105_r16b hS, g117_ab hS (by omega) (by omega), Int.toNat_natCast, j2, if_neg (kn_ge (by omega) (by omega) (by omega) (by omega) (by omega))]
  have e63 := m63 (S := S) (I := I) (d := 19) (by omega) hS hq (by omega) (by omega)
  rw [decide_eq_false (show ¬ I (87 + 2 + 4 * q) 1 = -1 by omega)] at e63
  rw [g1_r7b hS, q87, Option.bind_some, rk_ob hS hq, e63, sk_ci_some, if_pos cf_beq] at cc
  have r117 : ∀ J : sk_H, J 117 q = I 117 q → sk_D224 19 23 [some (.ref 105), some (.int (sj q)), some (.int (sj i)), some (.int (sj p))] [] (sk_mk S J) = if sk_cond .ne (sj (bi (decide (0 ≤ i ∧ i ≤ I 117 q - 1)))) (sj 0) = true then
      if sk_isO (sk_mk S J) 105 11 = true then
      sk_ci (sk_c 19 223 [.ref 105, .int (sj q), .int (sj p)] (sk_mk S J)) fun v8 w7 =>
      if sk_cond .ne v8 (sj 0) = true then
        (sk_getr w7 105 11 18).bind fun v9 =>
        (sk_aldr w7 v9 (sj q)).bind fun v10 =>
        (sk_ast w7 v10 (sj i) (sj p)).bind fun w11 =>
        some (some (.int (sj 1)), w11)
      else
        some (some (.int (sj (-16))), w7) else none
    else
      some (some (.int (sj (-12))), sk_mk S J) := by
    intro J hJ
    rw [sk_e224_23, g105_r16b hS, g117_ab hS (by omega) (by omega), Int.toNat_natCast, hJ, if_pos (ky_ge (by omega) (by omega) (by omega) (by omega) (by omega)), g105_r16b hS, g117_ab hS (by omega) (by omega), Int.toNat_natCast, hJ, sj_sub, m144 (by omega) k1 k2 (by omega) (by omega) (by omega) (by omega), sk_ci_some]
  by_cases hi : 0 ≤ i ∧ i < I 117 q
  rotate_left
  · refine FC_same hG0 (-12) (cD.trans ?_) ((rD I hR).trans ?_)
    · rw [cc]
      by_cases c : i < 0
      · rw [if_pos (ky_lt (by omega) (by omega) (by omega) (by omega) c)]
      · rw [if_neg (kn_lt (by omega) (by omega) (by omega) (by omega) (by omega)), rk_i2b hS hq, if_neg (kn_lt (by omega) (by omega) (by omega) (by omega) (by omega))]
    · rw [r117 I rfl, decide_eq_false (by omega), if_neg cf_bne]
  have e66 := m66 (S := S) (I := I) (d := 19) (by omega) hS ha hv hV hq j1 j2 hp.1 hp.2
  rw [if_neg (kn_lt (by omega) (by omega) (by omega) (by omega) (by omega)), rk_i2b hS hq, if_pos (ky_lt (by omega) (by omega) (by omega) (by omega) (by omega)), g1_r1b hS, rk_ob hS hq, e66, sk_ci_some] at cc
  have e223 : ∀ J : sk_H, RP J 107 v → J 118 q = I 118 q → sk_c 19 223 [.ref 105, .int (sj q), .int (sj p)] (sk_mk S J) = some (some (.int (sj (bi (tkR v (I (87 + 2 + 4 * q) 1) p)))), sk_mk S J) := by
    intro J hJ h118
    have := m223 (S := S) (I := J) (d := 19) (by omega) hS hJ hV hq (by rw [h118]; omega) (by rw [h118]; omega) hp.1 hp.2
    rwa [h118, j3] at this
  cases htk : tkR v (I (87 + 2 + 4 * q) 1) p with
  | false =>
    rw [htk, if_neg cf_bne] at cc
    refine FC_same hG0 (-16) (cD.trans cc) ((rD I hR).trans ?_)
    rw [r117 I rfl, decide_eq_true (by omega), if_pos ct_bne, g105_ob hS, e223 I hR rfl, sk_ci_some, htk, if_neg cf_bne]
  | true =>
    obtain ⟨z, rfl⟩ : ∃ z : Nat, i = z := ⟨i.toNat, by omega⟩
    rw [htk, if_pos ct_bne, rk_r0b hS hq, rk_sb hS hq (by omega) (by omega), Int.toNat_natCast] at cc
    have hR1 : RP (u2 I (87 + 3 + 4 * q) z p) 107 v := hR.fr (funext fun t => u2_ne _ _ (by omega))
    have q119 : sk_aldr (sk_mk S (u2 I (87 + 3 + 4 * q) z p)) 119 (sj (q : Int)) = some (120 + q) := g119_q hS (by omega) (by omega)
    refine ⟨sj 1, u2 I (87 + 3 + 4 * q) z p, u2 (u2 I (87 + 3 + 4 * q) z p) (120 + q) z p, v, cD.trans cc, (rD _ hR1).trans ?_, ?_⟩
    · rw [r117 _ (u2_ne _ _ (by omega)), decide_eq_true (by omega), if_pos ct_bne, g105_ob hS, e223 _ hR1 (u2_ne _ _ (by omega)), sk_ci_some, htk, if_pos ct_bne, g105_r18b hS, q119, Option.bind_some, mr_sb hS hq (by omega) (by omega), Int.toNat_natCast]
    · refine GI_R hG0 (fun b b1 b2 b3 b4 => funext fun t => by simp (disch := omega) only [u2_ne]) (fun s hs => ⟨funext fun t => by simp (disch := omega) only [u2_ne], funext fun t => by simp (disch := omega) only [u2_ne]⟩) (fun t ht => ?_)
      by_cases c : t = q
      · subst c
        have e1 : ∀ j, u2 (u2 I (87 + 3 + 4 * t) z p) (120 + t) z p (120 + t) j = if j = z then p else I (120 + t) j := fun j => by
          by_cases e : j = z
          · subst e; rw [u2_eq, if_pos rfl]
          · rw [u2_ne _ _ (by omega), u2_ne _ _ (by omega), if_neg e]
        refine ⟨fun j hj => ?_, Or.inr ?_⟩
        · rw [e1, u2_ne (a := 120 + t) _ _ (by omega)]
          by_cases e : j = z
          · subst e; rw [u2_eq, if_pos rfl]
          · rw [u2_ne _ _ (by omega), if_neg e]; exact gp j hj
        · simp (disch := omega) only [u2_ne, e1]
          refine ⟨j1, j2, j3, j4, j5, j6, fun j hj => ?_⟩
          split
          · exact ⟨hp.1, hp.2⟩
          · exact j7 j hj
      · exact GR1_pt (hRk t ht) (funext fun j => by simp (disch := omega) only [u2_ne]) (funext fun j => by simp (disch := omega) only [u2_ne]) (funext fun j => by simp (disch := omega) only [u2_ne]) (by simp (disch := omega) only [u2_ne]) (by simp (disch := omega) only [u2_ne])
theorem f_laid (hS : sk_G S) (hG : GI I v) {r i : Int} (r1 : -2147483648 ≤ r) (r2 : r < 2147483648) (k1 : -2147483648 ≤ i) (k2 : i < 2147483648) : FC S I 127 226 [.int (sj r), .int (sj i)] := by
  have hG0 := hG
  obtain ⟨hv, hT, hR, hTp, hM, hRk, hSh⟩ := hG; have hV := hT.1; have ha : sk_isP 15 := Or.inl rfl; obtain ⟨n1, n2, n3, n4, n5, n6, n7, n8, n9, n10, n11, n12⟩ := hV.1
  have cc := sk_e127 19 1 (sj r) (sj i) (sk_mk S I)
  have rr := sk_e226 19 105 (sj r) (sj i) (sk_mk S I)
  rw [m136 (by omega) r1 r2, sk_ci_some] at cc
  rw [m220 (by omega) r1 r2, sk_ci_some] at rr
  by_cases hr4 : 0 ≤ r ∧ r < 4
  rotate_left
  · rw [decide_eq_false hr4, if_neg cf_bne] at cc rr
    exact FC_same hG0 (-2) cc rr
  obtain ⟨q, rfl⟩ : ∃ q : Nat, r = q := ⟨r.toNat, by omega⟩
  have hq : q < 4 := by omega
  have q87 : sk_aldr (sk_mk S I) 87 (sj (q : Int)) = some (87 + 2 + 4 * q) := g87_q hS (by omega) (by omega)
  have q119 : sk_aldr (sk_mk S I) 119 (sj (q : Int)) = some (120 + q) := g119_q hS (by omega) (by omega)
  rw [decide_eq_true hr4, if_pos ct_bne] at cc rr
  rw [g1_r7b hS, q87, Option.bind_some, rk_ob hS hq] at cc
  rw [g105_r16b hS, g117_ab hS (by omega) (by omega), Int.toNat_natCast] at rr
  obtain ⟨gp, gq⟩ := hRk q hq
  rcases gq with ⟨j1, j2⟩ | ⟨j1, j2, j3, j4, j5, j6, j7⟩
  · rw [m63 (by omega) hS hq (by omega) (by omega), sk_ci_some, decide_eq_true j1, if_neg ct_beq] at cc
    rw [j2, if_neg (kn_ge (by omega) (by omega) (by omega) (by omega) (by omega))] at rr
    exact FC_same hG0 (-11) cc rr
  rw [m63 (by omega) hS hq (by omega) (by omega), sk_ci_some, decide_eq_false (show ¬ I (87 + 2 + 4 * q) 1 = -1 by omega), if_pos cf_beq] at cc
  rw [if_pos (ky_ge (by omega) (by omega) (by omega) (by omega) (by omega)), g105_r16b hS, g117_ab hS (by omega) (by omega), Int.toNat_natCast, sj_sub, m144 (by omega) k1 k2 (by omega) (by omega) (by omega) (by omega), sk_ci_some] at rr
  by_cases hi : 0 ≤ i ∧ i < I 117 q
  · obtain ⟨z, rfl⟩ : ∃ z : Nat, i = z := ⟨i.toNat, by omega⟩
    rw [if_neg (kn_lt (by omega) (by omega) (by omega) (by omega) (by omega)), rk_i2b hS hq, if_pos (ky_lt (by omega) (by omega) (by omega) (by omega) (by omega)), rk_r0b hS hq, rk_ab hS hq (by omega) (by omega), Int.toNat_natCast, gp z (by omega)] at cc
    rw [decide_eq_true (by omega), if_neg ct_beq, g105_r18b hS, q119, Option.bind_some, mr_ab hS hq (by omega) (by omega), Int.toNat_natCast] at rr
    exact FC_same hG0 _ cc rr
  · rw [decide_eq_false (by omega), if_pos cf_beq] at rr
    refine FC_same hG0 (-12) ?_ rr
    rw [cc]
    by_cases c : i < 0
    · rw [if_pos (ky_lt (by omega) (by omega) (by omega) (by omega) c)]
    · rw [if_neg (kn_lt (by omega) (by omega) (by omega) (by omega) (by omega)), rk_i2b hS hq, if_neg (kn_lt (by omega) (by omega) (by omega) (by omega) (by omega))]
end RCK
