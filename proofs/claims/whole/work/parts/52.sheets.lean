/-! ===== sheets ===== -/
theorem GH1_pt {I J : sk_H} {s : Nat} (h : GH1 I s) (h1 : J (87 + 4 + 4 * s) = I (87 + 4 + 4 * s)) (h2 : J (87 + 5 + 4 * s) = I (87 + 5 + 4 * s)) (h3 : J (128 + s) = I (128 + s)) (h4 : J 125 s = I 125 s) (h5 : J 126 s = I 126 s) : GH1 J s := by
  unfold GH1 at h ⊢
  rw [h1, h2, h3, h4, h5]
  exact h
theorem GI_H {I J v : sk_H} (hG : GI I v) (h : ∀ b, ¬ (89 ≤ b ∧ b < 105) → b ≠ 125 → b ≠ 126 → ¬ (128 ≤ b ∧ b < 133) → J b = I b) (hs : ∀ s, s < 4 → J (87 + 2 + 4 * s) = I (87 + 2 + 4 * s) ∧ J (87 + 3 + 4 * s) = I (87 + 3 + 4 * s)) (hr : ∀ s, s < 4 → GH1 J s) : GI J v := by
  obtain ⟨g1, g2, g3, g4, g5, g6, g7⟩ := hG
  have f := fun b (hb : ¬ (89 ≤ b ∧ b < 105) ∧ b ≠ 125 ∧ b ≠ 126 ∧ ¬ (128 ≤ b ∧ b < 133)) => h b hb.1 hb.2.1 hb.2.2.1 hb.2.2.2
  refine ⟨(vC_fr (fun b b1 b2 => f b (by omega))).trans g1, g2, g3.fr (f 107 (by omega)), ?_, ?_, fun r hr4 => ?_, hr⟩
  · exact GT_fr g4 (by rw [f 2 (by omega)]) (by rw [f 105 (by omega)]) (f 3 (by omega)) (f 110 (by omega)) (fun k hk => f _ (by omega))
  · exact GM_fr g5 (f 1 (by omega)) (by rw [f 105 (by omega)]) (fun b b1 b2 => f b (by omega)) (f 108 (by omega))
  · exact GR1_fr (g6 r hr4) (Int.le_refl _) (hs r hr4).2 (f _ (by omega)) (hs r hr4).1 (f 117 (by omega)) (f 118 (by omega))
section SHE
variable {S : List sk_Sh} {I v : sk_H}
theorem m79 {d : Nat} (hd : 1 ≤ d) (hS : sk_G S) {r : Nat} (hr : r < 4) (h1 : -1 ≤ I (87 + 4 + 4 * r) 1) (h2 : I (87 + 4 + 4 * r) 1 ≤ 1) : sk_c d 79 [.ref (87 + 4 + 4 * r)] (sk_mk S I) = some (some (.int (sj (bi (decide (I (87 + 4 + 4 * r) 1 = -1))))), sk_mk S I) := by
  obtain ⟨d, rfl⟩ : ∃ e, d = e + 1 := ⟨d - 1, by omega⟩; rw [sk_e79]
  rw [sh_i1b hS hr]
  by_cases c : I (87 + 4 + 4 * r) 1 = -1
  · rw [if_neg (kn_ne c), decide_eq_true c]; rfl
  · rw [if_pos (ky_ne (by omega) (by omega) (by omega) (by omega) c), decide_eq_false c]; rfl
theorem r234 {d : Nat} (hd : 3 ≤ d + 1) (hS : sk_G S) {q : Nat} (hq : q < 4) (o2 o3 : Option Value) : ∃ I', sk_D234 d 68 [some (.ref 105), some (.int (sj q)), o2, o3, some (.int (sj 0))] [] (sk_mk S I) = some (some (.int (sj 1)), sk_mk S I') ∧ (∀ i, i < 40 → I' (128 + q) i = 0) ∧ ∀ b, b ≠ 128 + q → I' b = I b := by
  have key := lp_run (fun j (X : Option sk_R) => ∃ I', X = sk_D234 d 68 [some (.ref 105), some (.int (sj q)), o2, o3, some (.int (sj (j : Int)))] [] (sk_mk S I') ∧ (∀ i, i < j → I' (128 + q) i = 0) ∧ ∀ b, b ≠ 128 + q → I' b = I b) 40 (fun j X hj hX => by
    obtain ⟨I2, rfl, a1, a2⟩ := hX
    have t1 : (j : Int) + 1 = ((j + 1 : Nat) : Int) := rfl
    have q127 : sk_aldr (sk_mk S I2) 127 (sj (q : Int)) = some (128 + q) := g127_q hS (by omega) (by omega)
    refine ⟨u2 I2 (128 + q) j 0, ?_, fun i hi => ?_, fun b b1 => ?_⟩
    · rw [sk_e234_68, if_neg (kn_ge (by omega) (by omega) (by omega) (by omega) (by omega)), g105_r22b hS, q127, Option.bind_some, ms_sb hS hq (by omega) (by omega), sj_add, t1, Int.toNat_natCast]
    · by_cases c : i = j
      · subst c; exact u2_eq _ _ _ _
      · rw [u2_ne _ _ (by omega)]; exact a1 i (by omega)
    · rw [← a2 b b1]
      funext t
      exact u2_ne _ _ (by omega)) ⟨I, rfl, fun i hi => by omega, fun _ _ => rfl⟩
  obtain ⟨I2, e2, a1, a2⟩ := key
  refine ⟨I2, ?_, a1, a2⟩
  refine e2.trans ?_
  rw [sk_e234_68, if_pos (ky_ge (by omega) (by omega) (by omega) (by omega) (by omega))]
theorem f_sheet (hS : sk_G S) (hG : GI I v) {r k n : Int} (r1 : -2147483648 ≤ r) (r2 : r < 2147483648) (k1 : -2147483648 ≤ k) (k2 : k < 2147483648) (c1 : -2147483648 ≤ n) (c2 : n < 2147483648) : FC S I 131 234 [.int (sj r), .int (sj k), .int (sj n)] := by
  have hG0 := hG
  obtain ⟨hv, hT, hR, hTp, hM, hRk, hSh⟩ := hG; have hV := hT.1; have ha : sk_isP 15 := Or.inl rfl; obtain ⟨n1, n2, n3, n4, n5, n6, n7, n8, n9, n10, n11, n12⟩ := hV.1
  have cc := sk_e131 19 1 (sj r) (sj k) (sj n) (sk_mk S I)
  have rr := fun J : sk_H => sk_e234 19 105 (sj r) (sj k) (sj n) (sk_mk S J)
  have e233 := fun J : sk_H => m233 (d := 19) (by omega) r1 r2 (w := sk_mk S J)
  have e144 := fun J : sk_H => m144 (d := 19) (by omega) (x := k) (l := -1) (h := 1) k1 k2 (by omega) (by omega) (by omega) (by omega) (w := sk_mk S J)
  rw [m136 (by omega) r1 r2, sk_ci_some] at cc
  by_cases hr4 : 0 ≤ r ∧ r < 4
  rotate_left
  · rw [decide_eq_false hr4, if_pos cf_beq] at cc
    refine FC_same hG0 (-2) cc ?_
    rw [rr, e233, sk_ci_some, decide_eq_false hr4, if_pos cf_beq]
  rw [decide_eq_true hr4, if_neg ct_beq] at cc
  by_cases hk : -1 ≤ k ∧ k ≤ 1
  rotate_left
  · refine FC_same hG0 (-2) ?_ ?_
    · rw [cc]
      by_cases c : k < -1
      · rw [if_pos (ky_lt (by omega) (by omega) (by omega) (by omega) c)]
      · rw [if_neg (kn_lt (by omega) (by omega) (by omega) (by omega) (by omega)), if_neg (kn_le (by omega) (by omega) (by omega) (by omega) (by omega))]
    · rw [rr, e233, sk_ci_some, decide_eq_true hr4, if_neg ct_beq, e144, sk_ci_some, decide_eq_false hk, if_pos cf_beq]
  rw [if_neg (kn_lt (by omega) (by omega) (by omega) (by omega) (by omega)), if_pos (ky_le (by omega) (by omega) (by omega) (by omega) (by omega))] at cc
  obtain ⟨q, rfl⟩ : ∃ q : Nat, r = q := ⟨r.toNat, by omega⟩
  have hq : q < 4 := by omega
  have q88 : sk_aldr (sk_mk S I) 88 (sj (q : Int)) = some (87 + 4 + 4 * q) := g88_q hS (by omega) (by omega)
  have rr := fun J : sk_H => (rr J).trans (by rw [e233, sk_ci_some, decide_eq_true hr4, if_neg ct_beq, e144, sk_ci_some, decide_eq_true hk, if_neg ct_beq])
  by_cases hm : k = -1
  · subst hm
    rw [if_neg (kn_ne rfl), g1_r8b hS, q88, Option.bind_some, sh_u1b hS hq] at cc
    obtain ⟨I2, e2, a1, a2⟩ := r234 (S := S) (I := u2 (u2 (u2 I (87 + 4 + 4 * q) 1 (-1)) 125 q (-1)) 126 q 0) (d := 19) (by omega) hS hq (some (.int (sj (-1)))) (some (.int (sj n)))
    refine ⟨sj 1, u2 I (87 + 4 + 4 * q) 1 (-1), I2, v, cc, ?_, ?_⟩
    · rw [rr, if_pos (ky_eq rfl), if_pos (ky_eq rfl), sk_e234_42, g105_r20b hS, g125_sb hS (by omega) (by omega), g105_r21b hS, if_neg (kn_ne rfl), g126_sb hS (by omega) (by omega), Int.toNat_natCast]
      exact e2
    · have fA : ∀ b, b ≠ 87 + 4 + 4 * q → b ≠ 125 → b ≠ 126 → b ≠ 128 + q → I2 b = I b := fun b x1 x2 x3 x4 => by
        rw [a2 b x4]
        funext t
        simp (disch := omega) only [u2_ne]
      refine GI_H hG0 (fun b x1 x2 x3 x4 => fA b (by omega) x2 x3 (by omega)) (fun s hs => ⟨fA _ (by omega) (by omega) (by omega) (by omega), fA _ (by omega) (by omega) (by omega) (by omega)⟩) (fun t ht => ?_)
      by_cases c : t = q
      · subst c
        refine Or.inl ⟨?_, ?_⟩
        · rw [a2 _ (by omega)]; simp (disch := omega) only [u2_ne, u2_eq]
        · rw [a2 _ (by omega)]; simp (disch := omega) only [u2_ne, u2_eq]
      · refine GH1_pt (hSh t ht) (fA _ (by omega) (by omega) (by omega) (by omega)) (fA _ (by omega) (by omega) (by omega) (by omega)) (fA _ (by omega) (by omega) (by omega) (by omega)) ?_ ?_
        · rw [a2 _ (by omega)]; simp (disch := omega) only [u2_ne]
        · rw [a2 _ (by omega)]; simp (disch := omega) only [u2_ne]
  have cne := ky_ne (a := k) (b := -1) (by omega) (by omega) (by omega) (by omega) hm
  have ceq := kn_eq (a := k) (b := -1) (by omega) (by omega) (by omega) (by omega) hm
  rw [if_pos cne] at cc
  by_cases hn : n ≤ 40
  rotate_left
  · rw [if_neg (kn_le (by omega) (by omega) (by omega) (by omega) (by omega))] at cc
    refine FC_same hG0 (-2) cc ?_
    rw [rr, if_neg ceq, if_neg (kn_le (by omega) (by omega) (by omega) (by omega) (by omega))]
  rw [if_pos (ky_le (by omega) (by omega) (by omega) (by omega) hn)] at cc
  by_cases hn0 : 0 ≤ n
  rotate_left
  · rw [if_neg (kn_ge (by omega) (by omega) (by omega) (by omega) (by omega))] at cc
    refine FC_same hG0 (-14) cc ?_
    rw [rr, if_neg ceq, if_pos (ky_le (by omega) (by omega) (by omega) (by omega) hn), if_neg ceq, if_neg (kn_ge (by omega) (by omega) (by omega) (by omega) (by omega))]
  obtain ⟨I1, e1, h1, f1⟩ := m242 (S := S) (I := u2 (u2 I (87 + 4 + 4 * q) 1 k) (87 + 4 + 4 * q) 2 n) (d := 18) (by omega) (ssh hS hq).2 (by omega) (by omega) (h := 0)
  have e80 : sk_c 19 80 [.ref (87 + 4 + 4 * q), .int (sj k), .int (sj n)] (sk_mk S I) = some (none, sk_mk S I1) := by
    rw [sk_e80, sh_u1b hS hq, sh_u2b hS hq, sh_r0b hS hq, e1, sk_cv_some]
  rw [if_pos (ky_ge (by omega) (by omega) (by omega) (by omega) hn0), g1_r8b hS, q88, Option.bind_some, sh_ob hS hq, e80, sk_cv_some] at cc
  obtain ⟨I2, e2, a1, a2⟩ := r234 (S := S) (I := u2 (u2 I1 125 q k) 126 q n) (d := 19) (by omega) hS hq (some (.int (sj k))) (some (.int (sj n)))
  have f1' : ∀ b, b ≠ 87 + 4 + 4 * q → b ≠ 87 + 5 + 4 * q → I1 b = I b := fun b x1 x2 => by
    rw [f1 b x2]
    funext t
    simp (disch := omega) only [u2_ne]
  have fA : ∀ b, b ≠ 87 + 4 + 4 * q → b ≠ 87 + 5 + 4 * q → b ≠ 125 → b ≠ 126 → b ≠ 128 + q → I2 b = I b := fun b x1 x2 x3 x4 x5 => by
    rw [a2 b x5, ← f1' b x1 x2]
    funext t
    simp (disch := omega) only [u2_ne]
  refine ⟨sj 1, I1, I2, v, cc, ?_, ?_⟩
  · rw [rr, if_neg ceq, if_pos (ky_le (by omega) (by omega) (by omega) (by omega) hn), if_neg ceq, if_pos (ky_ge (by omega) (by omega) (by omega) (by omega) hn0), sk_e234_42, g105_r20b hS, g125_sb hS (by omega) (by omega), g105_r21b hS, if_pos cne, g126_sb hS (by omega) (by omega), Int.toNat_natCast]
    exact e2
  · refine GI_H hG0 (fun b x1 x2 x3 x4 => fA b (by omega) (by omega) x2 x3 (by omega)) (fun s hs => ⟨fA _ (by omega) (by omega) (by omega) (by omega) (by omega), fA _ (by omega) (by omega) (by omega) (by omega) (by omega)⟩) (fun t ht => ?_)
    by_cases c : t = q
    · subst c
      have b1 : I2 (87 + 4 + 4 * t) 1 = k := by rw [a2 _ (by omega)]; simp (disch := omega) only [u2_ne]; rw [f1 _ (by omega)]; simp (disch := omega) only [u2_ne, u2_eq]
      have b2 : I2 (87 + 4 + 4 * t) 2 = n := by rw [a2 _ (by omega)]; simp (disch := omega) only [u2_ne]; rw [f1 _ (by omega)]; simp (disch := omega) only [u2_ne, u2_eq]
      have b3 : I2 125 t = k := by rw [a2 _ (by omega)]; simp (disch := omega) only [u2_ne, u2_eq]
      have b4 : I2 126 t = n := by rw [a2 _ (by omega)]; simp (disch := omega) only [u2_ne, u2_eq]
      refine Or.inr ?_
      rw [b1, b2, b3, b4]
      refine ⟨by omega, rfl, hn0, hn, rfl, fun j hj => ?_⟩
      rw [a1 j hj, a2 _ (by omega)]
      simp (disch := omega) only [u2_ne]
      rw [h1, if_pos hj]
      omega
    · refine GH1_pt (hSh t ht) (fA _ (by omega) (by omega) (by omega) (by omega) (by omega)) (fA _ (by omega) (by omega) (by omega) (by omega) (by omega)) (fA _ (by omega) (by omega) (by omega) (by omega) (by omega)) ?_ ?_
      · rw [a2 _ (by omega)]; simp (disch := omega) only [u2_ne]; rw [f1' _ (by omega) (by omega)]
      · rw [a2 _ (by omega)]; simp (disch := omega) only [u2_ne]; rw [f1' _ (by omega) (by omega)]
theorem f_put (hS : sk_G S) (hG : GI I v) {r i x : Int} (r1 : -2147483648 ≤ r) (r2 : r < 2147483648) (k1 : -2147483648 ≤ i) (k2 : i < 2147483648) (c1 : -2147483648 ≤ x) (c2 : x < 2147483648) : FC S I 132 235 [.int (sj r), .int (sj i), .int (sj x)] := by
  have hG0 := hG
  obtain ⟨hv, hT, hR, hTp, hM, hRk, hSh⟩ := hG; have hV := hT.1; have ha : sk_isP 15 := Or.inl rfl; obtain ⟨n1, n2, n3, n4, n5, n6, n7, n8, n9, n10, n11, n12⟩ := hV.1
  have cc := sk_e132 19 1 (sj r) (sj i) (sj x) (sk_mk S I)
  have rr := fun J : sk_H => sk_e235 19 105 (sj r) (sj i) (sj x) (sk_mk S J)
  have e233 := fun J : sk_H => m233 (d := 19) (by omega) r1 r2 (w := sk_mk S J)
  rw [m136 (by omega) r1 r2, sk_ci_some] at cc
  by_cases hr4 : 0 ≤ r ∧ r < 4
  rotate_left
  · rw [decide_eq_false hr4, if_neg cf_bne] at cc
    refine FC_same hG0 (-2) cc ?_
    rw [rr, e233, sk_ci_some, decide_eq_false hr4, if_neg cf_bne]
  obtain ⟨q, rfl⟩ : ∃ q : Nat, r = q := ⟨r.toNat, by omega⟩
  have hq : q < 4 := by omega
  have q88 : sk_aldr (sk_mk S I) 88 (sj (q : Int)) = some (87 + 4 + 4 * q) := g88_q hS (by omega) (by omega)
  rw [decide_eq_true hr4, if_pos ct_bne, g1_r8b hS, q88, Option.bind_some, sh_ob hS hq] at cc
  have rr : ∀ J : sk_H, J 125 = I 125 → J 126 = I 126 → sk_c 20 235 [.ref 105, .int (sj q), .int (sj i), .int (sj x)] (sk_mk S J) = _ := fun J h125 h126 => by
    rw [rr, e233, sk_ci_some, decide_eq_true hr4, if_pos ct_bne, g105_r20b hS, g125_ab hS (by omega) (by omega), Int.toNat_natCast, h125]
  rcases hSh q hq with ⟨a1, a2⟩ | ⟨a1, a2, a3, a4, a5, a6⟩
  · rw [m79 (by omega) hS hq (by omega) (by omega), sk_ci_some, decide_eq_true a1, if_neg ct_beq] at cc
    refine FC_same hG0 (-11) cc ?_
    rw [rr I rfl rfl, a2, if_neg (kn_ge (by omega) (by omega) (by omega) (by omega) (by omega))]
  rw [m79 (by omega) hS hq (by omega) (by omega), sk_ci_some, decide_eq_false (show ¬ I (87 + 4 + 4 * q) 1 = -1 by omega), if_pos cf_beq] at cc
  have rr : ∀ J : sk_H, J 125 = I 125 → J 126 = I 126 → sk_c 20 235 [.ref 105, .int (sj q), .int (sj i), .int (sj x)] (sk_mk S J) = _ := fun J h125 h126 => by
    rw [rr J h125 h126, if_pos (ky_ge (by omega) (by omega) (by omega) (by omega) (by omega)), g105_r21b hS, g126_ab hS (by omega) (by omega), Int.toNat_natCast, h126, sj_sub, m144 (by omega) k1 k2 (by omega) (by omega) (by omega) (by omega), sk_ci_some]
  by_cases hi : 0 ≤ i ∧ i < I 126 q
  rotate_left
  · refine FC_same hG0 (-12) ?_ ?_
    · rw [cc]
      by_cases c : i < 0
      · rw [if_pos (ky_lt (by omega) (by omega) (by omega) (by omega) c)]
      · rw [if_neg (kn_lt (by omega) (by omega) (by omega) (by omega) (by omega)), sh_i2b hS hq, if_neg (kn_lt (by omega) (by omega) (by omega) (by omega) (by omega))]
    · rw [rr I rfl rfl, decide_eq_false (by omega), if_neg cf_bne]
  obtain ⟨z, rfl⟩ : ∃ z : Nat, i = z := ⟨i.toNat, by omega⟩
  rw [if_neg (kn_lt (by omega) (by omega) (by omega) (by omega) (by omega)), sh_i2b hS hq, if_pos (ky_lt (by omega) (by omega) (by omega) (by omega) (by omega)), sh_r0b hS hq, sh_i1b hS hq] at cc
  have rr : ∀ J : sk_H, J 125 = I 125 → J 126 = I 126 → sk_c 20 235 [.ref 105, .int (sj q), .int (sj z), .int (sj x)] (sk_mk S J) = _ := fun J h125 h126 => by
    have q127 : sk_aldr (sk_mk S J) 127 (sj (q : Int)) = some (128 + q) := g127_q hS (by omega) (by omega)
    rw [rr J h125 h126, decide_eq_true (by omega), if_pos ct_bne, g105_r22b hS, q127, Option.bind_some, g105_r20b hS, g125_ab hS (by omega) (by omega), Int.toNat_natCast, h125]
  -- what comes there
  have fin : ∀ y : Int, -2147483648 ≤ y → y < 2147483648 → sk_c 20 132 [.ref 1, .int (sj q), .int (sj z), .int (sj x)] (sk_mk S I) = some (some (.int (sj 1)), sk_mk S (u2 I (87 + 5 + 4 * q) z y)) → sk_c 20 235 [.ref 105, .int (sj q), .int (sj z), .int (sj x)] (sk_mk S (u2 I (87 + 5 + 4 * q) z y)) = some (some (.int (sj 1)), sk_mk S (u2 (u2 I (87 + 5 + 4 * q) z y) (128 + q) z y)) → FC S I 132 235 [.int (sj q), .int (sj z), .int (sj x)] := by
    intro y y1 y2 h1 h2
    refine ⟨sj 1, _, _, v, h1, h2, ?_⟩
    refine GI_H hG0 (fun b x1 x2 x3 x4 => funext fun t => by simp (disch := omega) only [u2_ne]) (fun s hs => ⟨funext fun t => by simp (disch := omega) only [u2_ne], funext fun t => by simp (disch := omega) only [u2_ne]⟩) (fun t ht => ?_)
    by_cases c : t = q
    · subst c
      refine Or.inr ?_
      simp (disch := omega) only [u2_ne]
      refine ⟨a1, a2, a3, a4, a5, fun j hj => ?_⟩
      by_cases e : j = z
      · subst e
        simp (disch := omega) only [u2_ne, u2_eq]
        exact ⟨trivial, y1, y2⟩
      · simp (disch := omega) only [u2_ne]
        exact a6 j hj
    · exact GH1_pt (hSh t ht) (funext fun j => by simp (disch := omega) only [u2_ne]) (funext fun j => by simp (disch := omega) only [u2_ne]) (funext fun j => by simp (disch := omega) only [u2_ne]) (by simp (disch := omega) only [u2_ne]) (by simp (disch := omega) only [u2_ne])
  have o125 : ∀ y, u2 I (87 + 5 + 4 * q) z y 125 = I 125 := fun y => funext fun t => u2_ne _ _ (by omega)
  have o126 : ∀ y, u2 I (87 + 5 + 4 * q) z y 126 = I 126 := fun y => funext fun t => u2_ne _ _ (by omega)
  by_cases hs : I (87 + 4 + 4 * q) 1 = 0
  · rw [if_neg (kn_ne hs), ← sj_of (sj x).toInt16.toInt32, sh_sb hS hq (by omega) (by omega), Int.toNat_natCast] at cc
    have hrg := sj_rng (sj x).toInt16.toInt32
    refine fin _ hrg.1 hrg.2 cc ?_
    rw [rr _ (o125 _) (o126 _), if_neg (kn_ne (a2.trans hs)), ← sj_of (sj x).toInt16.toInt32, ms_sb hS hq (by omega) (by omega), Int.toNat_natCast, sj_of]
  · rw [if_pos (ky_ne (by omega) (by omega) (by omega) (by omega) hs), sh_sb hS hq (by omega) (by omega), Int.toNat_natCast] at cc
    refine fin x c1 c2 cc ?_
    rw [rr _ (o125 _) (o126 _), if_pos (ky_ne (by omega) (by omega) (by omega) (by omega) (by omega)), ms_sb hS hq (by omega) (by omega), Int.toNat_natCast]
theorem f_copy (hS : sk_G S) (hG : GI I v) {r i p j n : Int} (r1 : -2147483648 ≤ r) (r2 : r < 2147483648) (i1 : -2147483648 ≤ i) (i2 : i < 2147483648) (p1 : -2147483648 ≤ p) (p2 : p < 2147483648) (j1 : -2147483648 ≤ j) (j2 : j < 2147483648) (c1 : -2147483648 ≤ n) (c2 : n < 2147483648) : FC S I 133 236 [.int (sj r), .int (sj i), .int (sj p), .int (sj j), .int (sj n)] := by
  have hG0 := hG
  obtain ⟨hv, hT, hR, hTp, hM, hRk, hSh⟩ := hG; have hV := hT.1; have ha : sk_isP 15 := Or.inl rfl; obtain ⟨n1, n2, n3, n4, n5, n6, n7, n8, n9, n10, n11, n12⟩ := hV.1
  have cc := sk_e133 19 1 (sj r) (sj i) (sj p) (sj j) (sj n) (sk_mk S I)
  have rr := fun J : sk_H => sk_e236 19 105 (sj r) (sj i) (sj p) (sj j) (sj n) (sk_mk S J)
  have e233 := fun J : sk_H => m233 (d := 19) (by omega) r1 r2 (w := sk_mk S J)
  have e233' := fun J : sk_H => m233 (d := 19) (by omega) p1 p2 (w := sk_mk S J)
  rw [m136 (by omega) r1 r2, sk_ci_some] at cc
  by_cases hr4 : 0 ≤ r ∧ r < 4
  rotate_left
  · rw [decide_eq_false hr4, if_pos cf_beq] at cc
    refine FC_same hG0 (-2) cc ?_
    rw [rr, e233, sk_ci_some, decide_eq_false hr4, if_pos cf_beq]
  rw [decide_eq_true hr4, if_neg ct_beq, m136 (by omega) p1 p2, sk_ci_some] at cc
  by_cases hp4 : 0 ≤ p ∧ p < 4
  rotate_left
  · rw [decide_eq_false hp4, if_neg cf_bne] at cc
    refine FC_same hG0 (-2) cc ?_
    rw [rr, e233, sk_ci_some, decide_eq_true hr4, if_neg ct_beq, e233', sk_ci_some, decide_eq_false hp4, if_neg cf_bne]
  obtain ⟨q, rfl⟩ : ∃ q : Nat, r = q := ⟨r.toNat, by omega⟩
  obtain ⟨u, rfl⟩ : ∃ q : Nat, p = q := ⟨p.toNat, by omega⟩
  have hq : q < 4 := by omega
  have hu : u < 4 := by omega
  have q88 : sk_aldr (sk_mk S I) 88 (sj (q : Int)) = some (87 + 4 + 4 * q) := g88_q hS (by omega) (by omega)
  have u88 : sk_aldr (sk_mk S I) 88 (sj (u : Int)) = some (87 + 4 + 4 * u) := g88_q hS (by omega) (by omega)
  rw [decide_eq_true hp4, if_pos ct_bne, g1_r8b hS, q88, Option.bind_some, g1_r8b hS, u88, Option.bind_some, sh_ob hS hq] at cc
  have rr : ∀ J : sk_H, J 125 = I 125 → J 126 = I 126 → sk_c 20 236 [.ref 105, .int (sj q), .int (sj i), .int (sj u), .int (sj j), .int (sj n)] (sk_mk S J) = _ := fun J h125 h126 => by
    rw [rr, e233, sk_ci_some, decide_eq_true hr4, if_neg ct_beq, e233', sk_ci_some, decide_eq_true hp4, if_pos ct_bne, g105_r20b hS, g125_ab hS (by omega) (by omega), Int.toNat_natCast, h125]
  rcases hSh q hq with ⟨a1, a2⟩ | ⟨a1, a2, a3, a4, a5, a6⟩
  · rw [m79 (by omega) hS hq (by omega) (by omega), sk_ci_some, decide_eq_true a1, if_pos ct_bne] at cc
    refine FC_same hG0 (-11) cc ?_
    rw [rr I rfl rfl, a2, if_pos (ky_lt (by omega) (by omega) (by omega) (by omega) (by omega))]
  rw [m79 (by omega) hS hq (by omega) (by omega), sk_ci_some, decide_eq_false (show ¬ I (87 + 4 + 4 * q) 1 = -1 by omega), if_neg cf_bne, sh_ob hS hu] at cc
  have rr : ∀ J : sk_H, J 125 = I 125 → J 126 = I 126 → sk_c 20 236 [.ref 105, .int (sj q), .int (sj i), .int (sj u), .int (sj j), .int (sj n)] (sk_mk S J) = _ := fun J h125 h126 => by
    rw [rr J h125 h126, if_neg (kn_lt (by omega) (by omega) (by omega) (by omega) (by omega)), g105_r20b hS, g125_ab hS (by omega) (by omega), Int.toNat_natCast, h125]
  rcases hSh u hu with ⟨b1, b2⟩ | ⟨b1, b2, b3, b4, b5, b6⟩
  · rw [m79 (by omega) hS hu (by omega) (by omega), sk_ci_some, decide_eq_true b1, if_neg ct_beq] at cc
    refine FC_same hG0 (-11) cc ?_
    rw [rr I rfl rfl, b2, if_neg (kn_ge (by omega) (by omega) (by omega) (by omega) (by omega))]
  rw [m79 (by omega) hS hu (by omega) (by omega), sk_ci_some, decide_eq_false (show ¬ I (87 + 4 + 4 * u) 1 = -1 by omega), if_pos cf_beq, sh_i1b hS hq, sh_i1b hS hu] at cc
  have rr : ∀ J : sk_H, J 125 = I 125 → J 126 = I 126 → sk_c 20 236 [.ref 105, .int (sj q), .int (sj i), .int (sj u), .int (sj j), .int (sj n)] (sk_mk S J) = _ := fun J h125 h126 => by
    rw [rr J h125 h126, if_pos (ky_ge (by omega) (by omega) (by omega) (by omega) (by omega)), g105_r20b hS, g125_ab hS (by omega) (by omega), Int.toNat_natCast, h125, g105_r20b hS, g125_ab hS (by omega) (by omega), Int.toNat_natCast, h125, a2, b2]
  by_cases hs : I (87 + 4 + 4 * q) 1 = I (87 + 4 + 4 * u) 1
  rotate_left
  · rw [if_neg (kn_eq (by omega) (by omega) (by omega) (by omega) hs)] at cc
    refine FC_same hG0 (-13) cc ?_
    rw [rr I rfl rfl, if_neg (kn_eq (by omega) (by omega) (by omega) (by omega) hs)]
  have rr : ∀ J : sk_H, J 125 = I 125 → J 126 = I 126 → sk_c 20 236 [.ref 105, .int (sj q), .int (sj i), .int (sj u), .int (sj j), .int (sj n)] (sk_mk S J) = _ := fun J h125 h126 => by
    rw [rr J h125 h126, if_pos (ky_eq hs)]
  rw [if_pos (ky_eq hs), sh_i2b hS hq, m137 (by omega) i1 i2 c1 c2 (by omega) (by omega), sk_ci_some] at cc
  have rbad : ¬ ((0 ≤ n ∧ 0 ≤ i ∧ n ≤ I 126 q ∧ i ≤ I 126 q - n) ∧ (0 ≤ n ∧ 0 ≤ j ∧ n ≤ I 126 u ∧ j ≤ I 126 u - n)) → sk_c 20 236 [.ref 105, .int (sj q), .int (sj i), .int (sj u), .int (sj j), .int (sj n)] (sk_mk S I) = some (some (.int (sj (-12))), sk_mk S I) := by
    intro h
    rw [rr I rfl rfl]
    by_cases z1 : n < 0
    · rw [if_pos (ky_lt (by omega) (by omega) (by omega) (by omega) z1)]
    rw [if_neg (kn_lt (by omega) (by omega) (by omega) (by omega) (by omega))]
    by_cases z2 : i < 0
    · rw [if_pos (ky_lt (by omega) (by omega) (by omega) (by omega) z2)]
    rw [if_neg (kn_lt (by omega) (by omega) (by omega) (by omega) (by omega))]
    by_cases z3 : j < 0
    · rw [if_pos (ky_lt (by omega) (by omega) (by omega) (by omega) z3)]
    rw [if_neg (kn_lt (by omega) (by omega) (by omega) (by omega) (by omega)), g105_r21b hS, g126_ab hS (by omega) (by omega), Int.toNat_natCast, sj_sub]
    by_cases z4 : I 126 q - n < i
    · rw [if_pos (ky_gt (by omega) (by omega) (by omega) (by omega) z4)]
    rw [if_neg (kn_gt (by omega) (by omega) (by omega) (by omega) (by omega)), g105_r21b hS, g126_ab hS (by omega) (by omega), Int.toNat_natCast, sj_sub, if_neg (kn_le (by omega) (by omega) (by omega) (by omega) (by omega))]
  have hq126 : I (87 + 4 + 4 * q) 2 = I 126 q := a5.symm
  have hu126 : I (87 + 4 + 4 * u) 2 = I 126 u := b5.symm
  rw [hq126] at cc a3 a4
  by_cases g1 : 0 ≤ n ∧ 0 ≤ i ∧ n ≤ I 126 q ∧ i ≤ I 126 q - n
  rotate_left
  · rw [show rgR i n (I 126 q) = false from decide_eq_false g1, if_pos cf_beq] at cc
    exact FC_same hG0 (-12) cc (rbad (fun h => g1 h.1))
  rw [show rgR i n (I 126 q) = true from decide_eq_true g1, if_neg ct_beq, sh_i2b hS hu, m137 (by omega) j1 j2 c1 c2 (by omega) (by omega), sk_ci_some, hu126] at cc
  rw [hu126] at b3 b4
  by_cases g2 : 0 ≤ n ∧ 0 ≤ j ∧ n ≤ I 126 u ∧ j ≤ I 126 u - n
  rotate_left
  · rw [show rgR j n (I 126 u) = false from decide_eq_false g2, if_neg cf_bne] at cc
    exact FC_same hG0 (-12) cc (rbad (fun h => g2 h.2))
  obtain ⟨ni, rfl⟩ : ∃ z : Nat, i = z := ⟨i.toNat, by omega⟩
  obtain ⟨nj, rfl⟩ : ∃ z : Nat, j = z := ⟨j.toNat, by omega⟩
  obtain ⟨nn, rfl⟩ : ∃ z : Nat, n = z := ⟨n.toNat, by omega⟩
  have e0 := mk_copy (S := S) (I := I) (a0 := 87 + 5 + 4 * q) (a := 87 + 5 + 4 * u) (n0 := 40) (n1 := 40) (sp := ni) (dp := nj) (n := nn) (ssh hS hq).2 (ssh hS hu).2 (by omega) (by omega) (by omega) (by omega) (by omega) (by omega) (by omega) (by omega) (by omega)
  rw [Int.toNat_natCast, Int.toNat_natCast, Int.toNat_natCast] at e0
  rw [show rgR nj nn (I 126 u) = true from decide_eq_true g2, if_pos ct_bne, sh_r0b hS hq, sh_r0b hS hu, e0, Option.bind_some] at cc
  have f1 : ∀ b, b ≠ 87 + 5 + 4 * u → cpy2 I (87 + 5 + 4 * q) ni (87 + 5 + 4 * u) nj nn b = I b := fun b hb => cpy_ne hb
  have w1 : ∀ k, k < 40 → cpy2 I (87 + 5 + 4 * q) ni (87 + 5 + 4 * u) nj nn (87 + 5 + 4 * u) k = if nj ≤ k ∧ k < nj + nn then I (128 + q) (ni + (k - nj)) else I (128 + u) k := fun k hk => by
    by_cases c : nj ≤ k ∧ k < nj + nn
    · rw [cpy_at c.1 c.2, if_pos c, (a6 _ (by omega)).1]
    · rw [cpy_no c, if_neg c, (b6 k hk).1]
  generalize cpy2 I (87 + 5 + 4 * q) ni (87 + 5 + 4 * u) nj nn = J at *
  have q127 : sk_aldr (sk_mk S J) 127 (sj (q : Int)) = some (128 + q) := g127_q hS (by omega) (by omega)
  have ec := mk_copy (S := S) (I := J) (a0 := 128 + q) (a := 132) (n0 := 40) (n1 := 40) (sp := ni) (dp := 0) (n := nn) (sms hS hq) (sh_132 hS) (by omega) (by omega) (by omega) (by omega) (by omega) (by omega) (by omega) (by omega) (by omega)
  rw [Int.toNat_natCast, Int.toNat_natCast, show (0 : Int).toNat = 0 from rfl] at ec
  have fK : ∀ b, b ≠ 132 → cpy2 J (128 + q) ni 132 0 nn b = J b := fun b hb => cpy_ne hb
  have wK : ∀ k, k < nn → cpy2 J (128 + q) ni 132 0 nn 132 k = I (128 + q) (ni + k) := fun k hk => by
    rw [cpy_at (by omega) (by omega), f1 _ (by omega), Nat.sub_zero]
  generalize cpy2 J (128 + q) ni 132 0 nn = K at *
  have u127 : sk_aldr (sk_mk S K) 127 (sj (u : Int)) = some (128 + u) := g127_q hS (by omega) (by omega)
  have ed := mk_copy (S := S) (I := K) (a0 := 132) (a := 128 + u) (n0 := 40) (n1 := 40) (sp := 0) (dp := nj) (n := nn) (sh_132 hS) (sms hS hu) (by omega) (by omega) (by omega) (by omega) (by omega) (by omega) (by omega) (by omega) (by omega)
  rw [Int.toNat_natCast, Int.toNat_natCast, show (0 : Int).toNat = 0 from rfl] at ed
  have fL : ∀ b, b ≠ 128 + u → cpy2 K 132 0 (128 + u) nj nn b = K b := fun b hb => cpy_ne hb
  have wL : ∀ k, k < 40 → cpy2 K 132 0 (128 + u) nj nn (128 + u) k = if nj ≤ k ∧ k < nj + nn then I (128 + q) (ni + (k - nj)) else I (128 + u) k := fun k hk => by
    by_cases c : nj ≤ k ∧ k < nj + nn
    · rw [cpy_at c.1 c.2, if_pos c, Nat.zero_add, wK _ (by omega)]
    · rw [cpy_no c, if_neg c, fK _ (by omega), f1 _ (by omega)]
  generalize cpy2 K 132 0 (128 + u) nj nn = L at *
  refine ⟨_, J, L, v, cc, ?_, ?_⟩
  · rw [rr J (f1 125 (by omega)) (f1 126 (by omega)), if_neg (kn_lt (by omega) (by omega) (by omega) (by omega) (by omega)), if_neg (kn_lt (by omega) (by omega) (by omega) (by omega) (by omega)), if_neg (kn_lt (by omega) (by omega) (by omega) (by omega) (by omega)), g105_r21b hS, g126_ab hS (by omega) (by omega), Int.toNat_natCast, f1 126 (by omega), sj_sub, if_neg (kn_gt (by omega) (by omega) (by omega) (by omega) (by omega)), g105_r21b hS, g126_ab hS (by omega) (by omega), Int.toNat_natCast, f1 126 (by omega), sj_sub, if_pos (ky_le (by omega) (by omega) (by omega) (by omega) (by omega)), g105_r22b hS, q127, Option.bind_some, g105_r23b hS, ec, Option.bind_some, g105_r23b hS, g105_r22b hS, u127, Option.bind_some, ed, Option.bind_some]
  · have fA : ∀ b, b ≠ 87 + 5 + 4 * u → b ≠ 132 → b ≠ 128 + u → L b = I b := fun b x1 x2 x3 => (fL b x3).trans ((fK b x2).trans (f1 b x1))
    refine GI_H hG0 (fun b x1 x2 x3 x4 => fA b (by omega) (by omega) (by omega)) (fun s hs => ⟨fA _ (by omega) (by omega) (by omega), fA _ (by omega) (by omega) (by omega)⟩) (fun t ht => ?_)
    by_cases c : t = u
    · subst c
      refine Or.inr ?_
      rw [fA (87 + 4 + 4 * t) (by omega) (by omega) (by omega), fA 125 (by omega) (by omega) (by omega), fA 126 (by omega) (by omega) (by omega)]
      refine ⟨b1, b2, by omega, by omega, b5, fun k hk => ?_⟩
      rw [wL k hk, fL _ (by omega), fK _ (by omega), w1 k hk]
      refine ⟨rfl, ?_⟩
      split
      · exact (a6 _ (by omega)).2
      · exact (b6 k hk).2
    · exact GH1_pt (hSh t ht) (fA _ (by omega) (by omega) (by omega)) (fA _ (by omega) (by omega) (by omega)) (fA _ (by omega) (by omega) (by omega)) (by rw [fA 125 (by omega) (by omega) (by omega)]) (by rw [fA 126 (by omega) (by omega) (by omega)])
end SHE
