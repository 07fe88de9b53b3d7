/-! ===== fix, order ===== -/
section FAC
variable {S : List sk_Sh} {I v : sk_H}
theorem f_fix (hS : sk_G S) (hG : GI I v) {p x y : Int} (p1 : -2147483648 ≤ p) (p2 : p < 2147483648) (x1 : -2147483648 ≤ x) (x2 : x < 2147483648) (y1 : -2147483648 ≤ y) (y2 : y < 2147483648) : FC S I 107 169 [.int (sj p), .int (sj x), .int (sj y)] := by
  have hG0 := hG
  obtain ⟨hv, hT, hR, hTp, hM, hRk, hSh⟩ := hG; have hV := hT.1; have ha : sk_isP 15 := Or.inl rfl; obtain ⟨n1, n2, n3, n4, n5, n6, n7, n8, n9, n10, n11, n12⟩ := hV.1
  have e39 := m39 (S := S) (I := I) (d := 19) (by omega) hS ha hv hV p1 p2
  have e148 := m148 (S := S) (I := I) (d := 19) (by omega) hS hR hV p1 p2
  have ex := m144 (d := 19) (by omega) (x := x) (l := -1) (h := 19) x1 x2 (by omega) (by omega) (by omega) (by omega) (w := sk_mk S I)
  have ey := m144 (d := 19) (by omega) (x := y) (l := 0) (h := 60) y1 y2 (by omega) (by omega) (by omega) (by omega) (w := sk_mk S I)
  by_cases hp : 0 ≤ p ∧ p < v 0 1
  rotate_left
  · rw [decide_eq_false hp] at e39 e148
    refine FC_same hG0 (-2) ?_ ?_
    · rw [sk_e107, g1_r1b hS, pl_ob hS ha, e39, sk_ci_some, if_pos (by rw [bi_ceq])]
    · rw [sk_e169, g105_ob hS, e148, sk_ci_some, if_pos (by rw [bi_ceq])]
  obtain ⟨n, rfl⟩ : ∃ n : Nat, p = n := ⟨p.toNat, by omega⟩
  have hp2 := hp.2
  rw [decide_eq_true hp] at e39 e148
  by_cases hx : -1 ≤ x ∧ x ≤ 19
  rotate_left
  · rw [decide_eq_false hx] at ex
    refine FC_same hG0 (-2) ?_ ?_
    · rw [sk_e107, g1_r1b hS, pl_ob hS ha, e39, sk_ci_some, if_neg (by rw [bi_ceq]; simp)]
      by_cases c : x < -1
      · rw [if_pos (by rw [sj_clt (by omega) (by omega) (by omega) (by omega)]; exact c)]
      · rw [if_neg (by rw [sj_clt (by omega) (by omega) (by omega) (by omega)]; exact c), if_neg (by rw [sj_clt (by omega) (by omega) (by omega) (by omega)]; omega)]
    · rw [sk_e169, g105_ob hS, e148, sk_ci_some, if_neg (by rw [bi_ceq]; simp), ex, sk_ci_some, if_pos (by rw [bi_ceq])]
  rw [decide_eq_true hx] at ex
  by_cases hy : x = -1 ∨ (0 ≤ y ∧ y ≤ 60)
  rotate_left
  · have hx1 : ¬ x = -1 := fun h => hy (Or.inl h)
    have hyn : ¬ (0 ≤ y ∧ y ≤ 60) := fun h => hy (Or.inr h)
    rw [decide_eq_false hyn] at ey
    refine FC_same hG0 (-2) ?_ ?_
    · rw [sk_e107, g1_r1b hS, pl_ob hS ha, e39, sk_ci_some, if_neg (by rw [bi_ceq]; simp), if_neg (by rw [sj_clt (by omega) (by omega) (by omega) (by omega)]; omega), if_pos (by rw [sj_clt (by omega) (by omega) (by omega) (by omega)]; omega), if_neg (by rw [sj_ceq (by omega) (by omega) (by omega) (by omega)]; exact hx1)]
      by_cases c : y < 0
      · rw [if_pos (by rw [sj_clt (by omega) (by omega) (by omega) (by omega)]; exact c)]
      · rw [if_neg (by rw [sj_clt (by omega) (by omega) (by omega) (by omega)]; exact c), if_neg (by rw [sj_cle (by omega) (by omega) (by omega) (by omega)]; omega)]
    · rw [sk_e169, g105_ob hS, e148, sk_ci_some, if_neg (by rw [bi_ceq]; simp), ex, sk_ci_some, if_neg (by rw [bi_ceq]; simp), if_neg (by rw [sj_ceq (by omega) (by omega) (by omega) (by omega)]; exact hx1), ey, sk_ci_some, if_neg (by rw [bi_cne]; simp)]
  obtain ⟨q1, q2, q3, q4, q5, q6, q7, q8, q9, q10, q11, q12, q13⟩ := vo_p hV (p := n) hp2
  have rl : I 107 (77 + n) = v 5 n := (hR.2.1 n hp2).2.2.2.2.1
  have t77 : (77 + (n : Int)).toNat = 77 + n := by omega
  have t67 : (67 + (n : Int)).toNat = 67 + n := by omega
  have t57 : (57 + (n : Int)).toNat = 57 + n := by omega
  have t47 : (47 + (n : Int)).toNat = 47 + n := by omega
  have p4 : I (15 + 9 + n) 4 = v 5 n := vp4 hv (by omega)
  have ac := acr_rng hV.1 (vo_p hV hp2) 0
  have tc := tal_rng hV.1 (vo_p hV hp2) 0
  -- to the middle
  have c43 : sk_c 20 107 [.ref 1, .int (sj n), .int (sj x), .int (sj y)] (sk_mk S I) = sk_D107 19 68 [some (.ref 1), some (.int (sj n)), some (.int (sj x)), some (.int (sj y)), some (.ref (15 + 9 + n)), none] [.int (sj (bi (decide (v 5 n = 1))))] (sk_mk S I) := by
    have e43 : sk_D107 19 43 [some (.ref 1), some (.int (sj n)), some (.int (sj x)), some (.int (sj y)), none, none] [] (sk_mk S I) = sk_D107 19 68 [some (.ref 1), some (.int (sj n)), some (.int (sj x)), some (.int (sj y)), some (.ref (15 + 9 + n)), none] [.int (sj (bi (decide (v 5 n = 1))))] (sk_mk S I) := by
      rw [sk_e107_43, g1_r1b hS, pl_r0b hS ha, pl_pb hS ha (by omega) (by omega), Int.toNat_natCast, pq_i4b hS ha (by omega), p4]
      by_cases c : v 5 n = 1
      · rw [if_neg (by rw [sj_cne (by omega) (by omega) (by omega) (by omega)]; exact fun h => h c), decide_eq_true c]; rfl
      · rw [if_pos (by rw [sj_cne (by omega) (by omega) (by omega) (by omega)]; exact c), decide_eq_false c]; rfl
    rw [sk_e107, g1_r1b hS, pl_ob hS ha, e39, sk_ci_some, if_neg (by rw [bi_ceq]; simp), if_neg (by rw [sj_clt (by omega) (by omega) (by omega) (by omega)]; omega), if_pos (by rw [sj_clt (by omega) (by omega) (by omega) (by omega)]; omega)]
    by_cases c : x = -1
    · rw [if_pos (by rw [sj_ceq (by omega) (by omega) (by omega) (by omega)]; exact c), e43]
    · rw [if_neg (by rw [sj_ceq (by omega) (by omega) (by omega) (by omega)]; exact c), if_neg (by rw [sj_clt (by omega) (by omega) (by omega) (by omega)]; omega), if_pos (by rw [sj_cle (by omega) (by omega) (by omega) (by omega)]; omega), e43]
  have r54 : sk_c 20 169 [.ref 105, .int (sj n), .int (sj x), .int (sj y)] (sk_mk S I) = sk_D169 19 54 [some (.ref 105), some (.int (sj n)), some (.int (sj x)), some (.int (sj y)), none] [.int (sj (bi (decide (v 5 n = 1))))] (sk_mk S I) := by
    have hif : (if sk_cond .ne (sj (v 5 n)) (sj 1) = true then sk_D169 19 54 [some (.ref 105), some (.int (sj n)), some (.int (sj x)), some (.int (sj y)), none] [.int (sj 0)] (sk_mk S I) else sk_D169 19 54 [some (.ref 105), some (.int (sj n)), some (.int (sj x)), some (.int (sj y)), none] [.int (sj 1)] (sk_mk S I)) = sk_D169 19 54 [some (.ref 105), some (.int (sj n)), some (.int (sj x)), some (.int (sj y)), none] [.int (sj (bi (decide (v 5 n = 1))))] (sk_mk S I) := by
      by_cases c : v 5 n = 1
      · rw [if_neg (by rw [sj_cne (by omega) (by omega) (by omega) (by omega)]; exact fun h => h c), decide_eq_true c]; rfl
      · rw [if_pos (by rw [sj_cne (by omega) (by omega) (by omega) (by omega)]; exact c), decide_eq_false c]; rfl
    rw [sk_e169, g105_ob hS, e148, sk_ci_some, if_neg (by rw [bi_ceq]; simp), ex, sk_ci_some, if_neg (by rw [bi_ceq]; simp)]
    by_cases c : x = -1
    · rw [if_pos (by rw [sj_ceq (by omega) (by omega) (by omega) (by omega)]; exact c), g105_r1b hS, sj_add, g107_ab hS (by omega) (by omega), t77, rl, hif]
    · have hyy : 0 ≤ y ∧ y ≤ 60 := by omega
      rw [decide_eq_true hyy] at ey
      rw [if_neg (by rw [sj_ceq (by omega) (by omega) (by omega) (by omega)]; exact c), ey, sk_ci_some, if_pos (by rw [bi_cne]), g105_r1b hS, sj_add, g107_ab hS (by omega) (by omega), t77, rl, hif]
  have e41 := m41 (S := S) (I := I) (d := 19) (by omega) hS ha hv hV
  have e40 := m40 (S := S) (I := I) (d := 19) (by omega) hS ha hv hV (p := n) (by omega) (by omega)
  have e167 := m167 (S := S) (I := I) (d := 19) (by omega) hS hR hV
  have e168 := m168 (S := S) (I := I) (d := 19) (by omega) hS hR hV (p := n) (by omega) (by omega)
  cases hl : hasL v with
  | true =>
    rw [hl] at e41 e167
    refine FC_same hG0 (-3) ?_ ?_
    · rw [c43, sk_e107_68, g1_r1b hS, pl_ob hS ha, e41, sk_ci_some, if_pos (by rw [bi_cne])]
    · rw [r54, sk_e169_54, g105_ob hS, e167, sk_ci_some, if_pos (by rw [bi_cne])]
  | false =>
  rw [hl] at e41 e167
  cases ho : inOrd v n with
  | true =>
    rw [ho] at e40 e168
    refine FC_same hG0 (-3) ?_ ?_
    · rw [c43, sk_e107_68, g1_r1b hS, pl_ob hS ha, e41, sk_ci_some, if_neg (by rw [bi_cne]; simp), g1_r1b hS, pl_ob hS ha, e40, sk_ci_some, if_pos (by rw [bi_cne])]
    · rw [r54, sk_e169_54, g105_ob hS, e167, sk_ci_some, if_neg (by rw [bi_cne]; simp), g105_ob hS, e168, sk_ci_some, if_pos (by rw [bi_cne])]
  | false =>
  rw [ho] at e40 e168
  have c103 : sk_c 20 107 [.ref 1, .int (sj n), .int (sj x), .int (sj y)] (sk_mk S I) = sk_D107 19 103 [some (.ref 1), some (.int (sj n)), some (.int (sj x)), some (.int (sj y)), some (.ref (15 + 9 + n)), some (.int (sj (bi (decide (v 5 n = 1)))))] [.int (sj (bi (decide (x = -1)))), .int (sj (bi (decide (v 5 n = 1))))] (sk_mk S I) := by
    rw [c43, sk_e107_68, g1_r1b hS, pl_ob hS ha, e41, sk_ci_some, if_neg (by rw [bi_cne]; simp), g1_r1b hS, pl_ob hS ha, e40, sk_ci_some, if_neg (by rw [bi_cne]; simp)]
    by_cases c : x = -1
    · rw [if_neg (by rw [sj_cne (by omega) (by omega) (by omega) (by omega)]; exact fun h => h c), decide_eq_true c]; rfl
    · rw [if_pos (by rw [sj_cne (by omega) (by omega) (by omega) (by omega)]; exact c), decide_eq_false c]; rfl
  have r83 : sk_c 20 169 [.ref 105, .int (sj n), .int (sj x), .int (sj y)] (sk_mk S I) = sk_D169 19 83 [some (.ref 105), some (.int (sj n)), some (.int (sj x)), some (.int (sj y)), some (.int (sj (bi (decide (v 5 n = 1)))))] [.int (sj (bi (decide (x = -1)))), .int (sj (bi (decide (v 5 n = 1))))] (sk_mk S I) := by
    rw [r54, sk_e169_54, g105_ob hS, e167, sk_ci_some, if_neg (by rw [bi_cne]; simp), g105_ob hS, e168, sk_ci_some, if_neg (by rw [bi_cne]; simp)]
    by_cases c : x = -1
    · rw [if_neg (by rw [sj_cne (by omega) (by omega) (by omega) (by omega)]; exact fun h => h c), decide_eq_true c]; rfl
    · rw [if_pos (by rw [sj_cne (by omega) (by omega) (by omega) (by omega)]; exact c), decide_eq_false c]; rfl
  have hbb : (sk_cond .eq (sj (bi (decide (v 5 n = 1)))) (sj (bi (decide (x = -1)))) = true) ↔ (v 5 n = 1 ↔ x = -1) := by
    by_cases c1 : v 5 n = 1 <;> by_cases c2 : x = -1 <;> simp [c1, c2] <;> decide
  by_cases hm : v 5 n = 1 ↔ x = -1
  rotate_left
  · refine FC_same hG0 (-3) ?_ ?_
    · rw [c103, sk_e107_103, if_neg (fun h => hm (hbb.mp h))]
    · rw [r83, sk_e169_83, if_neg (fun h => hm (hbb.mp h))]
  by_cases hx1 : x = -1
  · -- fixed no more
    have h51 : v 5 n = 1 := hm.mpr hx1
    have cne : ¬ (sk_cond .ne (sj x) (sj (-1)) = true) := by rw [sj_cne (by omega) (by omega) (by omega) (by omega)]; exact fun h => h hx1
    refine ⟨sj 1, u2 I (15 + 9 + n) 4 0, u2 (u2 I (15 + 9 + n) 4 0) 107 (77 + n) 0, u2 v 5 n 0, ?_, ?_, ?_⟩
    · rw [c103, sk_e107_103, if_pos (hbb.mpr hm), if_neg cne, pq_u4b hS ha (by omega)]
    · have : sk_c 20 169 [.ref 105, .int (sj n), .int (sj x), .int (sj y)] (sk_mk S (u2 I (15 + 9 + n) 4 0)) = some (some (.int (sj 1)), sk_mk S (u2 (u2 I (15 + 9 + n) 4 0) 107 (77 + n) 0)) := by
        -- the reference looks at its own row alone
        have hR1 : RP (u2 I (15 + 9 + n) 4 0) 107 v := hR.fr (funext fun q => u2_ne _ _ (by omega))
        have rl1 : (u2 I (15 + 9 + n) 4 0) 107 (77 + n) = v 5 n := (hR1.2.1 n hp2).2.2.2.2.1
        have e148' := m148 (S := S) (I := u2 I (15 + 9 + n) 4 0) (d := 19) (by omega) hS hR1 hV (p := n) (by omega) (by omega)
        have e167' := m167 (S := S) (I := u2 I (15 + 9 + n) 4 0) (d := 19) (by omega) hS hR1 hV
        have e168' := m168 (S := S) (I := u2 I (15 + 9 + n) 4 0) (d := 19) (by omega) hS hR1 hV (p := n) (by omega) (by omega)
        have ex' := m144 (d := 19) (by omega) (x := x) (l := -1) (h := 19) x1 x2 (by omega) (by omega) (by omega) (by omega) (w := sk_mk S (u2 I (15 + 9 + n) 4 0))
        rw [decide_eq_true hp] at e148'
        rw [decide_eq_true hx] at ex'
        rw [hl] at e167'
        rw [ho] at e168'
        rw [sk_e169, g105_ob hS, e148', sk_ci_some, if_neg (by rw [bi_ceq]; simp), ex', sk_ci_some, if_neg (by rw [bi_ceq]; simp), if_pos (by rw [sj_ceq (by omega) (by omega) (by omega) (by omega)]; exact hx1), g105_r1b hS, sj_add, g107_ab hS (by omega) (by omega), t77, rl1, if_neg (by rw [sj_cne (by omega) (by omega) (by omega) (by omega)]; exact fun h => h h51)]
        rw [sk_e169_54, g105_ob hS, e167', sk_ci_some, if_neg (by rw [bi_cne]; simp), g105_ob hS, e168', sk_ci_some, if_neg (by rw [bi_cne]; simp), if_neg cne]
        rw [sk_e169_83, if_pos (by decide), if_neg cne, g105_r1b hS, sj_add, g107_sb hS (by omega) (by omega), t77]
      exact this
    · have hvv : vC (u2 I (15 + 9 + n) 4 0) 15 = u2 v 5 n 0 := by rw [wp4 (by omega), hv]
      refine GI_GP hG0 ((GP.ofC (J := u2 I (15 + 9 + n) 4 0) (fun b hb => funext fun k => u2_ne _ _ (by omega))).trans (GP.ofR (fun b hb => funext fun k => u2_ne _ _ (by omega)))) ?_ (VT_unfix hT hp2 h51) ?_ (by rw [u2_ne _ _ (by omega)]; exact Int.le_refl _)
      · rw [← hvv]
        exact vC_fr (fun b b1 b2 => funext fun k => u2_ne _ _ (by omega))
      · obtain ⟨r0, r1, r2, r3, r4⟩ := hR
        refine ⟨fun k hk => ?_, fun q hq => ?_, fun k hk => ?_, fun c hc => ?_, fun k hk => ?_⟩
        · simp (disch := omega) only [u2_ne]
          exact r0 k hk
        · rw [u2_ne _ _ (by omega)] at hq
          have h := r1 q hq
          by_cases c : q = n
          · subst c
            simp (disch := omega) only [u2_ne, u2_eq]
            exact ⟨h.1, h.2.1, h.2.2.1, h.2.2.2.1, trivial, fun hh => absurd rfl hh⟩
          · simp (disch := omega) only [u2_ne]
            exact h
        · rw [u2_ne _ _ (by omega)] at hk
          simp (disch := omega) only [u2_ne]
          exact r2 k hk
        · rw [u2_ne _ _ (by omega)] at hc
          simp (disch := omega) only [u2_ne]
          exact r3 c hc
        · rw [u2_ne _ _ (by omega)] at hk
          simp (disch := omega) only [u2_ne]
          exact r4 k hk
  · have h50 : v 5 n = 0 := by
      have h51 : ¬ v 5 n = 1 := fun h => hx1 (hm.mp h)
      have : ¬ 2 ≤ v 5 n := fun h => by
        have : hasL v = true := (anyTo_iff _ _).mpr ⟨n, by omega, decide_eq_true h⟩
        rw [this] at hl
        cases hl
      omega
    have cne : sk_cond .ne (sj x) (sj (-1)) = true := by rw [sj_cne (by omega) (by omega) (by omega) (by omega)]; exact hx1
    have hyy : 0 ≤ y ∧ y ≤ 60 := by omega
    have i1 : I (15 + 9 + n) 1 = v 2 n := vp1 hv (by omega)
    have a0 : acr v n 0 = v 2 n := by unfold acr; rw [if_pos rfl]
    have r0 : I 107 0 = v 0 0 := hR.1 0 (by omega)
    have z0 : (0 : Int).toNat = 0 := rfl
    have e32 := p32 (S := S) (I := I) (d := 19) (by omega) hS ha hv hV hp2 (o := 0) (Or.inl rfl)
    have e151 := m151 (S := S) (I := I) (d := 19) (by omega) hS hR hV hp2 (o := 0) (Or.inl rfl)
    have e152 := m152 (S := S) (I := I) (d := 19) (by omega) hS hR hV hp2 (o := 0) (Or.inl rfl)
    rw [a0] at e151 ac
    by_cases hxw : x + v 2 n ≤ v 0 0
    rotate_left
    · refine FC_same hG0 (-12) ?_ ?_
      · rw [c103, sk_e107_103, if_pos (hbb.mpr hm), if_pos cne, pq_i1b hS ha (by omega), i1, g1_r1b hS, pl_i4b hS ha, vc4 hv, sj_add, if_neg (by rw [sj_cle (by omega) (by omega) (by omega) (by omega)]; exact hxw)]
      · rw [r83, sk_e169_83, if_pos (hbb.mpr hm), if_pos cne, g105_ob hS, e151, sk_ci_some, g105_r1b hS, g107_ab hS (by omega) (by omega), z0, r0, sj_add, if_neg (by rw [sj_cle (by omega) (by omega) (by omega) (by omega)]; exact hxw)]
    have e51 := m51 (S := S) (I := I) (d := 19) (by omega) hS ha hv hV (x := x) (y := y) (w := v 2 n) (t := tal v n 0) (by omega) (by omega) (by omega) (by omega) (by omega) (by omega) (by omega) (by omega)
    have e157 := m157 (S := S) (I := I) (d := 19) (by omega) hS hR hV (x := x) (y := y) (w := v 2 n) (t := tal v n 0) (by omega) (by omega) (by omega) (by omega) (by omega) (by omega) (by omega) (by omega)
    have hot := over_topIn hV x y (v 2 n) (tal v n 0)
    have htr := topIn_rng hV x y (v 2 n) (tal v n 0)
    cases hov : overV v x y (v 2 n) (tal v n 0) with
    | true =>
      rw [hov] at e157
      have hnt : ¬ topIn v x y (v 2 n) (tal v n 0) = -1 := fun h => by rw [hot.mp h] at hov; cases hov
      refine FC_same hG0 (-15) ?_ ?_
      · rw [c103, sk_e107_103, if_pos (hbb.mpr hm), if_pos cne, pq_i1b hS ha (by omega), i1, g1_r1b hS, pl_i4b hS ha, vc4 hv, sj_add, if_pos (by rw [sj_cle (by omega) (by omega) (by omega) (by omega)]; exact hxw), g1_r1b hS, pq_i1b hS ha (by omega), i1, pq_ob hS ha (by omega), e32, sk_ci_some, pl_ob hS ha, e51, sk_ci_some, if_neg (by rw [sj_ceq (by omega) (by omega) (by omega) (by omega)]; exact hnt)]
      · rw [r83, sk_e169_83, if_pos (hbb.mpr hm), if_pos cne, g105_ob hS, e151, sk_ci_some, g105_r1b hS, g107_ab hS (by omega) (by omega), z0, r0, sj_add, if_pos (by rw [sj_cle (by omega) (by omega) (by omega) (by omega)]; exact hxw), g105_ob hS, e151, sk_ci_some, g105_ob hS, e152, sk_ci_some, g105_ob hS, e157, sk_ci_some, if_neg (by rw [bi_ceq]; simp)]
    | false =>
      have e29 := m29 (S := S) (I := I) (d := 19) (by omega) (sh_pt hS ha (n := n) (by omega)) (x := x) (y := y) (o := 0) (how := 1) (Or.inl rfl) (by rw [vp0 hv (by omega)]; exact q1) (by rw [vp0 hv (by omega)]; exact q2)
      have hcl := c103
      rw [sk_e107_103, if_pos (hbb.mpr hm), if_pos cne, pq_i1b hS ha (by omega), i1, g1_r1b hS, pl_i4b hS ha, vc4 hv, sj_add, if_pos (by rw [sj_cle (by omega) (by omega) (by omega) (by omega)]; exact hxw), g1_r1b hS, pq_i1b hS ha (by omega), i1, pq_ob hS ha (by omega), e32, sk_ci_some, pl_ob hS ha, e51, sk_ci_some, if_pos (by rw [sj_ceq (by omega) (by omega) (by omega) (by omega)]; exact hot.mpr hov), pq_ob hS ha (by omega), e29, sk_cv_some] at hcl
      have hvv : vC (u2 (u2 (u2 (u2 (u2 (u2 I (15 + 9 + n) 5 x) (15 + 9 + n) 6 y) (15 + 9 + n) 7 0) (15 + 9 + n) 4 1) (15 + 9 + n) 8 (if (0 : Int) = 0 then I (15 + 9 + n) 1 else I (15 + 9 + n) 2)) (15 + 9 + n) 9 ((if (0 : Int) = 0 then I (15 + 9 + n) 2 else I (15 + 9 + n) 1) + if I (15 + 9 + n) 0 = 3 then 1 else 0)) 15 = lieV v n x y 0 1 := by
        rw [wp9 (by omega), wp8 (by omega), wp4 (by omega), wp7 (by omega), wp6 (by omega), wp5 (by omega), hv, vp0 hv (by omega), vp1 hv (by omega), vp2 hv (by omega)]
        rfl
      have hff : ∀ b, b ≠ 15 + 9 + n → (u2 (u2 (u2 (u2 (u2 (u2 I (15 + 9 + n) 5 x) (15 + 9 + n) 6 y) (15 + 9 + n) 7 0) (15 + 9 + n) 4 1) (15 + 9 + n) 8 (if (0 : Int) = 0 then I (15 + 9 + n) 1 else I (15 + 9 + n) 2)) (15 + 9 + n) 9 ((if (0 : Int) = 0 then I (15 + 9 + n) 2 else I (15 + 9 + n) 1) + if I (15 + 9 + n) 0 = 3 then 1 else 0)) b = I b := fun b hb => funext fun j => by simp (disch := omega) only [u2_ne]
      generalize (u2 (u2 (u2 (u2 (u2 (u2 I (15 + 9 + n) 5 x) (15 + 9 + n) 6 y) (15 + 9 + n) 7 0) (15 + 9 + n) 4 1) (15 + 9 + n) 8 (if (0 : Int) = 0 then I (15 + 9 + n) 1 else I (15 + 9 + n) 2)) (15 + 9 + n) 9 ((if (0 : Int) = 0 then I (15 + 9 + n) 2 else I (15 + 9 + n) 1) + if I (15 + 9 + n) 0 = 3 then 1 else 0)) = J at *
      have hRJ : RP J 107 v := hR.fr (hff 107 (by omega))
      have rlJ : J 107 (77 + n) = v 5 n := (hRJ.2.1 n hp2).2.2.2.2.1
      have rJ0 : J 107 0 = v 0 0 := hRJ.1 0 (by omega)
      have f148 := m148 (S := S) (I := J) (d := 19) (by omega) hS hRJ hV (p := n) (by omega) (by omega)
      have f167 := m167 (S := S) (I := J) (d := 19) (by omega) hS hRJ hV
      have f168 := m168 (S := S) (I := J) (d := 19) (by omega) hS hRJ hV (p := n) (by omega) (by omega)
      have fx := m144 (d := 19) (by omega) (x := x) (l := -1) (h := 19) x1 x2 (by omega) (by omega) (by omega) (by omega) (w := sk_mk S J)
      have fy := m144 (d := 19) (by omega) (x := y) (l := 0) (h := 60) y1 y2 (by omega) (by omega) (by omega) (by omega) (w := sk_mk S J)
      have f151 := m151 (S := S) (I := J) (d := 19) (by omega) hS hRJ hV hp2 (o := 0) (Or.inl rfl)
      have f152 := m152 (S := S) (I := J) (d := 19) (by omega) hS hRJ hV hp2 (o := 0) (Or.inl rfl)
      have f157 := m157 (S := S) (I := J) (d := 19) (by omega) hS hRJ hV (x := x) (y := y) (w := v 2 n) (t := tal v n 0) (by omega) (by omega) (by omega) (by omega) (by omega) (by omega) (by omega) (by omega)
      rw [a0] at f151
      rw [decide_eq_true hp] at f148
      rw [decide_eq_true hx] at fx
      rw [decide_eq_true hyy] at fy
      rw [hl] at f167
      rw [ho] at f168
      rw [hov] at f157
      have c50 : sk_cond .ne (sj (v 5 n)) (sj 1) = true := by rw [sj_cne (by omega) (by omega) (by omega) (by omega)]; omega
      refine ⟨sj 1, J, u2 (u2 (u2 (u2 J 107 (77 + n) 1) 107 (67 + n) 0) 107 (47 + n) x) 107 (57 + n) y, lieV v n x y 0 1, hcl, ?_, ?_⟩
      · rw [sk_e169, g105_ob hS, f148, sk_ci_some, if_neg (by rw [bi_ceq]; simp), fx, sk_ci_some, if_neg (by rw [bi_ceq]; simp), if_neg (by rw [sj_ceq (by omega) (by omega) (by omega) (by omega)]; exact hx1), fy, sk_ci_some, if_pos (by rw [bi_cne]), g105_r1b hS, sj_add, g107_ab hS (by omega) (by omega), t77, rlJ, if_pos c50]
        rw [sk_e169_54, g105_ob hS, f167, sk_ci_some, if_neg (by rw [bi_cne]; simp), g105_ob hS, f168, sk_ci_some, if_neg (by rw [bi_cne]; simp), if_pos cne]
        rw [sk_e169_83, if_pos (by decide), if_pos cne, g105_ob hS, f151, sk_ci_some, g105_r1b hS, g107_ab hS (by omega) (by omega), z0, rJ0, sj_add, if_pos (by rw [sj_cle (by omega) (by omega) (by omega) (by omega)]; exact hxw), g105_ob hS, f151, sk_ci_some, g105_ob hS, f152, sk_ci_some, g105_ob hS, f157, sk_ci_some, if_pos (by rw [bi_ceq])]
        simp (disch := omega) only [↓g105_r1b hS, ↓g107_sb hS, ↓Option.bind_some, ↓sk_ci_some, ↓sk_cv_some, ↓sk_cf_some, if_true, eq_self, ite_self, Bool.true_eq_false, Bool.false_eq_true, if_false, sj_add, t47, t57, t67, t77]
      · refine GI_GP hG0 ((GP.ofC (J := J) (fun b hb => hff b (by omega))).trans (GP.ofR (fun b hb => funext fun k => by simp (disch := omega) only [u2_ne]))) ?_ (VT_fixV hT hp2 h50 ho (by omega) (by rw [a0]; exact hxw) hyy.1 hyy.2) ?_ (by rw [lie_ne _ _ _ _ _ _ (by omega)]; exact Int.le_refl _)
        · rw [← hvv]
          exact vC_fr (fun b b1 b2 => funext fun k => by simp (disch := omega) only [u2_ne])
        · refine RP_lie' hV hRJ hp2 ?_ ?_ ?_ ?_ (fun q a1 a2 a3 a4 => ?_)
          · simp (disch := omega) only [u2_ne, u2_eq]
          · simp (disch := omega) only [u2_ne, u2_eq]
          · simp (disch := omega) only [u2_ne, u2_eq]
          · simp (disch := omega) only [u2_ne, u2_eq]
          · simp (disch := omega) only [u2_ne]
end FAC
