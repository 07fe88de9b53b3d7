/-! ===== place, lay, run, sky, waste ===== -/
theorem ky_ge {a b : Int} (h1 : -2147483648 ≤ a) (h2 : a < 2147483648) (h3 : -2147483648 ≤ b) (h4 : b < 2147483648) (h : b ≤ a) : sk_cond .ge (sj a) (sj b) = true := by rw [sj_cge h1 h2 h3 h4]; exact h
theorem kn_ge {a b : Int} (h1 : -2147483648 ≤ a) (h2 : a < 2147483648) (h3 : -2147483648 ≤ b) (h4 : b < 2147483648) (h : a < b) : ¬ sk_cond .ge (sj a) (sj b) = true := by rw [sj_cge h1 h2 h3 h4]; omega
theorem ky_eq {a b : Int} (h : a = b) : sk_cond .eq (sj a) (sj b) = true := by subst h; simp [sk_cond]
theorem kn_eq {a b : Int} (h1 : -2147483648 ≤ a) (h2 : a < 2147483648) (h3 : -2147483648 ≤ b) (h4 : b < 2147483648) (h : ¬ a = b) : ¬ sk_cond .eq (sj a) (sj b) = true := by rw [sj_ceq h1 h2 h3 h4]; exact h
theorem ky_ne {a b : Int} (h1 : -2147483648 ≤ a) (h2 : a < 2147483648) (h3 : -2147483648 ≤ b) (h4 : b < 2147483648) (h : ¬ a = b) : sk_cond .ne (sj a) (sj b) = true := by rw [sj_cne h1 h2 h3 h4]; exact h
theorem kn_ne {a b : Int} (h : a = b) : ¬ sk_cond .ne (sj a) (sj b) = true := by subst h; simp [sk_cond]
theorem ky_lt {a b : Int} (h1 : -2147483648 ≤ a) (h2 : a < 2147483648) (h3 : -2147483648 ≤ b) (h4 : b < 2147483648) (h : a < b) : sk_cond .lt (sj a) (sj b) = true := by rw [sj_clt h1 h2 h3 h4]; exact h
theorem kn_lt {a b : Int} (h1 : -2147483648 ≤ a) (h2 : a < 2147483648) (h3 : -2147483648 ≤ b) (h4 : b < 2147483648) (h : b ≤ a) : ¬ sk_cond .lt (sj a) (sj b) = true := by rw [sj_clt h1 h2 h3 h4]; omega
theorem ky_le {a b : Int} (h1 : -2147483648 ≤ a) (h2 : a < 2147483648) (h3 : -2147483648 ≤ b) (h4 : b < 2147483648) (h : a ≤ b) : sk_cond .le (sj a) (sj b) = true := by rw [sj_cle h1 h2 h3 h4]; exact h
theorem kn_le {a b : Int} (h1 : -2147483648 ≤ a) (h2 : a < 2147483648) (h3 : -2147483648 ≤ b) (h4 : b < 2147483648) (h : b < a) : ¬ sk_cond .le (sj a) (sj b) = true := by rw [sj_cle h1 h2 h3 h4]; omega
theorem ky_gt {a b : Int} (h1 : -2147483648 ≤ a) (h2 : a < 2147483648) (h3 : -2147483648 ≤ b) (h4 : b < 2147483648) (h : b < a) : sk_cond .gt (sj a) (sj b) = true := by rw [sj_cgt h1 h2 h3 h4]; exact h
theorem kn_gt {a b : Int} (h1 : -2147483648 ≤ a) (h2 : a < 2147483648) (h3 : -2147483648 ≤ b) (h4 : b < 2147483648) (h : a ≤ b) : ¬ sk_cond .gt (sj a) (sj b) = true := by rw [sj_cgt h1 h2 h3 h4]; omega
theorem ct_bne : sk_cond .ne (sj (bi true)) (sj 0) = true := by decide
theorem cf_bne : ¬ sk_cond .ne (sj (bi false)) (sj 0) = true := by decide
theorem cf_beq : sk_cond .eq (sj (bi false)) (sj 0) = true := by decide
theorem ct_beq : ¬ sk_cond .eq (sj (bi true)) (sj 0) = true := by decide
theorem segE_fuel {v : sk_H} {f : Nat} : ∀ (n m to : Nat), v 0 0 ≤ to + n → v 0 0 ≤ to + m → segE v f n to = segE v f m to := by
  intro n
  induction n with
  | zero =>
    intro m to h1 h2
    cases m with
    | zero => rfl
    | succ m => unfold segE; rw [if_neg (by omega)]
  | succ n ih =>
    intro m to h1 h2
    cases m with
    | zero => unfold segE; rw [if_neg (by omega)]
    | succ m =>
      unfold segE
      by_cases c : (to : Int) < v 0 0 ∧ v 10 to = v 10 f
      · rw [if_pos c, if_pos c]; exact ih m (to + 1) (by omega) (by omega)
      · rw [if_neg c, if_neg c]
theorem segE_st {v : sk_H} (h20 : v 0 0 ≤ 20) {f to : Nat} (h : (to : Int) < v 0 0 ∧ v 10 to = v 10 f) : segE v f 20 to = segE v f 20 (to + 1) := by
  rw [segE_fuel 20 21 to (by omega) (by omega)]
  show (if (to : Int) < v 0 0 ∧ v 10 to = v 10 f then segE v f 20 (to + 1) else to) = _
  rw [if_pos h]
theorem segE_no {v : sk_H} {f to : Nat} (h : ¬ ((to : Int) < v 0 0 ∧ v 10 to = v 10 f)) : segE v f 20 to = to := by
  show (if (to : Int) < v 0 0 ∧ v 10 to = v 10 f then segE v f 19 (to + 1) else to) = _
  rw [if_neg h]
/-- the first column of the segment r further on from f -/
def stF (v : sk_H) : Nat → Nat → Int → Int
  | 0, _, _ => -1
  | m + 1, f, r => if v 0 0 ≤ f then -1 else if r ≤ 0 then (f : Int) else stF v m (segE v f 20 (f + 1)) (r - 1)
theorem segE_gt {v : sk_H} {f n to : Nat} : to ≤ segE v f n to := by
  induction n generalizing to with
  | zero => exact Nat.le_refl _
  | succ n ih =>
    unfold segE
    split
    · have := ih (to := to + 1); omega
    · exact Nat.le_refl _
theorem stF_fuel {v : sk_H} : ∀ (n m f : Nat) (r : Int), v 0 0 < f + n → v 0 0 < f + m → stF v n f r = stF v m f r := by
  intro n
  induction n with
  | zero =>
    intro m f r h1 h2
    cases m with
    | zero => rfl
    | succ m => unfold stF; rw [if_pos (by omega)]
  | succ n ih =>
    intro m f r h1 h2
    cases m with
    | zero => unfold stF; rw [if_pos (by omega)]
    | succ m =>
      unfold stF
      by_cases c1 : v 0 0 ≤ f
      · rw [if_pos c1, if_pos c1]
      rw [if_neg c1, if_neg c1]
      by_cases c2 : r ≤ 0
      · rw [if_pos c2, if_pos c2]
      rw [if_neg c2, if_neg c2]
      have := segE_gt (v := v) (f := f) (n := 20) (to := f + 1)
      exact ih m _ _ (by omega) (by omega)
theorem stF_st {v : sk_H} (h20 : v 0 0 ≤ 20) {f : Nat} (h : (f : Int) < v 0 0) {r : Int} (hr : ¬ r ≤ 0) : stF v 21 f r = stF v 21 (segE v f 20 (f + 1)) (r - 1) := by
  have := segE_gt (v := v) (f := f) (n := 20) (to := f + 1)
  show (if v 0 0 ≤ f then -1 else if r ≤ 0 then (f : Int) else stF v 20 (segE v f 20 (f + 1)) (r - 1)) = _
  rw [if_neg (by omega), if_neg hr]
  exact stF_fuel 20 21 _ _ (by omega) (by omega)
theorem stF_0 {v : sk_H} {f : Nat} (h : (f : Int) < v 0 0) {r : Int} (hr : r ≤ 0) : stF v 21 f r = f := by
  show (if v 0 0 ≤ f then -1 else if r ≤ 0 then (f : Int) else stF v 20 (segE v f 20 (f + 1)) (r - 1)) = _
  rw [if_neg (by omega), if_pos hr]
theorem stF_e {v : sk_H} {f : Nat} (h : v 0 0 ≤ f) {r : Int} : stF v 21 f r = -1 := by
  show (if v 0 0 ≤ f then -1 else if r ≤ 0 then (f : Int) else stF v 20 (segE v f 20 (f + 1)) (r - 1)) = _
  rw [if_pos h]
theorem stF_rng {v : sk_H} : ∀ (n f : Nat) (r : Int), stF v n f r = -1 ∨ ∃ c : Nat, stF v n f r = c ∧ (c : Int) < v 0 0 := by
  intro n
  induction n with
  | zero => intro f r; exact Or.inl rfl
  | succ n ih =>
    intro f r
    unfold stF
    split
    · exact Or.inl rfl
    · split
      · exact Or.inr ⟨f, rfl, by omega⟩
      · exact ih _ _
section PLC
variable {S : List sk_Sh} {I v : sk_H} {a : Nat}
theorem f_place (hS : sk_G S) (hG : GI I v) {p w : Int} (p1 : -2147483648 ≤ p) (p2 : p < 2147483648) (w1 : -2147483648 ≤ w) (w2 : w < 2147483648) : FC S I 111 186 [.int (sj p), .int (sj w)] := by
  have hG0 := hG
  obtain ⟨hv, hT, hR, hTp, hM, hRk, hSh⟩ := hG; have hV := hT.1; have ha : sk_isP 15 := Or.inl rfl; obtain ⟨n1, n2, n3, n4, n5, n6, n7, n8, n9, n10, n11, n12⟩ := hV.1
  have e39 := m39 (S := S) (I := I) (d := 19) (by omega) hS ha hv hV p1 p2
  by_cases hp : 0 ≤ p ∧ p < v 0 1
  rotate_left
  · have e148 := m148 (S := S) (I := I) (d := 19) (by omega) hS hR hV p1 p2
    rw [decide_eq_false hp] at e39 e148
    refine FC_same hG0 (-2) ?_ ?_
    · rw [sk_e111, g1_r1b hS, pl_ob hS ha, e39, sk_ci_some, if_pos cf_beq]
    · rw [sk_e186, g105_ob hS, e148, sk_ci_some, if_pos cf_beq]
  obtain ⟨n, rfl⟩ : ∃ n : Nat, p = n := ⟨p.toNat, by omega⟩
  have hp2 := hp.2
  rw [decide_eq_true hp] at e39
  obtain ⟨q1, q2, q3, q4, q5, q6, q7, q8, q9, q10, q11, q12, q13⟩ := vo_p hV (p := n) hp2
  have t77 : (77 + (n : Int)).toNat = 77 + n := by omega
  have e27 := p27 (S := S) (I := I) (d := 19) (by omega) hS ha hv hV hp2
  by_cases hw : 0 ≤ w ∧ w ≤ 3
  rotate_left
  · have e148 := m148 (S := S) (I := I) (d := 19) (by omega) hS hR hV p1 p2
    have e144 := m144 (d := 19) (by omega) (x := w) (l := 0) (h := 3) w1 w2 (by omega) (by omega) (by omega) (by omega) (w := sk_mk S I)
    rw [decide_eq_true hp] at e148
    rw [decide_eq_false hw] at e144
    refine FC_same hG0 (-2) ?_ ?_
    · rw [sk_e111, g1_r1b hS, pl_ob hS ha, e39, sk_ci_some, if_neg ct_beq]
      by_cases c : w < 0
      · rw [if_pos (ky_lt (by omega) (by omega) (by omega) (by omega) c)]
      · rw [if_neg (kn_lt (by omega) (by omega) (by omega) (by omega) (by omega)), if_neg (kn_le (by omega) (by omega) (by omega) (by omega) (by omega))]
    · rw [sk_e186, g105_ob hS, e148, sk_ci_some, if_neg ct_beq, e144, sk_ci_some, if_neg cf_bne]
  have ccl : sk_c 20 111 [.ref 1, .int (sj n), .int (sj w)] (sk_mk S I) = sk_ci (sk_c 19 27 [.ref (15 + 9 + n)] (sk_mk S I)) fun v8 w7 => if sk_cond .eq v8 (sj 0) = true then
          (sk_getr w7 1 10 4).bind fun v9 =>
          (sk_getr w7 1 10 1).bind fun v10 =>
          if sk_isO w7 v9 1 = true then
          sk_cv (sk_c 19 20 [.ref v9, .ref v10, .ref (15 + 9 + n)] w7) fun w11 =>
          (sk_getr w11 1 10 4).bind fun v12 =>
          (sk_getr w11 v12 1 0).bind fun v13 =>
          (sk_geti w11 v13 7 0).bind fun v14 =>
          if sk_cond .ne v14 (sj 0) = true then
            if Int32.toInt (sj w) = 0 then
              (sk_geti w11 v13 7 1).bind fun v15 =>
              some (some (.int v15), w11)
            else if Int32.toInt (sj w) = 1 then
              (sk_geti w11 v13 7 2).bind fun v16 =>
              some (some (.int v16), w11)
            else if Int32.toInt (sj w) = 2 then
              (sk_geti w11 v13 7 3).bind fun v17 =>
              if sk_cond .eq v17 (sj 0) = true then
                some (some (.int (sj 0)), w11)
              else
                some (some (.int (sj 1)), w11)
            else
              (sk_geti w11 v13 7 4).bind fun v18 =>
              if sk_cond .eq v18 (sj (-1)) = true then
                some (some (.int (sj 0)), w11)
              else
                some (some (.int (sj 1)), w11)
          else
            some (some (.int (sj (-1))), w11) else none
        else
          some (some (.int (sj (-3))), w7) := by
    rw [sk_e111, g1_r1b hS, pl_ob hS ha, e39, sk_ci_some, if_neg ct_beq, if_neg (kn_lt (by omega) (by omega) (by omega) (by omega) (by omega)), if_pos (ky_le (by omega) (by omega) (by omega) (by omega) (by omega)), g1_r1b hS, pl_r0b hS ha, pl_pb hS ha (by omega) (by omega), Int.toNat_natCast, pq_ob hS ha (by omega)]
  have tw : (sj w).toInt = w := sj_toInt w1 w2
  by_cases h0 : v 5 n = 0
  rotate_left
  · have e148 := m148 (S := S) (I := I) (d := 19) (by omega) hS hR hV p1 p2
    have e144 := m144 (d := 19) (by omega) (x := w) (l := 0) (h := 3) w1 w2 (by omega) (by omega) (by omega) (by omega) (w := sk_mk S I)
    rw [decide_eq_true hp] at e148
    rw [decide_eq_true hw] at e144
    rw [decide_eq_true (show v 5 n ≠ 0 from h0)] at e27
    have r5 : I 107 (77 + n) = v 5 n := (hR.2.1 n hp2).2.2.2.2.1
    refine FC_same hG0 (-3) ?_ ?_
    · rw [ccl, e27, sk_ci_some, if_neg ct_beq]
    · rw [sk_e186, g105_ob hS, e148, sk_ci_some, if_neg ct_beq, e144, sk_ci_some, if_pos ct_bne, g105_r1b hS, sj_add, g107_ab hS (by omega) (by omega), t77, r5, if_neg (kn_eq (by omega) (by omega) (by omega) (by omega) h0)]
  rw [decide_eq_false (show ¬ v 5 n ≠ 0 from fun h => h h0)] at e27
  obtain ⟨I1, e1, s1, b1, f1⟩ := m20 (S := S) (I := I) (d := 19) (by omega) hS ha hv hV hp2
  have hF1 : GF I I1 := GF.of (fun b hb => f1 b (by unfold Gb at hb; omega))
  have hR1 : RP I1 107 v := hR.fr (f1 107 (by omega))
  obtain ⟨I2, e2, s2, b2, f2⟩ := m178 (S := S) (I := I1) (d := 19) (by omega) hS hR1 hV hp2
  have hF2 : GF I1 I2 := GF.of105 f2.1 (fun k hk => f2.2 k (by omega))
  have hG2 : GI I2 v := GI_GF hG0 (hF1.trans hF2)
  have e148 := m148 (S := S) (I := I1) (d := 19) (by omega) hS hR1 hV p1 p2
  have e144 := m144 (d := 19) (by omega) (x := w) (l := 0) (h := 3) w1 w2 (by omega) (by omega) (by omega) (by omega) (w := sk_mk S I1)
  rw [decide_eq_true hp] at e148
  rw [decide_eq_true hw] at e144
  have r5 : I1 107 (77 + n) = v 5 n := (hR1.2.1 n hp2).2.2.2.2.1
  have cc : sk_c 20 111 [.ref 1, .int (sj n), .int (sj w)] (sk_mk S I) = _ := ccl
  rw [e27, sk_ci_some, if_pos cf_beq, g1_r4b hS, g1_r1b hS, g72_ob hS, e1, sk_cv_some, g1_r4b hS, g72_r0b hS, g73_i0b hS, tw] at cc
  have rr : sk_c 20 186 [.ref 105, .int (sj n), .int (sj w)] (sk_mk S I1) = _ := sk_e186 19 105 (sj n) (sj w) (sk_mk S I1)
  rw [g105_ob hS, e148, sk_ci_some, if_neg ct_beq, e144, sk_ci_some, if_pos ct_bne, g105_r1b hS, sj_add, g107_ab hS (by omega) (by omega), t77, r5, if_pos (ky_eq h0), g105_ob hS, e2, sk_ci_some, tw] at rr
  cases hf : fF v n with
  | none =>
    rw [hf] at s1 rr
    have s10 : I1 73 0 = 0 := s1
    rw [s10, if_neg (kn_ne rfl)] at cc
    rw [if_neg (show ¬ sk_cond .ne (sj (bi (none : Option sk_Q).isSome)) (sj 0) = true from cf_bne)] at rr
    exact ⟨sj (-1), I1, I2, v, cc, rr, hG2⟩
  | some q =>
    rw [hf] at s1 rr s2 b1
    obtain ⟨s10, s11, s12, s13, s14, s15⟩ := s1
    obtain ⟨g7, g8, g9, g10⟩ := s2
    obtain ⟨d1, d2, d3, d4, d5, d6, d7, d8, d9⟩ := b1
    rw [s10, if_pos (ky_ne (by omega) (by omega) (by omega) (by omega) (by omega))] at cc
    rw [if_pos (show sk_cond .ne (sj (bi (some q).isSome)) (sj 0) = true from ct_bne)] at rr
    by_cases c0 : w = 0
    · rw [if_pos c0, g73_i1b hS, s11] at cc
      rw [if_pos c0, g105_i7b hS, g7] at rr
      exact ⟨sj q.1, I1, I2, v, cc, rr, hG2⟩
    rw [if_neg c0] at cc rr
    by_cases c1 : w = 1
    · rw [if_pos c1, g73_i2b hS, s12] at cc
      rw [if_pos c1, g105_i8b hS, g8] at rr
      exact ⟨sj q.2.1, I1, I2, v, cc, rr, hG2⟩
    rw [if_neg c1] at cc rr
    by_cases c2 : w = 2
    · rw [if_pos c2, g73_i3b hS, s13] at cc
      rw [if_pos c2, g105_i9b hS, g9] at rr
      rcases d5 with h | h
      · rw [h, if_pos (ky_eq rfl)] at cc
        rw [h] at rr
        exact ⟨sj 0, I1, I2, v, cc, rr, hG2⟩
      · rw [h, if_neg (kn_eq (by omega) (by omega) (by omega) (by omega) (by omega))] at cc
        rw [h] at rr
        exact ⟨sj 1, I1, I2, v, cc, rr, hG2⟩
    rw [if_neg c2, g73_i4b hS, s14] at cc
    rw [if_neg c2, g105_i10b hS, g10] at rr
    by_cases c3 : q.2.2.2.1 = -1
    · rw [if_pos (ky_eq c3)] at cc
      rw [if_neg (kn_ne c3)] at rr
      exact ⟨sj 0, I1, I2, v, cc, rr, hG2⟩
    · rw [if_neg (kn_eq (by omega) (by omega) (by omega) (by omega) c3)] at cc
      rw [if_pos (ky_ne (by omega) (by omega) (by omega) (by omega) c3)] at rr
      exact ⟨sj 1, I1, I2, v, cc, rr, hG2⟩
theorem f_lay (hS : sk_G S) (hG : GI I v) {p : Int} (p1 : -2147483648 ≤ p) (p2 : p < 2147483648) : FC S I 112 187 [.int (sj p)] := by
  have hG0 := hG
  obtain ⟨hv, hT, hR, hTp, hM, hRk, hSh⟩ := hG; have hV := hT.1; have ha : sk_isP 15 := Or.inl rfl; obtain ⟨n1, n2, n3, n4, n5, n6, n7, n8, n9, n10, n11, n12⟩ := hV.1
  by_cases hm : p = -1
  · subst hm
    obtain ⟨I1, e1, h1, f1⟩ := m38 (S := S) (I := I) (d := 19) (by omega) hS ha hv hV
    have hR1 : RP I1 107 v := hR.fr (f1 107 (by omega))
    obtain ⟨I2, e2, h2, f2⟩ := m183 (S := S) (I := I1) (d := 19) (by omega) hS hR1 hV
    refine ⟨sj 0, I1, I2, clrV v, ?_, ?_, ?_⟩
    · rw [sk_e112, if_neg (kn_ne rfl), g1_r1b hS, pl_ob hS ha, e1, sk_cv_some]
    · rw [sk_e187, if_neg (kn_ne rfl), g105_ob hS, e2, sk_cv_some]
    · exact GI_GP hG0 ((GP.ofC f1).trans (GP.ofR f2)) ((vC_fr (fun b b1 b2 => f2 b (by omega))).trans h1) (VT_clrV hV) h2 (by rw [clr_ne _ (by omega) (by omega) (by omega)]; exact Int.le_refl _)
  have cne := ky_ne (a := p) (b := -1) (by omega) (by omega) (by omega) (by omega) hm
  have e39 := m39 (S := S) (I := I) (d := 19) (by omega) hS ha hv hV p1 p2
  by_cases hp : 0 ≤ p ∧ p < v 0 1
  rotate_left
  · have e148 := m148 (S := S) (I := I) (d := 19) (by omega) hS hR hV p1 p2
    rw [decide_eq_false hp] at e39 e148
    refine FC_same hG0 (-2) ?_ ?_
    · rw [sk_e112, if_pos cne, g1_r1b hS, pl_ob hS ha, e39, sk_ci_some, if_neg cf_bne]
    · rw [sk_e187, if_pos cne, g105_ob hS, e148, sk_ci_some, if_neg cf_bne]
  obtain ⟨n, rfl⟩ : ∃ n : Nat, p = n := ⟨p.toNat, by omega⟩
  have hp2 := hp.2
  rw [decide_eq_true hp] at e39
  obtain ⟨q1, q2, q3, q4, q5, q6, q7, q8, q9, q10, q11, q12, q13⟩ := vo_p hV (p := n) hp2
  have t77 : (77 + (n : Int)).toNat = 77 + n := by omega
  have t57 : (57 + (n : Int)).toNat = 57 + n := by omega
  have e27 := p27 (S := S) (I := I) (d := 19) (by omega) hS ha hv hV hp2
  have ccl : sk_c 20 112 [.ref 1, .int (sj n)] (sk_mk S I) = sk_ci (sk_c 19 27 [.ref (15 + 9 + n)] (sk_mk S I)) fun v8 w7 => if sk_cond .eq v8 (sj 0) = true then
        (sk_getr w7 1 10 4).bind fun v9 =>
        (sk_getr w7 1 10 1).bind fun v10 =>
        if sk_isO w7 v9 1 = true then
        sk_ci (sk_c 19 19 [.ref v9, .ref v10, .ref (15 + 9 + n)] w7) fun v12 w11 =>
        if sk_cond .eq v12 (sj 0) = true then
          some (some (.int (sj (-1))), w11)
        else
          (sk_geti w11 (15 + 9 + n) 2 6).bind fun v13 =>
          some (some (.int v13), w11) else none
      else
        some (some (.int (sj (-3))), w7) := by
    rw [sk_e112, if_pos cne, g1_r1b hS, pl_ob hS ha, e39, sk_ci_some, if_pos ct_bne, g1_r1b hS, pl_r0b hS ha, pl_pb hS ha (by omega) (by omega), Int.toNat_natCast, pq_ob hS ha (by omega)]
  by_cases h0 : v 5 n = 0
  rotate_left
  · have e148 := m148 (S := S) (I := I) (d := 19) (by omega) hS hR hV p1 p2
    rw [decide_eq_true hp] at e148
    rw [decide_eq_true (show v 5 n ≠ 0 from h0)] at e27
    have r5 : I 107 (77 + n) = v 5 n := (hR.2.1 n hp2).2.2.2.2.1
    refine FC_same hG0 (-3) ?_ ?_
    · rw [ccl, e27, sk_ci_some, if_neg ct_beq]
    · rw [sk_e187, if_pos cne, g105_ob hS, e148, sk_ci_some, if_pos ct_bne, g105_r1b hS, sj_add, g107_ab hS (by omega) (by omega), t77, r5, if_neg (kn_eq (by omega) (by omega) (by omega) (by omega) h0)]
  rw [decide_eq_false (show ¬ v 5 n ≠ 0 from fun h => h h0)] at e27
  obtain ⟨I1, e1, s1, b1, f1⟩ := m20 (S := S) (I := I) (d := 18) (by omega) hS ha hv hV hp2
  have hv1 : vC I1 15 = v := (vC_fr (fun b b1 b2 => f1 b (by omega))).trans hv
  rw [e27, sk_ci_some, if_pos cf_beq, g1_r4b hS, g1_r1b hS, g72_ob hS] at ccl
  cases hf : fF v n with
  | none =>
    rw [hf] at s1
    have s10 : I1 73 0 = 0 := s1
    have e19 : sk_c 19 19 [.ref 72, .ref 15, .ref (15 + 9 + n)] (sk_mk S I) = some (some (.int (sj 0)), sk_mk S I1) := by
      rw [sk_e19, g72_ob hS, e1, sk_cv_some, g72_r0b hS, g73_i0b hS, s10, if_pos (ky_eq rfl), g72_r0b hS, g73_i0b hS, s10, if_pos (by decide)]
    have hF1 : GF I I1 := GF.of (fun b hb => f1 b (by unfold Gb at hb; omega))
    have hR1 : RP I1 107 v := hR.fr (f1 107 (by omega))
    obtain ⟨I2, e2, h2, f2, -⟩ := m182 (S := S) (I := I1) (d := 19) (by omega) hS hR1 hT hp2 h0
    have e148 := m148 (S := S) (I := I1) (d := 19) (by omega) hS hR1 hV p1 p2
    rw [decide_eq_true hp] at e148
    have r5 : I1 107 (77 + n) = v 5 n := (hR1.2.1 n hp2).2.2.2.2.1
    have hlay : layV v n = v := by unfold layV; rw [hf]
    rw [hf] at e2
    rw [hlay] at h2
    refine ⟨sj (-1), I1, I2, v, ?_, ?_, ?_⟩
    · rw [ccl, e19, sk_ci_some, if_pos (ky_eq rfl)]
    · rw [sk_e187, if_pos cne, g105_ob hS, e148, sk_ci_some, if_pos ct_bne, g105_r1b hS, sj_add, g107_ab hS (by omega) (by omega), t77, r5, if_pos (ky_eq h0), g105_ob hS, e2, sk_ci_some, if_pos (show sk_cond .eq (sj (bi (none : Option sk_Q).isSome)) (sj 0) = true from cf_beq)]
    · exact GI_GP hG0 (hF1.gp.trans (GP.ofFS f2)) ((vC_fr (fun b b1 b2 => f2.1 b (by omega) (by omega))).trans hv1) hT h2 (Int.le_refl _)
  | some q =>
    rw [hf] at s1
    have hFQ := fF_FQ hf
    obtain ⟨I2, e2, h2, f2⟩ := m23 (S := S) (I := I1) (d := 18) (by omega) hS ha hv1 hT hp2 h0 hFQ s1
    have s10 : I1 73 0 = 1 := s1.1
    have s20 : I2 73 0 = 1 := by rw [f2 73 (by omega)]; exact s10
    have e19 : sk_c 19 19 [.ref 72, .ref 15, .ref (15 + 9 + n)] (sk_mk S I) = some (some (.int (sj 1)), sk_mk S I2) := by
      rw [sk_e19, g72_ob hS, e1, sk_cv_some, g72_r0b hS, g73_i0b hS, s10, if_neg (kn_eq (by omega) (by omega) (by omega) (by omega) (by omega)), g72_ob hS, e2, sk_cv_some, g72_r0b hS, g73_i0b hS, s20, if_pos (by decide)]
    have hR2 : RP I2 107 v := hR.fr ((f2 107 (by omega)).trans (f1 107 (by omega)))
    obtain ⟨I3, e3, h3, f3, -⟩ := m182 (S := S) (I := I2) (d := 19) (by omega) hS hR2 hT hp2 h0
    have hlay : layV v n = setV v n q := by unfold layV; rw [hf]
    rw [hlay] at h3
    rw [hf] at e3
    have e148 := m148 (S := S) (I := I2) (d := 19) (by omega) hS hR2 hV p1 p2
    rw [decide_eq_true hp] at e148
    have r5 : I2 107 (77 + n) = v 5 n := (hR2.2.1 n hp2).2.2.2.2.1
    have hTs := VT_setV hT hp2 h0 hFQ
    have c01 : setV v n q 0 1 = v 0 1 := set_same v n q (by omega) (by omega) (by omega)
    -- its height, both ways
    have h6 : I2 (15 + 9 + n) 6 = setV v n q 7 n := vp6 h2 (by omega)
    have h5s : setV v n q 5 n ≠ 0 := by
      unfold setV
      by_cases c : q.2.2.2.1 = -1
      · rw [if_pos c, raisV_z _ _ _ _ _ (by omega) (by omega), (lie_at v n q.1 q.2.1 q.2.2.1 2).2.2.2.1]; decide
      · rw [if_neg c]
        unfold cornV
        rw [wAdd_same _ _ _ _ _ (by omega) (by omega), wAdd_same _ _ _ _ _ (by omega) (by omega), dropV_same _ _ (by omega) (by omega), (lie_at v n q.1 q.2.1 q.2.2.1 3).2.2.2.1]; decide
    have h7 : I3 107 (57 + n) = setV v n q 7 n := ((h3.2.1 n (by rw [c01]; exact hp2)).2.2.2.2.2 h5s).2.1
    refine ⟨sj (setV v n q 7 n), I2, I3, setV v n q, ?_, ?_, ?_⟩
    · rw [ccl, e19, sk_ci_some, if_neg (kn_eq (by omega) (by omega) (by omega) (by omega) (by omega)), pq_i6b hS ha (by omega), h6]
    · rw [sk_e187, if_pos cne, g105_ob hS, e148, sk_ci_some, if_pos ct_bne, g105_r1b hS, sj_add, g107_ab hS (by omega) (by omega), t77, r5, if_pos (ky_eq h0), g105_ob hS, e3, sk_ci_some, if_neg (show ¬ sk_cond .eq (sj (bi (some q).isSome)) (sj 0) = true from ct_beq), g105_r1b hS, sj_add, g107_ab hS (by omega) (by omega), t57, h7]
    · have hgp : GP I I2 := (GF.of (fun b hb => f1 b (by unfold Gb at hb; omega)) : GF I I1).gp.trans (GP.ofC f2)
      exact GI_GP hG0 (hgp.trans (GP.ofFS f3)) ((vC_fr (fun b b1 b2 => f3.1 b (by omega) (by omega))).trans h2) hTs h3 (by rw [c01]; exact Int.le_refl _)
theorem f_run (hS : sk_G S) (hG : GI I v) : FC S I 113 188 [] := by
  have hG0 := hG
  obtain ⟨hv, hT, hR, hTp, hM, hRk, hSh⟩ := hG; have hV := hT.1; have ha : sk_isP 15 := Or.inl rfl; obtain ⟨n1, n2, n3, n4, n5, n6, n7, n8, n9, n10, n11, n12⟩ := hV.1
  obtain ⟨I1, e1, h1, f1⟩ := m18 (S := S) (I := I) (d := 19) (by omega) hS ha hv hV
  have hR1 : RP I1 107 v := hR.fr (f1 107 (by omega) (by omega))
  obtain ⟨I2, e2, h2, f2⟩ := m184 (S := S) (I := I1) (d := 19) (by omega) hS hR1 hV
  obtain ⟨t1, t2, t3, t4⟩ := rnV_inv hV
  refine ⟨sj (rnV v).2, I1, I2, (rnV v).1, ?_, ?_, ?_⟩
  · rw [sk_e113, g1_r4b hS, g1_r1b hS, g72_ob hS, e1, sk_ci_some]
  · rw [sk_e188, g105_ob hS, e2, sk_ci_some]
  · exact GI_GP hG0 ((GP.ofFA f1).trans (GP.ofFS f2)) ((vC_fr (fun b b1 b2 => f2.1 b (by omega) (by omega))).trans h1) t1 h2 (by rw [t2 0 1 (by omega) (by omega)]; exact Int.le_refl _)
theorem m49 {d : Nat} (hd : 2 ≤ d) (hS : sk_G S) (ha : sk_isP a) (hv : vC I a = v) (hV : VO v) {k : Int} (k0 : 0 ≤ k) (k2 : k < 2147483648) : sk_c d 49 [.ref a, .int (sj k)] (sk_mk S I) = some (some (.int (sj (stF v 21 0 k))), sk_mk S I) := by
  obtain ⟨n1, n2, n3, n4, n5, n6, n7, n8, n9, n10, n11, n12⟩ := hV.1
  obtain ⟨d, rfl⟩ : ∃ e, d = e + 1 := ⟨d - 1, by omega⟩; rw [sk_e49]
  have key : ∀ (m f : Nat) (s : Int), v 0 0 < f + m → (f : Int) ≤ v 0 0 → 0 ≤ s → s ≤ k → sk_D49 d 4 [some (.ref a), some (.int (sj k)), some (.int (sj (f : Int))), some (.int (sj s))] [] (sk_mk S I) = some (some (.int (sj (stF v 21 f (k - s)))), sk_mk S I) := by
    intro m
    induction m with
    | zero => intro f s h1 h2; omega
    | succ m ih =>
      intro f s h1 h2 h3 h4
      rw [sk_e49_4, pl_i4b hS ha, vc4 hv]
      by_cases c1 : v 0 0 ≤ f
      · rw [stF_e c1]
        by_cases c2 : k ≤ s
        · rw [if_pos (ky_ge (by omega) (by omega) (by omega) (by omega) c2), if_pos (ky_ge (by omega) (by omega) (by omega) (by omega) c1)]
        · rw [if_neg (kn_ge (by omega) (by omega) (by omega) (by omega) (by omega)), pl_i4b hS ha, vc4 hv, if_pos (ky_ge (by omega) (by omega) (by omega) (by omega) c1), if_pos (ky_ge (by omega) (by omega) (by omega) (by omega) c1)]
      · by_cases c2 : k ≤ s
        · rw [if_pos (ky_ge (by omega) (by omega) (by omega) (by omega) c2), if_neg (kn_ge (by omega) (by omega) (by omega) (by omega) (by omega)), stF_0 (by omega) (by omega)]
        · have e50 := m50 (S := S) (I := I) (d := d) (by omega) hS ha hv hV (f := f) (by omega)
          have hg := segE_gt (v := v) (f := f) (n := 20) (to := f + 1)
          have hl := (segE_le v f 20 (f + 1) (by omega)).2
          rw [if_neg (kn_ge (by omega) (by omega) (by omega) (by omega) (by omega)), pl_i4b hS ha, vc4 hv, if_neg (kn_ge (by omega) (by omega) (by omega) (by omega) (by omega)), pl_ob hS ha, e50, sk_ci_some, sj_add, ih (segE v f 20 (f + 1)) (s + 1) (by omega) hl (by omega) (by omega), show k - (s + 1) = k - s - 1 by omega, stF_st (f := f) (r := k - s) n2 (by omega) (by omega)]
  have := key 21 0 0 (by omega) (by omega) (by omega) k0
  rw [show k - 0 = k by omega] at this
  exact this
def skyA (v : sk_H) (w : Int) (c : Int) : Int := if c = -1 then -12 else if w = 0 then c else if w = 1 then (segE v c.toNat 20 (c.toNat + 1) : Int) - c else v 10 c.toNat
theorem r189_c {d : Nat} (hd : 2 ≤ d + 1) (hS : sk_G S) (hR : RP I 107 v) (hV : VO v) {w : Int} (w1 : 0 ≤ w) (w2 : w ≤ 2) {c : Nat} (hc : (c : Int) < v 0 0) (o1 o3 : Option Value) : sk_D189 d 70 [some (.ref 105), o1, some (.int (sj w)), o3, some (.int (sj (c : Int))), some (.int (sj (c : Int)))] [] (sk_mk S I) = some (some (.int (sj (skyA v w c))), sk_mk S I) := by
  obtain ⟨n1, n2, n3, n4, n5, n6, n7, n8, n9, n10, n11, n12⟩ := hV.1
  have z0 : (0 : Int).toNat = 0 := rfl
  have r0 : I 107 0 = v 0 0 := hR.1 0 (by omega)
  have tc : (97 + (c : Int)).toNat = 97 + c := by omega
  have rc : I 107 (97 + c) = v 10 c := hR.2.2.2.1 c hc
  have hEc := hV.2.2.2.1 c hc
  have key : ∀ m e : Nat, v 0 0 ≤ e + m → c ≤ e → (e : Int) ≤ v 0 0 → sk_D189 d 70 [some (.ref 105), o1, some (.int (sj w)), o3, some (.int (sj (c : Int))), some (.int (sj (e : Int)))] [] (sk_mk S I) = sk_D189 d 110 [some (.ref 105), o1, some (.int (sj w)), o3, some (.int (sj (c : Int))), some (.int (sj ((segE v c 20 e : Nat) : Int)))] [] (sk_mk S I) := by
    intro m
    induction m with
    | zero =>
      intro e h1 h2 h3
      rw [sk_e189_70, g105_r1b hS, g107_ab hS (by omega) (by omega), z0, r0, if_pos (ky_ge (by omega) (by omega) (by omega) (by omega) (by omega)), segE_no (by omega)]
    | succ m ih =>
      intro e h1 h2 h3
      by_cases ce : (e : Int) < v 0 0
      · have re : I 107 (97 + e) = v 10 e := hR.2.2.2.1 e ce
        have te : (97 + (e : Int)).toNat = 97 + e := by omega
        have t1 : (e : Int) + 1 = ((e + 1 : Nat) : Int) := rfl
        have hEe := hV.2.2.2.1 e ce
        rw [sk_e189_70, g105_r1b hS, g107_ab hS (by omega) (by omega), z0, r0, if_neg (kn_ge (by omega) (by omega) (by omega) (by omega) (by omega)), g105_r1b hS, sj_add, g107_ab hS (by omega) (by omega), te, re, g105_r1b hS, sj_add, g107_ab hS (by omega) (by omega), tc, rc]
        by_cases c2 : v 10 e = v 10 c
        · rw [if_neg (kn_ne c2), sj_add, t1, ih (e + 1) (by omega) (by omega) (by omega), segE_st n2 ⟨ce, c2⟩]
        · rw [if_pos (ky_ne (by omega) (by omega) (by omega) (by omega) c2), segE_no (fun h => c2 h.2)]
      · rw [sk_e189_70, g105_r1b hS, g107_ab hS (by omega) (by omega), z0, r0, if_pos (ky_ge (by omega) (by omega) (by omega) (by omega) (by omega)), segE_no (by omega)]
  have hs := segE_st (v := v) (f := c) (to := c) n2 ⟨hc, rfl⟩
  have hl := (segE_le v c 20 (c + 1) (by omega)).2
  rw [key 20 c (by omega) (Nat.le_refl _) (by omega), hs, sk_e189_110]
  unfold skyA
  rw [if_neg (show ¬ ((c : Nat) : Int) = -1 by omega), Int.toNat_natCast]
  by_cases c0 : w = 0
  · rw [if_neg (kn_ne c0), if_pos c0]
  rw [if_pos (ky_ne (by omega) (by omega) (by omega) (by omega) c0), if_neg c0]
  by_cases c1 : w = 1
  · rw [if_neg (kn_ne c1), if_pos c1, sj_sub]
  · rw [if_pos (ky_ne (by omega) (by omega) (by omega) (by omega) c1), if_neg c1, g105_r1b hS, sj_add, g107_ab hS (by omega) (by omega), tc, rc]
theorem r189_k {d : Nat} (hd : 2 ≤ d + 1) (hS : sk_G S) (hR : RP I 107 v) (hV : VO v) {w : Int} (w1 : 0 ≤ w) (w2 : w ≤ 2) {k : Int} (k0 : 0 ≤ k) (k2 : k < 2147483648) : sk_D189 d 17 [some (.ref 105), some (.int (sj k)), some (.int (sj w)), some (.int (sj 0)), some (.int (sj 0)), none] [] (sk_mk S I) = some (some (.int (sj (skyA v w (stF v 21 0 k)))), sk_mk S I) := by
  obtain ⟨n1, n2, n3, n4, n5, n6, n7, n8, n9, n10, n11, n12⟩ := hV.1
  have z0 : (0 : Int).toNat = 0 := rfl
  have r0 : I 107 0 = v 0 0 := hR.1 0 (by omega)
  -- at a segment's first column, or behind the last
  have key : ∀ (m c f : Nat) (n : Int), v 0 0 ≤ c + m → f < c → (c : Int) ≤ v 0 0 → (∀ j, f ≤ j → j < c → v 10 j = v 10 f) → 0 ≤ n → n ≤ c → n ≤ k → sk_D189 d 17 [some (.ref 105), some (.int (sj k)), some (.int (sj w)), some (.int (sj n)), some (.int (sj (c : Int))), none] [] (sk_mk S I) = some (some (.int (sj (skyA v w (stF v 21 (segE v f 20 c) (k - n))))), sk_mk S I) := by
    intro m
    induction m with
    | zero =>
      intro c f n h1 h2 h3 h4 h5 h6 h7
      rw [sk_e189_17, g105_r1b hS, g107_ab hS (by omega) (by omega), z0, r0, if_pos (ky_ge (by omega) (by omega) (by omega) (by omega) (by omega)), if_pos (ky_ne (by omega) (by omega) (by omega) (by omega) (by omega)), segE_no (by omega), stF_e (by omega)]
      rfl
    | succ m ih =>
      intro c f n h1 h2 h3 h4 h5 h6 h7
      by_cases hc : (c : Int) < v 0 0
      · have rc : I 107 (97 + c) = v 10 c := hR.2.2.2.1 c hc
        have rd : I 107 (97 + (c - 1)) = v 10 (c - 1) := hR.2.2.2.1 (c - 1) (by omega)
        have tc : (97 + (c : Int)).toNat = 97 + c := by omega
        have td : (97 + (c : Int) - 1).toNat = 97 + (c - 1) := by omega
        have t1 : (c : Int) + 1 = ((c + 1 : Nat) : Int) := rfl
        have hEc := hV.2.2.2.1 c hc
        have hEd := hV.2.2.2.1 (c - 1) (by omega)
        have hdf : v 10 (c - 1) = v 10 f := h4 (c - 1) (by omega) (by omega)
        rw [sk_e189_17, g105_r1b hS, g107_ab hS (by omega) (by omega), z0, r0, if_neg (kn_ge (by omega) (by omega) (by omega) (by omega) (by omega)), if_neg (kn_le (by omega) (by omega) (by omega) (by omega) (by omega)), g105_r1b hS, sj_add, g107_ab hS (by omega) (by omega), tc, rc, g105_r1b hS, sj_add, sj_sub, g107_ab hS (by omega) (by omega), td, rd, sj_add, t1]
        by_cases c2 : v 10 c = v 10 (c - 1)
        · rw [if_neg (kn_ne c2), ih (c + 1) f n (by omega) (by omega) (by omega) (fun j j1 j2 => by
            by_cases e : j = c
            · rw [e, c2, hdf]
            · exact h4 j j1 (by omega)) h5 (by omega) h7, segE_st n2 ⟨hc, by rw [c2, hdf]⟩]
        · rw [if_pos (ky_ne (by omega) (by omega) (by omega) (by omega) c2), segE_no (fun h => c2 (by rw [h.2, hdf]))]
          by_cases c3 : n = k
          · rw [if_neg (kn_ne c3), r189_c hd hS hR hV w1 w2 hc, stF_0 hc (by omega)]
          · rw [if_pos (ky_ne (by omega) (by omega) (by omega) (by omega) c3), ih (c + 1) c (n + 1) (by omega) (by omega) (by omega) (fun j j1 j2 => by rw [show j = c by omega]) (by omega) (by omega) (by omega), stF_st n2 hc (by omega)]
            congr 7
            omega
      · rw [sk_e189_17, g105_r1b hS, g107_ab hS (by omega) (by omega), z0, r0, if_pos (ky_ge (by omega) (by omega) (by omega) (by omega) (by omega)), if_pos (ky_ne (by omega) (by omega) (by omega) (by omega) (by omega)), segE_no (by omega), stF_e (by omega)]
        rfl
  have t1 : (0 : Int) + 1 = ((0 + 1 : Nat) : Int) := rfl
  rw [sk_e189_17, g105_r1b hS, g107_ab hS (by omega) (by omega), z0, r0, if_neg (kn_ge (by omega) (by omega) (by omega) (by omega) (by omega)), if_pos (ky_le (by omega) (by omega) (by omega) (by omega) (by omega))]
  by_cases c3 : (0 : Int) = k
  · rw [if_neg (kn_ne c3)]
    have := r189_c (S := S) (I := I) hd hS hR hV w1 w2 (c := 0) (by omega) (some (.int (sj k))) (some (.int (sj 0)))
    rw [stF_0 (by omega) (by omega)]
    exact this
  · rw [if_pos (ky_ne (by omega) (by omega) (by omega) (by omega) c3), sj_add]
    have := key 20 1 0 1 (by omega) (by omega) (by omega) (fun j j1 j2 => by rw [show j = 0 by omega]) (by omega) (by omega) (by omega)
    rw [stF_st n2 (by omega) (by omega)]
    exact this
theorem r189_n {d : Nat} (hd : 2 ≤ d + 1) (hS : sk_G S) (hR : RP I 107 v) (hV : VO v) {w : Int} (w1 : 0 ≤ w) (w2 : w ≤ 2) {k : Int} (k0 : k < 0) (k1 : -2147483648 ≤ k) : sk_D189 d 17 [some (.ref 105), some (.int (sj k)), some (.int (sj w)), some (.int (sj 0)), some (.int (sj 0)), none] [] (sk_mk S I) = some (some (.int (sj (if k = -1 then segN v else -12))), sk_mk S I) := by
  obtain ⟨n1, n2, n3, n4, n5, n6, n7, n8, n9, n10, n11, n12⟩ := hV.1
  have z0 : (0 : Int).toNat = 0 := rfl
  have r0 : I 107 0 = v 0 0 := hR.1 0 (by omega)
  obtain ⟨hi, e⟩ := lp_fold0 (fun c s => sk_D189 d 17 [some (.ref 105), some (.int (sj k)), some (.int (sj w)), some (.int (sj (1 + s))), some (.int (sj (1 + (c : Int)))), none] [] (sk_mk S I)) (fun c s => if decide (v 10 (c + 1) ≠ v 10 c) = true then s + 1 else s) ((v 0 0).toNat - 1) (fun c s => 0 ≤ s ∧ s ≤ c) (fun c s hk hs => by
    have hE := hV.2.2.2.1 c (by omega)
    have hE2 := hV.2.2.2.1 (c + 1) (by omega)
    have rc : I 107 (97 + (c + 1)) = v 10 (c + 1) := hR.2.2.2.1 (c + 1) (by omega)
    have rd : I 107 (97 + c) = v 10 c := hR.2.2.2.1 c (by omega)
    have tc : (97 + (1 + (c : Int))).toNat = 97 + (c + 1) := by omega
    have td : (97 + (1 + (c : Int)) - 1).toNat = 97 + c := by omega
    have t1 : 1 + (c : Int) + 1 = 1 + ((c + 1 : Nat) : Int) := by omega
    refine ⟨by split <;> omega, ?_⟩
    rw [sk_e189_17, g105_r1b hS, g107_ab hS (by omega) (by omega), z0, r0, if_neg (kn_ge (by omega) (by omega) (by omega) (by omega) (by omega)), if_neg (kn_le (by omega) (by omega) (by omega) (by omega) (by omega)), g105_r1b hS, sj_add 97, g107_ab hS (by omega) (by omega), tc, rc, g105_r1b hS, sj_sub, g107_ab hS (by omega) (by omega), td, rd]
    simp only [sj_add, t1]
    by_cases c2 : v 10 (c + 1) = v 10 c
    · rw [if_neg (kn_ne c2), if_neg (show ¬ (decide (v 10 (c + 1) ≠ v 10 c) = true) by simp [c2])]
    · rw [if_pos (ky_ne (by omega) (by omega) (by omega) (by omega) c2), if_pos (show decide (v 10 (c + 1) ≠ v 10 c) = true by simp [c2]), if_pos (ky_ne (by omega) (by omega) (by omega) (by omega) (by omega)), Int.add_assoc]) 0 ⟨by omega, by omega⟩
  have hc := cntTo_rng ((v 0 0).toNat - 1) (fun c => decide (v 10 (c + 1) ≠ v 10 c))
  rw [sk_e189_17, g105_r1b hS, g107_ab hS (by omega) (by omega), z0, r0, if_neg (kn_ge (by omega) (by omega) (by omega) (by omega) (by omega)), if_pos (ky_le (by omega) (by omega) (by omega) (by omega) (by omega)), if_pos (ky_ne (by omega) (by omega) (by omega) (by omega) (by omega)), sj_add]
  refine e.trans ?_
  rw [sk_e189_17, g105_r1b hS, g107_ab hS (by omega) (by omega), z0, r0, if_pos (ky_ge (by omega) (by omega) (by omega) (by omega) (by omega))]
  by_cases c : k = -1
  · rw [if_neg (kn_ne c), if_pos c]
    rfl
  · rw [if_pos (ky_ne (by omega) (by omega) (by omega) (by omega) c), if_neg c]
theorem f_sky (hS : sk_G S) (hG : GI I v) {k w : Int} (p1 : -2147483648 ≤ k) (p2 : k < 2147483648) (w1 : -2147483648 ≤ w) (w2 : w < 2147483648) : FC S I 114 189 [.int (sj k), .int (sj w)] := by
  have hG0 := hG
  obtain ⟨hv, hT, hR, hTp, hM, hRk, hSh⟩ := hG; have hV := hT.1; have ha : sk_isP 15 := Or.inl rfl; obtain ⟨n1, n2, n3, n4, n5, n6, n7, n8, n9, n10, n11, n12⟩ := hV.1
  have e144 := m144 (d := 19) (by omega) (x := w) (l := 0) (h := 2) w1 w2 (by omega) (by omega) (by omega) (by omega) (w := sk_mk S I)
  by_cases hw : 0 ≤ w ∧ w ≤ 2
  rotate_left
  · rw [decide_eq_false hw] at e144
    refine FC_same hG0 (-2) ?_ ?_
    · rw [sk_e114]
      by_cases c : w < 0
      · rw [if_pos (ky_lt (by omega) (by omega) (by omega) (by omega) c)]
      · rw [if_neg (kn_lt (by omega) (by omega) (by omega) (by omega) (by omega)), if_neg (kn_le (by omega) (by omega) (by omega) (by omega) (by omega))]
    · rw [sk_e189, e144, sk_ci_some, if_neg cf_bne]
  rw [decide_eq_true hw] at e144
  by_cases k0 : 0 ≤ k
  · have e49 := m49 (S := S) (I := I) (d := 19) (by omega) hS ha hv hV k0 p2
    refine FC_same hG0 (skyA v w (stF v 21 0 k)) ?_ ?_
    · rw [sk_e114, if_neg (kn_lt (by omega) (by omega) (by omega) (by omega) (by omega)), if_pos (ky_le (by omega) (by omega) (by omega) (by omega) (by omega)), if_pos (ky_ne (by omega) (by omega) (by omega) (by omega) (by omega)), if_pos (ky_ge (by omega) (by omega) (by omega) (by omega) (by omega)), g1_r1b hS, pl_ob hS ha, e49, sk_ci_some, sk_e114_41]
      rcases stF_rng (v := v) 21 0 k with h | ⟨c, h, hc⟩
      · rw [h, if_neg (kn_ne rfl)]
        rfl
      · have e50 := m50 (S := S) (I := I) (d := 19) (by omega) hS ha hv hV hc
        rw [h, if_pos (ky_ne (by omega) (by omega) (by omega) (by omega) (by omega))]
        unfold skyA
        rw [if_neg (show ¬ ((c : Nat) : Int) = -1 by omega), Int.toNat_natCast]
        by_cases c0 : w = 0
        · rw [if_neg (kn_ne c0), if_pos c0]
        rw [if_pos (ky_ne (by omega) (by omega) (by omega) (by omega) c0), if_neg c0]
        by_cases c1 : w = 1
        · rw [if_neg (kn_ne c1), if_pos c1, g1_r1b hS, pl_ob hS ha, e50, sk_ci_some, sj_sub]
        · rw [if_pos (ky_ne (by omega) (by omega) (by omega) (by omega) c1), if_neg c1, g1_r1b hS, pl_r2b hS ha, ps_ab hS ha (by omega) (by omega), Int.toNat_natCast, vs_ hv]
    · rw [sk_e189, e144, sk_ci_some, if_pos ct_bne]
      exact r189_k (by omega) hS hR hV hw.1 hw.2 k0 p2
  · have e189 := r189_n (S := S) (I := I) (d := 19) (by omega) hS hR hV hw.1 hw.2 (k := k) (by omega) p1
    refine FC_same hG0 (if k = -1 then segN v else -12) ?_ ?_
    · rw [sk_e114, if_neg (kn_lt (by omega) (by omega) (by omega) (by omega) (by omega)), if_pos (ky_le (by omega) (by omega) (by omega) (by omega) (by omega))]
      by_cases c : k = -1
      · have e48 := m48 (S := S) (I := I) (d := 19) (by omega) hS ha hv hV
        rw [if_neg (kn_ne c), if_pos c, g1_r1b hS, pl_ob hS ha, e48, sk_ci_some]
      · rw [if_pos (ky_ne (by omega) (by omega) (by omega) (by omega) c), if_neg c, if_neg (kn_ge (by omega) (by omega) (by omega) (by omega) (by omega)), sk_e114_41, if_neg (kn_ne rfl)]
    · rw [sk_e189, e144, sk_ci_some, if_pos ct_bne]
      exact e189
theorem f_waste (hS : sk_G S) (hG : GI I v) {k w : Int} (p1 : -2147483648 ≤ k) (p2 : k < 2147483648) (w1 : -2147483648 ≤ w) (w2 : w < 2147483648) : FC S I 115 190 [.int (sj k), .int (sj w)] := by
  have hG0 := hG
  obtain ⟨hv, hT, hR, hTp, hM, hRk, hSh⟩ := hG; have hV := hT.1; have ha : sk_isP 15 := Or.inl rfl; obtain ⟨n1, n2, n3, n4, n5, n6, n7, n8, n9, n10, n11, n12⟩ := hV.1
  have e144 := m144 (d := 19) (by omega) (x := w) (l := 0) (h := 3) w1 w2 (by omega) (by omega) (by omega) (by omega) (w := sk_mk S I)
  by_cases hw : 0 ≤ w ∧ w ≤ 3
  rotate_left
  · rw [decide_eq_false hw] at e144
    refine FC_same hG0 (-2) ?_ ?_
    · rw [sk_e115]
      by_cases c : w < 0
      · rw [if_pos (ky_lt (by omega) (by omega) (by omega) (by omega) c)]
      · rw [if_neg (kn_lt (by omega) (by omega) (by omega) (by omega) (by omega)), if_neg (kn_le (by omega) (by omega) (by omega) (by omega) (by omega))]
    · rw [sk_e190, e144, sk_ci_some, if_neg cf_bne]
  rw [decide_eq_true hw] at e144
  have z5 : (5 : Int).toNat = 5 := rfl
  have r5 : I 107 5 = v 0 5 := hR.1 5 (by omega)
  have cc := sk_e115 19 1 (sj k) (sj w) (sk_mk S I)
  have rr := sk_e190 19 105 (sj k) (sj w) (sk_mk S I)
  rw [if_neg (kn_lt (by omega) (by omega) (by omega) (by omega) (by omega)), if_pos (ky_le (by omega) (by omega) (by omega) (by omega) (by omega)), g1_r1b hS, pl_r3b hS ha] at cc
  rw [e144, sk_ci_some, if_pos ct_bne] at rr
  by_cases c : k = -1
  · rw [if_neg (kn_ne c), pw_i4b hS ha, vcz hv] at cc
    rw [if_neg (kn_ne c), g105_r1b hS, g107_ab hS (by omega) (by omega), z5, r5] at rr
    exact FC_same hG0 _ cc rr
  have e144k := m144 (d := 19) (by omega) (x := k) (l := 0) (h := v 0 5 - 1) p1 p2 (by omega) (by omega) (by omega) (by omega) (w := sk_mk S I)
  rw [if_pos (ky_ne (by omega) (by omega) (by omega) (by omega) c)] at cc
  rw [if_pos (ky_ne (by omega) (by omega) (by omega) (by omega) c), g105_r1b hS, g107_ab hS (by omega) (by omega), z5, r5, sj_sub, e144k, sk_ci_some] at rr
  by_cases hk : 0 ≤ k ∧ k ≤ v 0 5 - 1
  · obtain ⟨n, rfl⟩ : ∃ n : Nat, k = n := ⟨k.toNat, by omega⟩
    have hn : (n : Int) < v 0 5 := by omega
    rw [if_neg (kn_lt (by omega) (by omega) (by omega) (by omega) (by omega)), pw_i4b hS ha, vcz hv, if_pos (ky_lt (by omega) (by omega) (by omega) (by omega) hn), sj_toInt w1 w2] at cc
    obtain ⟨j, rfl⟩ : ∃ j : Nat, w = j := ⟨w.toNat, by omega⟩
    have tj : (117 + 4 * (n : Int) + (j : Int)).toNat = 117 + 4 * n + j := by omega
    have rj : I 107 (117 + 4 * n + j) = v (11 + j) n := RP_w hR hn (by omega)
    rw [decide_eq_true hk, if_neg ct_beq, g105_r1b hS, sj_mul, sj_add, sj_add, g107_ab hS (by omega) (by omega), tj, rj] at rr
    refine FC_same hG0 (v (11 + j) n) ?_ rr
    have hj : j = 0 ∨ j = 1 ∨ j = 2 ∨ j = 3 := by omega
    rcases hj with rfl | rfl | rfl | rfl
    · rw [if_pos (by decide), pw_r0b hS ha, pw0_ab hS ha (by omega) (by omega), Int.toNat_natCast, vx0 hv] at cc
      exact cc
    · rw [if_neg (by decide), if_pos (by decide), pw_r1b hS ha, pw1_ab hS ha (by omega) (by omega), Int.toNat_natCast, vx1 hv] at cc
      exact cc
    · rw [if_neg (by decide), if_neg (by decide), if_pos (by decide), pw_r2b hS ha, pw2_ab hS ha (by omega) (by omega), Int.toNat_natCast, vx2 hv] at cc
      exact cc
    · rw [if_neg (by decide), if_neg (by decide), if_neg (by decide), pw_r3b hS ha, pw3_ab hS ha (by omega) (by omega), Int.toNat_natCast, vx3 hv] at cc
      exact cc
  · rw [decide_eq_false hk, if_pos cf_beq] at rr
    refine FC_same hG0 (-12) ?_ rr
    by_cases c1 : k < 0
    · rw [if_pos (ky_lt (by omega) (by omega) (by omega) (by omega) c1)] at cc
      exact cc
    · rw [if_neg (kn_lt (by omega) (by omega) (by omega) (by omega) (by omega)), pw_i4b hS ha, vcz hv, if_neg (kn_lt (by omega) (by omega) (by omega) (by omega) (by omega))] at cc
      exact cc
end PLC
