/-! ===== moved; sheets ===== -/
theorem cpy_at {J : sk_H} {x y sp dp m k : Nat} (h1 : dp ≤ k) (h2 : k < dp + m) : cpy2 J x sp y dp m y k = J x (sp + (k - dp)) := by
  unfold cpy2
  rw [if_pos ⟨rfl, h1, h2⟩]
theorem cpy_no {J : sk_H} {x y sp dp m k : Nat} (h : ¬ (dp ≤ k ∧ k < dp + m)) : cpy2 J x sp y dp m y k = J y k := by
  unfold cpy2
  rw [if_neg (fun q => h q.2)]
theorem cpy_ne {J : sk_H} {x y sp dp m c : Nat} (hc : c ≠ y) : cpy2 J x sp y dp m c = J c := by
  funext k
  unfold cpy2
  rw [if_neg (fun q => hc q.1)]
/-- how many come -/
def cmN (v : sk_H) (kd : Int) (g : Nat → Int) (i : Nat) : Nat → Nat → Nat
  | 0, c => c
  | m + 1, c => if tkR v kd (g (i + c)) = true then cmN v kd g i m (c + 1) else c
theorem cmN_rng {v : sk_H} {kd : Int} {g : Nat → Int} {i : Nat} : ∀ m c, c ≤ cmN v kd g i m c ∧ cmN v kd g i m c ≤ c + m := by
  intro m
  induction m with
  | zero => intro c; exact ⟨Nat.le_refl _, Nat.le_refl _⟩
  | succ m ih =>
    intro c
    unfold cmN
    split
    · have := ih (c + 1); omega
    · omega
theorem cmN_all {v : sk_H} {kd : Int} {g : Nat → Int} {i : Nat} : ∀ m c k, c ≤ k → k < cmN v kd g i m c → tkR v kd (g (i + k)) = true := by
  intro m
  induction m with
  | zero => intro c k h1 h2; unfold cmN at h2; omega
  | succ m ih =>
    intro c k h1 h2
    unfold cmN at h2
    split at h2
    · next h =>
      by_cases e : k = c
      · subst e; exact h
      · exact ih (c + 1) k (by omega) h2
    · omega
section MOV
variable {S : List sk_Sh} {I v : sk_H} {a : Nat}
theorem c126 {d : Nat} (hd : 9 ≤ d + 1) (hS : sk_G S) (hv : vC I 15 = v) (hV : VO v) {q p : Nat} (hq : q < 4) (hp : p < 4) (k1 : 0 ≤ I (87 + 2 + 4 * p) 1) (k2 : I (87 + 2 + 4 * p) 1 ≤ 5) {g : Nat → Int} (hg : ∀ k, k < 10 → I (87 + 3 + 4 * q) k = g k ∧ -1 ≤ g k ∧ g k < v 0 1) {i j n : Nat} (hi : i + n ≤ 10) (hj : j + n ≤ 10) (o1 o3 : Option Value) : sk_D126 d 87 [some (.ref 1), o1, some (.int (sj i)), o3, some (.int (sj j)), some (.int (sj n)), some (.ref (87 + 2 + 4 * q)), some (.ref (87 + 2 + 4 * p)), some (.int (sj 0))] [] (sk_mk S I) = some (some (.int (sj ((cmN v (I (87 + 2 + 4 * p) 1) g i n 0 : Nat) : Int))), sk_mk S (cpy2 I (87 + 3 + 4 * q) i (87 + 3 + 4 * p) j (cmN v (I (87 + 2 + 4 * p) 1) g i n 0))) := by
  obtain ⟨n1, n2, n3, n4, n5, n6, n7, n8, n9, n10, n11, n12⟩ := hV.1
  have ha : sk_isP 15 := Or.inl rfl
  have fin : ∀ c : Nat, c ≤ n → sk_copy (sk_mk S I) (87 + 3 + 4 * q) (sj (i : Int)) (87 + 3 + 4 * p) (sj (j : Int)) (sj (c : Int)) = some (sk_mk S (cpy2 I (87 + 3 + 4 * q) i (87 + 3 + 4 * p) j c)) := by
    intro c hc
    have := mk_copy (S := S) (I := I) (a0 := 87 + 3 + 4 * q) (a := 87 + 3 + 4 * p) (n0 := 10) (n1 := 10) (sp := i) (dp := j) (n := c) (srk hS hq).2 (srk hS hp).2 (by omega) (by omega) (by omega) (by omega) (by omega) (by omega) (by omega) (by omega) (by omega)
    rwa [Int.toNat_natCast, Int.toNat_natCast, Int.toNat_natCast] at this
  have key : ∀ m c : Nat, c + m = n → sk_D126 d 87 [some (.ref 1), o1, some (.int (sj i)), o3, some (.int (sj j)), some (.int (sj n)), some (.ref (87 + 2 + 4 * q)), some (.ref (87 + 2 + 4 * p)), some (.int (sj (c : Int)))] [] (sk_mk S I) = some (some (.int (sj ((cmN v (I (87 + 2 + 4 * p) 1) g i m c : Nat) : Int))), sk_mk S (cpy2 I (87 + 3 + 4 * q) i (87 + 3 + 4 * p) j (cmN v (I (87 + 2 + 4 * p) 1) g i m c))) := by
    intro m
    induction m with
    | zero =>
      intro c hc
      rw [sk_e126_87, if_pos (ky_ge (by omega) (by omega) (by omega) (by omega) (by omega)), rk_r0b hS hq, rk_r0b hS hp, fin c (by omega), Option.bind_some]
      rfl
    | succ m ih =>
      intro c hc
      have t1 : (c : Int) + 1 = ((c + 1 : Nat) : Int) := rfl
      have t2 : ((i : Int) + (c : Int)).toNat = i + c := by omega
      have hgc := hg (i + c) (by omega)
      have e66 := m66 (S := S) (I := I) (d := d) (by omega) hS ha hv hV hp k1 k2 hgc.2.1 hgc.2.2
      rw [sk_e126_87, if_neg (kn_ge (by omega) (by omega) (by omega) (by omega) (by omega)), g1_r1b hS, rk_r0b hS hq, sj_add, rk_ab hS hq (by omega) (by omega), t2, hgc.1, rk_ob hS hp, e66, sk_ci_some]
      unfold cmN
      cases tkR v (I (87 + 2 + 4 * p) 1) (g (i + c)) with
      | false => rw [if_pos cf_beq, if_neg (by simp), rk_r0b hS hq, rk_r0b hS hp, fin c (by omega), Option.bind_some]
      | true =>
        rw [if_neg ct_beq, if_pos rfl, sj_add, t1]
        exact ih (c + 1) (by omega)
  exact key n 0 (by omega)
theorem r225 {d : Nat} (hd : 3 ≤ d + 1) (hS : sk_G S) (hR : RP I 107 v) (hV : VO v) {p : Nat} (hp : p < 4) (k1 : 0 ≤ I 118 p) (k2 : I 118 p ≤ 5) {g : Nat → Int} {i j n : Nat} (hg : ∀ k, k < n → I 124 k = g (i + k) ∧ -1 ≤ g (i + k) ∧ g (i + k) < v 0 1) (hj : j + n ≤ 10) (o1 o2 : Option Value) : ∃ I', sk_D225 d 102 [some (.ref 105), o1, o2, some (.int (sj p)), some (.int (sj j)), some (.int (sj n)), some (.int (sj 0))] [] (sk_mk S I) = some (some (.int (sj ((cmN v (I 118 p) g i n 0 : Nat) : Int))), sk_mk S I') ∧ (∀ k, I' (120 + p) k = if j ≤ k ∧ k < j + cmN v (I 118 p) g i n 0 then g (i + (k - j)) else I (120 + p) k) ∧ ∀ b, b ≠ 120 + p → I' b = I b := by
  obtain ⟨n1, n2, n3, n4, n5, n6, n7, n8, n9, n10, n11, n12⟩ := hV.1
  have key : ∀ m c : Nat, c + m = n → ∀ J : sk_H, (∀ k, J (120 + p) k = if j ≤ k ∧ k < j + c then g (i + (k - j)) else I (120 + p) k) → (∀ b, b ≠ 120 + p → J b = I b) → ∃ I', sk_D225 d 102 [some (.ref 105), o1, o2, some (.int (sj p)), some (.int (sj j)), some (.int (sj n)), some (.int (sj (c : Int)))] [] (sk_mk S J) = some (some (.int (sj ((cmN v (I 118 p) g i m c : Nat) : Int))), sk_mk S I') ∧ (∀ k, I' (120 + p) k = if j ≤ k ∧ k < j + cmN v (I 118 p) g i m c then g (i + (k - j)) else I (120 + p) k) ∧ ∀ b, b ≠ 120 + p → I' b = I b := by
    intro m
    induction m with
    | zero =>
      intro c hc J h1 h2
      refine ⟨J, ?_, h1, h2⟩
      rw [sk_e225_102, if_pos (ky_ge (by omega) (by omega) (by omega) (by omega) (by omega))]
      rfl
    | succ m ih =>
      intro c hc J h1 h2
      have t1 : (c : Int) + 1 = ((c + 1 : Nat) : Int) := rfl
      have t2 : ((j : Int) + (c : Int)).toNat = j + c := by omega
      have hgc := hg c (by omega)
      have jg : J 124 c = g (i + c) := by rw [h2 124 (by omega)]; exact hgc.1
      have j118 : J 118 p = I 118 p := by rw [h2 118 (by omega)]
      have hRJ : RP J 107 v := hR.fr (h2 107 (by omega))
      have e223 := m223 (S := S) (I := J) (d := d) (by omega) hS hRJ hV hp (by omega) (by omega) hgc.2.1 hgc.2.2
      rw [j118] at e223
      have q119 : sk_aldr (sk_mk S J) 119 (sj (p : Int)) = some (120 + p) := g119_q hS (by omega) (by omega)
      unfold cmN
      cases htk : tkR v (I 118 p) (g (i + c)) with
      | false =>
        rw [htk] at e223
        refine ⟨J, ?_, by rw [if_neg (by simp)]; exact h1, h2⟩
        rw [if_neg (by simp), sk_e225_102, if_neg (kn_ge (by omega) (by omega) (by omega) (by omega) (by omega)), g105_r19b hS, g124_ab hS (by omega) (by omega), Int.toNat_natCast, jg, g105_ob hS, e223, sk_ci_some, if_pos cf_beq]
      | true =>
        rw [htk] at e223
        obtain ⟨I', e, a1, a2⟩ := ih (c + 1) (by omega) (u2 J (120 + p) (j + c) (g (i + c))) (fun k => by
          by_cases e : k = j + c
          · subst e
            rw [u2_eq, if_pos (by omega), show j + c - j = c by omega]
          · rw [u2_ne _ _ (by omega), h1 k]
            by_cases e2 : j ≤ k ∧ k < j + c
            · rw [if_pos e2, if_pos (by omega)]
            · rw [if_neg e2, if_neg (by omega)]) (fun b hb => by
          rw [← h2 b hb]
          funext t
          exact u2_ne _ _ (by omega))
        refine ⟨I', ?_, by rw [if_pos rfl]; exact a1, a2⟩
        rw [if_pos rfl, sk_e225_102, if_neg (kn_ge (by omega) (by omega) (by omega) (by omega) (by omega)), g105_r19b hS, g124_ab hS (by omega) (by omega), Int.toNat_natCast, jg, g105_ob hS, e223, sk_ci_some, if_neg ct_beq, g105_r18b hS, q119, Option.bind_some, g105_r19b hS, g124_ab hS (by omega) (by omega), Int.toNat_natCast, jg, sj_add, mr_sb hS hp (by omega) (by omega), t2, sj_add, t1]
        exact e
  exact key n 0 (by omega) I (fun k => by rw [if_neg (by omega)]) (fun _ _ => rfl)
theorem f_moved (hS : sk_G S) (hG : GI I v) {r i p j n : Int} (r1 : -2147483648 ≤ r) (r2 : r < 2147483648) (i1 : -2147483648 ≤ i) (i2 : i < 2147483648) (p1 : -2147483648 ≤ p) (p2 : p < 2147483648) (j1 : -2147483648 ≤ j) (j2 : j < 2147483648) (c1 : -2147483648 ≤ n) (c2 : n < 2147483648) : FC S I 126 225 [.int (sj r), .int (sj i), .int (sj p), .int (sj j), .int (sj n)] := by
  have hG0 := hG
  obtain ⟨hv, hT, hR, hTp, hM, hRk, hSh⟩ := hG; have hV := hT.1; have ha : sk_isP 15 := Or.inl rfl; obtain ⟨n1, n2, n3, n4, n5, n6, n7, n8, n9, n10, n11, n12⟩ := hV.1
  have cc := sk_e126 19 1 (sj r) (sj i) (sj p) (sj j) (sj n) (sk_mk S I)
  have rr := fun J : sk_H => sk_e225 19 105 (sj r) (sj i) (sj p) (sj j) (sj n) (sk_mk S J)
  have e220 := fun J : sk_H => m220 (d := 19) (by omega) r1 r2 (w := sk_mk S J)
  have e220' := fun J : sk_H => m220 (d := 19) (by omega) p1 p2 (w := sk_mk S J)
  rw [m136 (by omega) r1 r2, sk_ci_some] at cc
  by_cases hr4 : 0 ≤ r ∧ r < 4
  rotate_left
  · rw [decide_eq_false hr4, if_pos cf_beq] at cc
    refine FC_same hG0 (-2) cc ?_
    rw [rr, e220, sk_ci_some, decide_eq_false hr4, if_pos cf_beq]
  rw [decide_eq_true hr4, if_neg ct_beq, m136 (by omega) p1 p2, sk_ci_some] at cc
  by_cases hp4 : 0 ≤ p ∧ p < 4
  rotate_left
  · rw [decide_eq_false hp4, if_neg cf_bne] at cc
    refine FC_same hG0 (-2) cc ?_
    rw [rr, e220, sk_ci_some, decide_eq_true hr4, if_neg ct_beq, e220', sk_ci_some, decide_eq_false hp4, if_neg cf_bne]
  obtain ⟨q, rfl⟩ : ∃ q : Nat, r = q := ⟨r.toNat, by omega⟩
  obtain ⟨u, rfl⟩ : ∃ q : Nat, p = q := ⟨p.toNat, by omega⟩
  have hq : q < 4 := by omega
  have hu : u < 4 := by omega
  have q87 : sk_aldr (sk_mk S I) 87 (sj (q : Int)) = some (87 + 2 + 4 * q) := g87_q hS (by omega) (by omega)
  have u87 : sk_aldr (sk_mk S I) 87 (sj (u : Int)) = some (87 + 2 + 4 * u) := g87_q hS (by omega) (by omega)
  rw [decide_eq_true hp4, if_pos ct_bne, g1_r7b hS, q87, Option.bind_some, g1_r7b hS, u87, Option.bind_some, rk_ob hS hq] at cc
  have rr : ∀ J : sk_H, J 117 = I 117 → sk_c 20 225 [.ref 105, .int (sj q), .int (sj i), .int (sj u), .int (sj j), .int (sj n)] (sk_mk S J) = _ := fun J hJ => by
    rw [rr, e220, sk_ci_some, decide_eq_true hr4, if_neg ct_beq, e220', sk_ci_some, decide_eq_true hp4, if_pos ct_bne, g105_r16b hS, g117_ab hS (by omega) (by omega), Int.toNat_natCast, hJ]
  obtain ⟨gp, gq⟩ := hRk q hq
  obtain ⟨up, uq⟩ := hRk u hu
  rcases gq with ⟨a1, a2⟩ | ⟨a1, a2, a3, a4, a5, a6, a7⟩
  · rw [m63 (by omega) hS hq (by omega) (by omega), sk_ci_some, decide_eq_true a1, if_pos ct_bne] at cc
    refine FC_same hG0 (-11) cc ?_
    rw [rr I rfl, a2, if_pos (ky_lt (by omega) (by omega) (by omega) (by omega) (by omega))]
  rw [m63 (by omega) hS hq (by omega) (by omega), sk_ci_some, decide_eq_false (show ¬ I (87 + 2 + 4 * q) 1 = -1 by omega), if_neg cf_bne, rk_ob hS hu] at cc
  have rr : ∀ J : sk_H, J 117 = I 117 → sk_c 20 225 [.ref 105, .int (sj q), .int (sj i), .int (sj u), .int (sj j), .int (sj n)] (sk_mk S J) = _ := fun J hJ => by
    rw [rr J hJ, if_neg (kn_lt (by omega) (by omega) (by omega) (by omega) (by omega)), g105_r16b hS, g117_ab hS (by omega) (by omega), Int.toNat_natCast, hJ]
  rcases uq with ⟨b1, b2⟩ | ⟨b1, b2, b3, b4, b5, b6, b7⟩
  · rw [m63 (by omega) hS hu (by omega) (by omega), sk_ci_some, decide_eq_true b1, if_neg ct_beq] at cc
    refine FC_same hG0 (-11) cc ?_
    rw [rr I rfl, b2, if_neg (kn_ge (by omega) (by omega) (by omega) (by omega) (by omega))]
  rw [m63 (by omega) hS hu (by omega) (by omega), sk_ci_some, decide_eq_false (show ¬ I (87 + 2 + 4 * u) 1 = -1 by omega), if_pos cf_beq, rk_i2b hS hq, m137 (by omega) i1 i2 c1 c2 (by omega) (by omega), sk_ci_some] at cc
  have rr : ∀ J : sk_H, J 117 = I 117 → sk_c 20 225 [.ref 105, .int (sj q), .int (sj i), .int (sj u), .int (sj j), .int (sj n)] (sk_mk S J) = _ := fun J hJ => by
    rw [rr J hJ, if_pos (ky_ge (by omega) (by omega) (by omega) (by omega) (by omega))]
  have rbad : ¬ ((0 ≤ n ∧ 0 ≤ i ∧ n ≤ I 117 q ∧ i ≤ I 117 q - n) ∧ (0 ≤ n ∧ 0 ≤ j ∧ n ≤ I 117 u ∧ j ≤ I 117 u - n)) → sk_c 20 225 [.ref 105, .int (sj q), .int (sj i), .int (sj u), .int (sj j), .int (sj n)] (sk_mk S I) = some (some (.int (sj (-12))), sk_mk S I) := by
    intro h
    rw [rr I rfl]
    by_cases z1 : n < 0
    · rw [if_pos (ky_lt (by omega) (by omega) (by omega) (by omega) z1)]
    rw [if_neg (kn_lt (by omega) (by omega) (by omega) (by omega) (by omega))]
    by_cases z2 : i < 0
    · rw [if_pos (ky_lt (by omega) (by omega) (by omega) (by omega) z2)]
    rw [if_neg (kn_lt (by omega) (by omega) (by omega) (by omega) (by omega))]
    by_cases z3 : j < 0
    · rw [if_pos (ky_lt (by omega) (by omega) (by omega) (by omega) z3)]
    rw [if_neg (kn_lt (by omega) (by omega) (by omega) (by omega) (by omega)), g105_r16b hS, g117_ab hS (by omega) (by omega), Int.toNat_natCast, sj_sub]
    by_cases z4 : I 117 q - n < i
    · rw [if_pos (ky_gt (by omega) (by omega) (by omega) (by omega) z4)]
    rw [if_neg (kn_gt (by omega) (by omega) (by omega) (by omega) (by omega)), g105_r16b hS, g117_ab hS (by omega) (by omega), Int.toNat_natCast, sj_sub, if_neg (kn_le (by omega) (by omega) (by omega) (by omega) (by omega))]
  have hq117 : I (87 + 2 + 4 * q) 2 = I 117 q := a6.symm
  have hu117 : I (87 + 2 + 4 * u) 2 = I 117 u := b6.symm
  rw [hq117] at cc a4 a5
  by_cases g1 : 0 ≤ n ∧ 0 ≤ i ∧ n ≤ I 117 q ∧ i ≤ I 117 q - n
  rotate_left
  · rw [show rgR i n (I 117 q) = false from decide_eq_false g1, if_pos cf_beq] at cc
    exact FC_same hG0 (-12) cc (rbad (fun h => g1 h.1))
  rw [show rgR i n (I 117 q) = true from decide_eq_true g1, if_neg ct_beq, rk_i2b hS hu, m137 (by omega) j1 j2 c1 c2 (by omega) (by omega), sk_ci_some, hu117] at cc
  rw [hu117] at b4 b5
  by_cases g2 : 0 ≤ n ∧ 0 ≤ j ∧ n ≤ I 117 u ∧ j ≤ I 117 u - n
  rotate_left
  · rw [show rgR j n (I 117 u) = false from decide_eq_false g2, if_neg cf_bne] at cc
    exact FC_same hG0 (-12) cc (rbad (fun h => g2 h.2))
  rw [show rgR j n (I 117 u) = true from decide_eq_true g2, if_pos ct_bne] at cc
  obtain ⟨ni, rfl⟩ : ∃ z : Nat, i = z := ⟨i.toNat, by omega⟩
  obtain ⟨nj, rfl⟩ : ∃ z : Nat, j = z := ⟨j.toNat, by omega⟩
  obtain ⟨nn, rfl⟩ : ∃ z : Nat, n = z := ⟨n.toNat, by omega⟩
  rw [c126 (by omega) hS hv hV hq hu b1 b2 (g := I (120 + q)) (fun k hk => ⟨gp k hk, a7 k hk⟩) (by omega) (by omega)] at cc
  have hcm := cmN_rng (v := v) (kd := I (87 + 2 + 4 * u) 1) (g := I (120 + q)) (i := ni) nn 0
  have hR1 : RP (cpy2 I (87 + 3 + 4 * q) ni (87 + 3 + 4 * u) nj (cmN v (I (87 + 2 + 4 * u) 1) (I (120 + q)) ni nn 0)) 107 v := hR.fr (cpy_ne (by omega))
  have f1 : ∀ b, b ≠ 87 + 3 + 4 * u → cpy2 I (87 + 3 + 4 * q) ni (87 + 3 + 4 * u) nj (cmN v (I (87 + 2 + 4 * u) 1) (I (120 + q)) ni nn 0) b = I b := fun b hb => cpy_ne hb
  have w1 : ∀ k, k < 10 → cpy2 I (87 + 3 + 4 * q) ni (87 + 3 + 4 * u) nj (cmN v (I (87 + 2 + 4 * u) 1) (I (120 + q)) ni nn 0) (87 + 3 + 4 * u) k = if nj ≤ k ∧ k < nj + cmN v (I (87 + 2 + 4 * u) 1) (I (120 + q)) ni nn 0 then I (120 + q) (ni + (k - nj)) else I (120 + u) k := fun k hk => by
    by_cases c : nj ≤ k ∧ k < nj + cmN v (I (87 + 2 + 4 * u) 1) (I (120 + q)) ni nn 0
    · rw [cpy_at c.1 c.2, if_pos c, gp _ (by omega)]
    · rw [cpy_no c, if_neg c, up k hk]
  generalize cpy2 I (87 + 3 + 4 * q) ni (87 + 3 + 4 * u) nj (cmN v (I (87 + 2 + 4 * u) 1) (I (120 + q)) ni nn 0) = J at *
  have q119 : sk_aldr (sk_mk S J) 119 (sj (q : Int)) = some (120 + q) := g119_q hS (by omega) (by omega)
  have ec := mk_copy (S := S) (I := J) (a0 := 120 + q) (a := 124) (n0 := 10) (n1 := 10) (sp := ni) (dp := 0) (n := nn) (smr hS hq) (sh_124 hS) (by omega) (by omega) (by omega) (by omega) (by omega) (by omega) (by omega) (by omega) (by omega)
  rw [Int.toNat_natCast, Int.toNat_natCast, show (0 : Int).toNat = 0 from rfl] at ec
  have hRK : RP (cpy2 J (120 + q) ni 124 0 nn) 107 v := hR1.fr (cpy_ne (by omega))
  have fK : ∀ b, b ≠ 124 → cpy2 J (120 + q) ni 124 0 nn b = J b := fun b hb => cpy_ne hb
  have wK : ∀ k, k < nn → cpy2 J (120 + q) ni 124 0 nn 124 k = I (120 + q) (ni + k) := fun k hk => by
    rw [cpy_at (by omega) (by omega), f1 _ (by omega), Nat.sub_zero]
  generalize cpy2 J (120 + q) ni 124 0 nn = K at *
  have k118 : K 118 u = I (87 + 2 + 4 * u) 1 := by rw [fK 118 (by omega), f1 118 (by omega)]; exact b3
  obtain ⟨I2, e2, h2, f2⟩ := r225 (S := S) (I := K) (d := 19) (by omega) hS hRK hV hu (by omega) (by omega) (g := I (120 + q)) (i := ni) (j := nj) (n := nn) (fun k hk => ⟨wK k hk, a7 _ (by omega)⟩) (by omega) (some (.int (sj (q : Int)))) (some (.int (sj (ni : Int))))
  rw [k118] at e2 h2
  refine ⟨_, J, I2, v, cc, ?_, ?_⟩
  · rw [rr J (f1 117 (by omega)), if_neg (kn_lt (by omega) (by omega) (by omega) (by omega) (by omega)), if_neg (kn_lt (by omega) (by omega) (by omega) (by omega) (by omega)), if_neg (kn_lt (by omega) (by omega) (by omega) (by omega) (by omega)), g105_r16b hS, g117_ab hS (by omega) (by omega), Int.toNat_natCast, f1 117 (by omega), sj_sub, if_neg (kn_gt (by omega) (by omega) (by omega) (by omega) (by omega)), g105_r16b hS, g117_ab hS (by omega) (by omega), Int.toNat_natCast, f1 117 (by omega), sj_sub, if_pos (ky_le (by omega) (by omega) (by omega) (by omega) (by omega)), g105_r18b hS, q119, Option.bind_some, g105_r19b hS, ec, Option.bind_some]
    exact e2
  · have fA : ∀ b, b ≠ 87 + 3 + 4 * u → b ≠ 124 → b ≠ 120 + u → I2 b = I b := fun b x1 x2 x3 => (f2 b x3).trans ((fK b x2).trans (f1 b x1))
    refine GI_R hG0 (fun b x1 x2 x3 x4 => fA b (by omega) (by omega) (by omega)) (fun s hs => ⟨fA _ (by omega) (by omega) (by omega), fA _ (by omega) (by omega) (by omega)⟩) (fun t ht => ?_)
    by_cases c : t = u
    · subst c
      have e1 : ∀ k, k < 10 → I2 (120 + t) k = if nj ≤ k ∧ k < nj + cmN v (I (87 + 2 + 4 * t) 1) (I (120 + q)) ni nn 0 then I (120 + q) (ni + (k - nj)) else I (120 + t) k := fun k hk => by
        rw [h2 k, fK _ (by omega), f1 _ (by omega)]
      refine ⟨fun k hk => ?_, Or.inr ?_⟩
      · rw [e1 k hk, f2 _ (by omega), fK _ (by omega), w1 k hk]
      · rw [fA (87 + 2 + 4 * t) (by omega) (by omega) (by omega), fA 117 (by omega) (by omega) (by omega), fA 118 (by omega) (by omega) (by omega)]
        refine ⟨b1, b2, b3, by omega, by omega, b6, fun k hk => ?_⟩
        rw [e1 k hk]
        split
        · exact a7 _ (by omega)
        · exact b7 k hk
    · exact GR1_pt (hRk t ht) (fA _ (by omega) (by omega) (by omega)) (fA _ (by omega) (by omega) (by omega)) (fA _ (by omega) (by omega) (by omega)) (by rw [fA 117 (by omega) (by omega) (by omega)]) (by rw [fA 118 (by omega) (by omega) (by omega)])
end MOV
