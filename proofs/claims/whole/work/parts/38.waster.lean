/-! ===== the reference's waste ===== -/
theorem RP_ww {I I' v v' : sk_H} (hN : VN v) (hR : RP I 107 v) (hq : ∀ q : Nat, q < 117 → q ≠ 5 → I' 107 q = I 107 q) (hA : ∀ s k, ¬ (11 ≤ s ∧ s ≤ 14) → ¬ (s = 0 ∧ k = 5) → v' s k = v s k) (h5 : I' 107 5 = v' 0 5) (hw : ∀ k : Nat, (k : Int) < v' 0 5 → ∀ j, j < 4 → I' 107 (117 + 4 * k + j) = v' (11 + j) k) : RP I' 107 v' := by
  obtain ⟨n1, n2, n3, n4, n5, n6, -⟩ := hN
  obtain ⟨r0, r1, r2, r3, -⟩ := hR
  have z := fun k (hk : k ≠ 5) => hA 0 k (by omega) (by omega)
  have y := fun s k (hs : ¬ (11 ≤ s ∧ s ≤ 14)) (h0 : s ≠ 0) => hA s k hs (by omega)
  refine ⟨?_, ?_, ?_, ?_, ?_⟩
  · intro k hk
    by_cases h : k = 5
    · subst h; exact h5
    · rw [hq k (by omega) h, z k h]; exact r0 k hk
  · intro p hp
    rw [z 1 (by omega)] at hp
    have := r1 p hp
    rw [y 1 p (by omega) (by omega), y 2 p (by omega) (by omega), y 3 p (by omega) (by omega), y 4 p (by omega) (by omega), y 5 p (by omega) (by omega), y 6 p (by omega) (by omega), y 7 p (by omega) (by omega), y 8 p (by omega) (by omega)]
    rw [hq (7 + p) (by omega) (by omega), hq (17 + p) (by omega) (by omega), hq (27 + p) (by omega) (by omega), hq (37 + p) (by omega) (by omega), hq (47 + p) (by omega) (by omega), hq (57 + p) (by omega) (by omega), hq (67 + p) (by omega) (by omega), hq (77 + p) (by omega) (by omega)]
    exact this
  · intro k hk
    rw [z 2 (by omega)] at hk
    rw [hq (87 + k) (by omega) (by omega), y 9 k (by omega) (by omega)]
    exact r2 k hk
  · intro c hc
    rw [z 0 (by omega)] at hc
    rw [hq (97 + c) (by omega) (by omega), y 10 c (by omega) (by omega)]
    exact r3 c hc
  · intro k hk
    have := hw k hk
    exact ⟨this 0 (by omega), by rw [← this 1 (by omega)]; congr 1; omega, by rw [← this 2 (by omega)]; congr 1; omega, by rw [← this 3 (by omega)]; congr 1; omega⟩
theorem RP_w {I v : sk_H} (hR : RP I 107 v) {k j : Nat} (hk : (k : Int) < v 0 5) (hj : j < 4) : I 107 (117 + 4 * k + j) = v (11 + j) k := by
  have h := hR.2.2.2.2 k hk
  match j, hj with
  | 0, _ => exact h.1
  | 1, _ => rw [← h.2.1]; congr 1; omega
  | 2, _ => rw [← h.2.2.1]; congr 1; omega
  | 3, _ => rw [← h.2.2.2]; congr 1; omega
section WSR
variable {S : List sk_Sh} {I v : sk_H}
theorem m179 {d : Nat} (hd : 1 ≤ d) (hS : sk_G S) (hR : RP I 107 v) (hV : VO v) {x y w h : Int} (g1 : 0 ≤ x) (g2 : x ≤ 1000) (g3 : 0 ≤ y) (g4 : y ≤ 1000) (g5 : -1000 ≤ w) (g6 : w ≤ 1000) (g7 : -1000 ≤ h) (g8 : h ≤ 1000) : ∃ I', sk_c d 179 [.ref 105, .int (sj x), .int (sj y), .int (sj w), .int (sj h)] (sk_mk S I) = some (none, sk_mk S I') ∧ RP I' 107 (wAdd v x y w h) ∧ ∀ b, b ≠ 107 → I' b = I b := by
  obtain ⟨n1, n2, n3, n4, n5, n6, n7, n8, n9, n10, n11, n12⟩ := hV.1
  obtain ⟨d, rfl⟩ : ∃ e, d = e + 1 := ⟨d - 1, by omega⟩; rw [sk_e179]
  simp (disch := omega) only [↓g105_r0b hS, ↓g105_r1b hS, ↓g105_i2b hS, ↓g105_u2b hS, ↓g105_r3b hS, ↓g105_i4b hS, ↓g105_u4b hS, ↓g105_r5b hS, ↓g105_i6b hS, ↓g105_u6b hS, ↓g105_i7b hS, ↓g105_u7b hS, ↓g105_i8b hS, ↓g105_u8b hS, ↓g105_i9b hS, ↓g105_u9b hS, ↓g105_i10b hS, ↓g105_u10b hS, ↓g105_r11b hS, ↓g105_r12b hS, ↓g105_r13b hS, ↓g105_r14b hS, ↓g105_r15b hS, ↓g105_r16b hS, ↓g105_r17b hS, ↓g105_r18b hS, ↓g105_r19b hS, ↓g105_r20b hS, ↓g105_r21b hS, ↓g105_r22b hS, ↓g105_r23b hS, ↓g105_ob hS, ↓g106_qb hS, ↓g119_qb hS, ↓g127_qb hS, ↓g107_ab hS, ↓g107_sb hS, ↓g107_nb hS, ↓g108_ab hS, ↓g108_sb hS, ↓g108_nb hS, ↓g109_ab hS, ↓g109_sb hS, ↓g109_nb hS, ↓Option.bind_some, ↓sk_ci_some, ↓sk_cv_some, ↓sk_cf_some, if_true, eq_self, ite_self, rq0 hR, rq1 hR, rq2 hR, rq3 hR, rq4 hR, rq5 hR, rk_ hR, rw_ hR, rh_ hR, rf_ hR, rl_ hR, rx_ hR, ry_ hR, rt_ hR, ro_ hR, rs_ hR, Int.toNat_natCast, sj_add, sj_sub, sj_mul, sj_neg, sj_div, sj_ceq, sj_cne, sj_clt, sj_cge, sj_cgt, sj_cle, bi_ceq, bi_cne, bi_01]
  unfold wAdd
  by_cases c1 : w ≤ 0
  · rw [if_pos c1, if_pos (Or.inl c1)]
    exact ⟨I, rfl, hR, fun _ _ => rfl⟩
  rw [if_neg c1]
  by_cases c2 : h ≤ 0
  · rw [if_neg (by omega), if_pos (Or.inr c2)]
    exact ⟨I, rfl, hR, fun _ _ => rfl⟩
  rw [if_pos (by omega), if_neg (by omega)]
  obtain ⟨n, hnn⟩ : ∃ n : Nat, v 0 5 = n := ⟨(v 0 5).toNat, by omega⟩
  rw [hnn, Int.toNat_natCast]
  have hW := hV.2.2.2.2
  have key : ∀ i : Nat, i ≤ n → ∀ I1, (∀ k j, k ≤ n → k ≠ i → j < 4 → I1 107 (117 + 4 * k + j) = shU v i n (11 + j) k) → (∀ q, q < 117 → I1 107 q = I 107 q) → (∀ b, b ≠ 107 → I1 b = I b) → ∃ I', sk_D179 d 18 [some (.ref 105), some (.int (sj x)), some (.int (sj y)), some (.int (sj w)), some (.int (sj h)), some (.int (sj (i : Int)))] [] (sk_mk S I1) = sk_D179 d 111 [some (.ref 105), some (.int (sj x)), some (.int (sj y)), some (.int (sj w)), some (.int (sj h)), some (.int (sj ((insP v x y i : Nat) : Int)))] [] (sk_mk S I') ∧ (∀ k j, k ≤ n → k ≠ insP v x y i → j < 4 → I' 107 (117 + 4 * k + j) = shU v (insP v x y i) n (11 + j) k) ∧ (∀ q, q < 117 → I' 107 q = I 107 q) ∧ ∀ b, b ≠ 107 → I' b = I b := by
    intro i
    induction i with
    | zero =>
      intro _ I1 h1 h2 h3
      refine ⟨I1, ?_, h1, h2, h3⟩
      rw [sk_e179_18]
      simp (disch := omega) only [sj_ceq, sj_cne, sj_clt, sj_cge, sj_cgt, sj_cle, bi_ceq, bi_cne, bi_01]
      rw [if_pos (by omega)]
      rfl
    | succ i ih =>
      intro hi I1 h1 h2 h3
      have t3 : (117 + 4 * ((i + 1 : Nat) : Int) - 3).toNat = 117 + 4 * i + 1 := by omega
      have t4 : (117 + 4 * ((i + 1 : Nat) : Int) - 4).toNat = 117 + 4 * i + 0 := by omega
      have t5 : (117 + 4 * ((i + 1 : Nat) : Int)).toNat = 117 + 4 * (i + 1) := by omega
      have t2 : ((i + 1 : Nat) : Int) + -1 = (i : Int) := by omega
      have hWi := hW i (by omega)
      have r0 : ∀ j, j < 4 → I1 107 (117 + 4 * i + j) = v (11 + j) i := fun j hj => by
        rw [h1 i j (by omega) (by omega) hj]
        unfold shU
        rw [if_neg (by omega)]
      have r1 : I1 107 (117 + 4 * i + 0) = v 11 i := r0 0 (by omega)
      have r2 : I1 107 (117 + 4 * i + 1) = v 12 i := r0 1 (by omega)
      have go : ∃ I', sk_D179 d 77 [some (.ref 105), some (.int (sj x)), some (.int (sj y)), some (.int (sj w)), some (.int (sj h)), some (.int (sj ((i + 1 : Nat) : Int)))] [] (sk_mk S I1) = sk_D179 d 111 [some (.ref 105), some (.int (sj x)), some (.int (sj y)), some (.int (sj w)), some (.int (sj h)), some (.int (sj ((insP v x y i : Nat) : Int)))] [] (sk_mk S I') ∧ (∀ k j, k ≤ n → k ≠ insP v x y i → j < 4 → I' 107 (117 + 4 * k + j) = shU v (insP v x y i) n (11 + j) k) ∧ (∀ q, q < 117 → I' 107 q = I 107 q) ∧ ∀ b, b ≠ 107 → I' b = I b := by
        rw [sk_e179_77]
        have ec := mk_copy (S := S) (I := I1) (a0 := 107) (a := 107) (n0 := 1141) (n1 := 1141) (sp := 117 + 4 * ((i + 1 : Nat) : Int) - 4) (dp := 117 + 4 * ((i + 1 : Nat) : Int)) (n := 4) (sh_107 hS) (sh_107 hS) (by omega) (by omega) (by omega) (by omega) (by omega) (by omega) (by omega) (by omega) (by omega)
        simp (disch := omega) only [↓g105_r1b hS, ↓Option.bind_some, ↓sk_ci_some, ↓sk_cv_some, ↓sk_cf_some, if_true, eq_self, ite_self, sj_add, sj_sub, sj_mul, sj_neg, sj_div, t2, ec]
        refine ih (by omega) _ ?_ ?_ ?_
        · intro k j hk hki hj
          unfold cpy2
          rw [t4, t5]
          by_cases e : k = i + 1
          · subst e
            have t6 : 117 + 4 * i + 0 + (117 + 4 * (i + 1) + j - (117 + 4 * (i + 1))) = 117 + 4 * i + j := by omega
            have t7 : (4 : Int).toNat = 4 := rfl
            rw [if_pos (by omega), t6, r0 j hj]
            unfold shU
            rw [if_pos (by omega)]
            rfl
          · have t7 : (4 : Int).toNat = 4 := rfl
            rw [if_neg (by omega), h1 k j hk e hj]
            unfold shU
            have : ((11 ≤ 11 + j ∧ 11 + j ≤ 14) ∧ i + 1 < k ∧ k ≤ n) = ((11 ≤ 11 + j ∧ 11 + j ≤ 14) ∧ i < k ∧ k ≤ n) := propext (by omega)
            simp only [this]
        · intro q hq
          unfold cpy2
          rw [t4, t5, if_neg (by omega)]
          exact h2 q hq
        · intro b hb
          rw [← h3 b hb]
          funext q
          unfold cpy2
          rw [if_neg (by omega)]
      rw [sk_e179_18]
      simp (disch := omega) only [↓g105_r1b hS, ↓g107_ab hS, ↓Option.bind_some, ↓sk_ci_some, ↓sk_cv_some, ↓sk_cf_some, if_true, eq_self, ite_self, sj_add, sj_sub, sj_mul, sj_neg, sj_div, sj_ceq, sj_cne, sj_clt, sj_cge, sj_cgt, sj_cle, bi_ceq, bi_cne, bi_01, t3, t4, r1, r2]
      rw [if_neg (by omega)]
      unfold insP
      have no : ∃ I', sk_D179 d 111 [some (.ref 105), some (.int (sj x)), some (.int (sj y)), some (.int (sj w)), some (.int (sj h)), some (.int (sj ((i + 1 : Nat) : Int)))] [] (sk_mk S I1) = sk_D179 d 111 [some (.ref 105), some (.int (sj x)), some (.int (sj y)), some (.int (sj w)), some (.int (sj h)), some (.int (sj ((i + 1 : Nat) : Int)))] [] (sk_mk S I') ∧ (∀ k j, k ≤ n → k ≠ i + 1 → j < 4 → I' 107 (117 + 4 * k + j) = shU v (i + 1) n (11 + j) k) ∧ (∀ q, q < 117 → I' 107 q = I 107 q) ∧ ∀ b, b ≠ 107 → I' b = I b := ⟨I1, rfl, h1, h2, h3⟩
      by_cases c3 : y < v 12 i
      · rw [if_pos c3, if_pos (Or.inl c3)]; exact go
      rw [if_neg c3]
      by_cases c4 : v 12 i = y
      · rw [if_neg (by omega)]
        by_cases c5 : v 11 i ≤ x
        · rw [if_pos c5, if_neg (by omega)]; exact no
        · rw [if_neg c5, if_pos (by omega)]; exact go
      · rw [if_pos c4, if_neg (by omega)]; exact no
  obtain ⟨I1, e1, h1, h2, h3⟩ := key n (Nat.le_refl _) I (fun k j hk hkn hj => by rw [shU_n]; exact RP_w hR (by omega) hj) (fun _ _ => rfl) (fun _ _ => rfl)
  rw [e1, sk_e179_111]
  have hle := insP_le v x y n
  generalize insP v x y n = i at *
  have r5 : I1 107 5 = v 0 5 := (h2 5 (by omega)).trans (hR.1 5 (by omega))
  have s0 : (117 + 4 * (i : Int)).toNat = 117 + 4 * i := by omega
  have s1 : (117 + 4 * (i : Int) + 1).toNat = 117 + 4 * i + 1 := by omega
  have s2 : (117 + 4 * (i : Int) + 2).toNat = 117 + 4 * i + 2 := by omega
  have s3 : (117 + 4 * (i : Int) + 3).toNat = 117 + 4 * i + 3 := by omega
  have s5 : (5 : Int).toNat = 5 := rfl
  refine ⟨u2 (u2 (u2 (u2 (u2 I1 107 (117 + 4 * i) x) 107 (117 + 4 * i + 1) y) 107 (117 + 4 * i + 2) w) 107 (117 + 4 * i + 3) h) 107 5 (v 0 5 + 1), ?_, ?_, ?_⟩
  · simp (disch := omega) only [↓g105_r1b hS, ↓g107_ab hS, ↓g107_sb hS, ↓Option.bind_some, ↓sk_ci_some, ↓sk_cv_some, ↓sk_cf_some, if_true, eq_self, ite_self, sj_add, sj_sub, sj_mul, sj_neg, sj_div, s0, s1, s2, s3, s5, u2_ne, r5]
  · refine RP_ww hV.1 hR (fun q hq h5 => ?_) (fun s k hs hk => ?_) ?_ ?_
    · simp (disch := omega) only [u2_ne]
      exact h2 q hq
    · unfold putV u2 shU
      rw [if_neg (by omega), if_neg (by omega), if_neg (by omega), if_neg (by omega), if_neg (by omega), if_neg (by omega)]
    · rw [u2_eq]
      simp [putV, u2]
    · intro k hk j hj
      have e5 : putV v i n x y w h 0 5 = v 0 5 + 1 := by simp [putV, u2]
      rw [e5] at hk
      by_cases e : k = i
      · subst e
        match j, hj with
        | 0, _ => simp [putV, u2]; try (intro h; omega)
        | 1, _ => simp [putV, u2]; try (intro h; omega)
        | 2, _ => simp [putV, u2]; try (intro h; omega)
        | 3, _ => simp [putV, u2]; try (intro h; omega)
      · have : putV v i n x y w h (11 + j) k = shU v i n (11 + j) k := by
          unfold putV
          simp (disch := omega) only [u2_ne]
        rw [this, ← h1 k j (by omega) e hj]
        simp (disch := omega) only [u2_ne]
  · intro b hb
    rw [← h3 b hb]
    funext q
    simp (disch := omega) only [u2_ne]
theorem m180 {d : Nat} (hd : 2 ≤ d) (hS : sk_G S) (hR : RP I 107 v) (hV : VO v) {k : Nat} (hk : (k : Int) < v 0 5) (hn : v 0 5 ≤ 60) (f7 : I 105 7 = v 11 k) (f8 : I 105 8 = v 12 k) (f10 : I 105 10 = k) {w t : Int} (h1 : 0 ≤ w) (h2 : w ≤ v 13 k) (h3 : 0 ≤ t) (h4 : t ≤ v 14 k) : ∃ I', sk_c d 180 [.ref 105, .int (sj w), .int (sj t)] (sk_mk S I) = some (none, sk_mk S I') ∧ RP I' 107 (cornV v k w t) ∧ ∀ b, b ≠ 107 → I' b = I b := by
  obtain ⟨n1, n2, n3, n4, n5, n6, n7, n8, n9, n10, n11, n12⟩ := hV.1
  obtain ⟨d, rfl⟩ : ∃ e, d = e + 1 := ⟨d - 1, by omega⟩; rw [sk_e180]
  have hW := hV.2.2.2.2 k hk
  obtain ⟨V2, -⟩ := VO_cornV hV hk hn h1 h2 h3 h4
  have V1 := VO_dropV hV hk
  have b1 : dropV v k 0 5 = v 0 5 - 1 := by simp [dropV]
  have b2 := wAdd_n (dropV v k) (v 11 k + w) (v 12 k) (v 13 k - w) (v 14 k)
  have s2 : (117 + 4 * (k : Int) + 2).toNat = 117 + 4 * k + 2 := by omega
  have s3 : (117 + 4 * (k : Int) + 3).toNat = 117 + 4 * k + 3 := by omega
  have s5 : (5 : Int).toNat = 5 := rfl
  have r2 : I 107 (117 + 4 * k + 2) = v 13 k := RP_w hR hk (by omega)
  have r3 : I 107 (117 + 4 * k + 3) = v 14 k := RP_w hR hk (by omega)
  have r5 : I 107 5 = v 0 5 := hR.1 5 (by omega)
  have ec := mk_copy (S := S) (I := u2 I 107 5 (v 0 5 - 1)) (a0 := 107) (a := 107) (n0 := 1141) (n1 := 1141) (sp := 117 + 4 * (k : Int) + 4) (dp := 117 + 4 * (k : Int)) (n := 4 * (v 0 5 - 1 - k)) (sh_107 hS) (sh_107 hS) (by omega) (by omega) (by omega) (by omega) (by omega) (by omega) (by omega) (by omega) (by omega)
  have t4 : (117 + 4 * (k : Int) + 4).toNat = 117 + 4 * k + 4 := by omega
  have t0 : (117 + 4 * (k : Int)).toNat = 117 + 4 * k := by omega
  have R1 : RP (cpy2 (u2 I 107 5 (v 0 5 - 1)) 107 (117 + 4 * k + 4) 107 (117 + 4 * k) (4 * (v 0 5 - 1 - k)).toNat) 107 (dropV v k) := by
    refine RP_ww hV.1 hR (fun q hq h5 => ?_) (fun s k hs hk => dropV_same v _ hs hk) ?_ ?_
    · unfold cpy2
      rw [if_neg (by omega), u2_ne _ _ (by omega)]
    · unfold cpy2
      rw [if_neg (by omega), u2_eq, b1]
    · intro j hj i hi
      rw [b1] at hj
      unfold cpy2 dropV
      by_cases e : k ≤ j
      · have t6 : 117 + 4 * k + 4 + (117 + 4 * j + i - (117 + 4 * k)) = 117 + 4 * (j + 1) + i := by omega
        rw [if_pos (by omega), if_pos (by omega), t6, u2_ne _ _ (by omega)]
        exact RP_w hR (by omega) hi
      · rw [if_neg (by omega), if_neg (by omega), if_neg (by omega), u2_ne _ _ (by omega)]
        exact RP_w hR (by omega) hi
  have F1 : ∀ b, b ≠ 107 → cpy2 (u2 I 107 5 (v 0 5 - 1)) 107 (117 + 4 * k + 4) 107 (117 + 4 * k) (4 * (v 0 5 - 1 - k)).toNat b = I b := by
    intro b hb
    funext q
    unfold cpy2
    rw [if_neg (by omega), u2_ne _ _ (by omega)]
  rw [t4, t0] at ec
  generalize cpy2 (u2 I 107 5 (v 0 5 - 1)) 107 (117 + 4 * k + 4) 107 (117 + 4 * k) (4 * (v 0 5 - 1 - k)).toNat = I1 at *
  obtain ⟨I2, e2, c2, f2⟩ := m179 (S := S) (I := I1) (d := d) (by omega) hS R1 V1 (x := v 11 k + w) (y := v 12 k) (w := v 13 k - w) (h := v 14 k) (by omega) (by omega) (by omega) (by omega) (by omega) (by omega) (by omega) (by omega)
  obtain ⟨I3, e3, c3, f3⟩ := m179 (S := S) (I := I2) (d := d) (by omega) hS c2 V2 (x := v 11 k) (y := v 12 k + t) (w := w) (h := v 14 k - t) (by omega) (by omega) (by omega) (by omega) (by omega) (by omega) (by omega) (by omega)
  have g7 : I1 105 7 = v 11 k := by rw [F1 105 (by omega)]; exact f7
  have g8 : I1 105 8 = v 12 k := by rw [F1 105 (by omega)]; exact f8
  have k7 : I2 105 7 = v 11 k := by rw [f2 105 (by omega)]; exact g7
  have k8 : I2 105 8 = v 12 k := by rw [f2 105 (by omega)]; exact g8
  refine ⟨I3, ?_, c3, fun b hb => (f3 b hb).trans ((f2 b hb).trans (F1 b hb))⟩
  simp (disch := omega) only [↓g105_r1b hS, ↓g105_i10b hS, ↓g105_i7b hS, ↓g105_i8b hS, ↓g105_ob hS, ↓g107_ab hS, ↓g107_sb hS, ↓Option.bind_some, ↓sk_ci_some, ↓sk_cv_some, ↓sk_cf_some, if_true, eq_self, ite_self, sj_add, sj_sub, sj_mul, sj_neg, sj_div, f10, s2, s3, s5, r2, r3, r5, u2_ne, u2_eq, ec, g7, g8, k7, k8, e2, e3]
end WSR
