/-! ===== laying a part: the reference's way ===== -/
theorem RP_lie {I v : sk_H} (hV : VO v) (hR : RP I 107 v) {p : Nat} (hp : (p : Int) < v 0 1) (x y o how : Int) : RP (u2 (u2 (u2 (u2 I 107 (47 + p) x) 107 (57 + p) y) 107 (67 + p) o) 107 (77 + p) how) 107 (lieV v p x y o how) := by
  obtain ⟨n1, n2, n3, n4, n5, n6, n7, n8, n9, n10, n11, n12⟩ := hV.1
  obtain ⟨r0, r1, r2, r3, r4⟩ := hR
  have z0 := fun k => lie_ne v p x y o how (s := 0) (k := k) (by omega)
  have zz := fun s k (h : ¬ (s = 6 ∨ s = 7 ∨ s = 8 ∨ s = 5 ∨ s = 15 ∨ s = 16)) => lie_ne v p x y o how (s := s) (k := k) (by omega)
  obtain ⟨l6, l7, l8, l5, l15, l16⟩ := lie_at v p x y o how
  refine ⟨fun k hk => ?_, fun q hq => ?_, fun k hk => ?_, fun c hc => ?_, fun k hk => ?_⟩
  · rw [z0]
    simp (disch := omega) only [u2_ne]
    exact r0 k hk
  · rw [z0] at hq
    have h := r1 q hq
    rw [zz 1 q (by omega), zz 2 q (by omega), zz 3 q (by omega), zz 4 q (by omega)]
    by_cases c : q = p
    · subst c
      rw [l5, l6, l7, l8]
      simp (disch := omega) only [u2_ne, u2_eq]
      exact ⟨h.1, h.2.1, h.2.2.1, h.2.2.2.1, trivial, fun _ => ⟨trivial, trivial, trivial⟩⟩
    · rw [lie_ne v p x y o how (s := 5) (k := q) (by omega), lie_ne v p x y o how (s := 6) (k := q) (by omega), lie_ne v p x y o how (s := 7) (k := q) (by omega), lie_ne v p x y o how (s := 8) (k := q) (by omega)]
      simp (disch := omega) only [u2_ne]
      exact h
  · rw [z0] at hk
    rw [zz 9 k (by omega)]
    simp (disch := omega) only [u2_ne]
    exact r2 k hk
  · rw [z0] at hc
    rw [zz 10 c (by omega)]
    simp (disch := omega) only [u2_ne]
    exact r3 c hc
  · rw [z0] at hk
    rw [zz 11 k (by omega), zz 12 k (by omega), zz 13 k (by omega), zz 14 k (by omega)]
    simp (disch := omega) only [u2_ne]
    exact r4 k hk
theorem RP_sky1 {I v : sk_H} (hV : VO v) (hR : RP I 107 v) {c : Nat} (hc : c < 20) (h : Int) : RP (u2 I 107 (97 + c) h) 107 (skyS v c 1 h) := by
  obtain ⟨n1, n2, n3, n4, n5, n6, n7, n8, n9, n10, n11, n12⟩ := hV.1
  obtain ⟨r0, r1, r2, r3, r4⟩ := hR
  have zz := fun s k (hs : s ≠ 10) => sky_ne v c 1 h (s := s) (k := k) hs
  refine ⟨fun k hk => ?_, fun q hq => ?_, fun k hk => ?_, fun e he => ?_, fun k hk => ?_⟩
  · rw [zz 0 k (by omega)]
    simp (disch := omega) only [u2_ne]
    exact r0 k hk
  · rw [zz 0 1 (by omega)] at hq
    rw [zz 1 q (by omega), zz 2 q (by omega), zz 3 q (by omega), zz 4 q (by omega), zz 5 q (by omega), zz 6 q (by omega), zz 7 q (by omega), zz 8 q (by omega)]
    simp (disch := omega) only [u2_ne]
    exact r1 q hq
  · rw [zz 0 2 (by omega)] at hk
    rw [zz 9 k (by omega)]
    simp (disch := omega) only [u2_ne]
    exact r2 k hk
  · rw [zz 0 0 (by omega)] at he
    unfold skyS
    by_cases c1 : e = c
    · subst c1
      rw [if_pos (by omega), u2_eq]
    · rw [if_neg (by omega), u2_ne _ _ (by omega)]
      exact r3 e he
  · rw [zz 0 5 (by omega)] at hk
    rw [zz 11 k (by omega), zz 12 k (by omega), zz 13 k (by omega), zz 14 k (by omega)]
    simp (disch := omega) only [u2_ne]
    exact r4 k hk
theorem sky_succ (v : sk_H) (x k : Nat) (h : Int) : skyS (skyS v x k h) (x + k) 1 h = skyS v x (k + 1) h := by
  funext s j
  unfold skyS
  by_cases c : s = 10 ∧ x ≤ j ∧ j < x + (k + 1)
  · rw [if_pos c]
    by_cases c2 : j = x + k
    · rw [if_pos (by omega)]
    · rw [if_neg (by omega), if_pos (by omega)]
  · rw [if_neg (by omega), if_neg (by omega), if_neg c]
section LAR
variable {S : List sk_Sh} {I v : sk_H}
theorem m181 {d : Nat} (hd : 4 ≤ d) (hS : sk_G S) (hR : RP I 107 v) (hV : VO v) {x w : Nat} (hw : 1 ≤ w) {y t : Int} (f7 : I 105 7 = x) (f8 : I 105 8 = y) (hx : (x : Int) + w ≤ v 0 0) (hy : ∀ c, x ≤ c → c < x + w → v 10 c ≤ y) (hy1 : 0 ≤ y) (hy2 : y ≤ 300) (hn : v 0 5 + bndN v x w w ≤ 62) (ht : 0 ≤ t) (ht2 : y + t ≤ 300) : ∃ I', sk_c d 181 [.ref 105, .int (sj w), .int (sj t)] (sk_mk S I) = some (none, sk_mk S I') ∧ RP I' 107 (raisV v x w y t) ∧ ∀ b, b ≠ 107 → I' b = I b := by
  obtain ⟨n1, n2, n3, n4, n5, n6, n7, n8, n9, n10, n11, n12⟩ := hV.1
  obtain ⟨d, rfl⟩ : ∃ e, d = e + 1 := ⟨d - 1, by omega⟩; rw [sk_e181]
  have inv := rG_inv hV hx hy hy2 hn
  have hm : ∀ m k, m + k = w → bndN v x w k ≤ bndN v x w w := by
    intro m
    induction m with
    | zero => intro k hk; obtain rfl : k = w := (by omega); exact Int.le_refl _
    | succ m ih =>
      intro k hk
      have h1 := ih (k + 1) (by omega)
      have h2 : bndN v x w k ≤ bndN v x w (k + 1) := by
        unfold bndN
        rw [cntTo_succ]
        split <;> omega
      omega
  -- the piece behind which column k stands is closed
  have clo : ∀ k, k < w → ∀ I1, RP I1 107 (rG v x w y k).1 → (∀ b, b ≠ 107 → I1 b = I b) → ¬ (k + 1 < w ∧ v 10 (x + k + 1) = v 10 (x + k)) → ∃ I', sk_D181 d 59 [some (.ref 105), some (.int (sj w)), some (.int (sj t)), some (.int (sj ((x + k + 1 : Nat) : Int))), some (.int (sj ((rG v x w y k).2 : Int))), some (.int (sj (v 10 (x + k))))] [] (sk_mk S I1) = sk_D181 d 5 [some (.ref 105), some (.int (sj w)), some (.int (sj t)), some (.int (sj ((x + k + 1 : Nat) : Int))), some (.int (sj ((rG v x w y k).2 : Int))), some (.int (sj (v 10 (x + k))))] [] (sk_mk S I') ∧ RP I' 107 (rG v x w y (k + 1)).1 ∧ (rG v x w y (k + 1)).2 = x + k + 1 ∧ ∀ b, b ≠ 107 → I' b = I b := by
    intro k hk I1 h1 h2 hc
    obtain ⟨i1, i2, i3, i4⟩ := inv k (by omega)
    have hmk := hm (w - k) k (by omega)
    have hE := hV.2.2.2.1 (x + k) (by omega)
    have hyk := hy (x + k) (by omega) (by omega)
    have er : rG v x w y (k + 1) = (adR (rG v x w y k).1 (rG v x w y k).2 (v 10 (x + k)) ((x + k + 1 : Nat) - (rG v x w y k).2 : Int) (y - v 10 (x + k)), x + k + 1) := by
      rw [rG_succ]
      unfold rSt
      rw [if_neg hc]
    rw [er]
    have g8 : I1 105 8 = y := by rw [h2 105 (by omega)]; exact f8
    have t1 : ((x + k + 1 : Nat) : Int) - ((rG v x w y k).2 : Int) = ((x + k + 1 : Nat) - (rG v x w y k).2 : Int) := rfl
    rw [sk_e181_59]
    simp (disch := omega) only [↓g105_i8b hS, ↓Option.bind_some, ↓sk_ci_some, ↓sk_cv_some, ↓sk_cf_some, if_true, eq_self, ite_self, g8, sj_ceq, sj_cne, sj_clt, sj_cge, sj_cgt, sj_cle, bi_ceq, bi_cne, bi_01]
    by_cases c2 : y ≤ v 10 (x + k)
    · rw [if_pos c2]
      refine ⟨I1, rfl, ?_, trivial, h2⟩
      have : adR (rG v x w y k).1 (rG v x w y k).2 (v 10 (x + k)) ((x + k + 1 : Nat) - (rG v x w y k).2 : Int) (y - v 10 (x + k)) = (rG v x w y k).1 := by
        unfold adR wAdd
        split
        · rfl
        · rw [if_pos (by omega)]
      try dsimp only
      rw [this]
      exact h1
    · rw [if_neg c2]
      have e157 := m157 (S := S) (I := I1) (d := d) (by omega) hS h1 i1 (x := ((rG v x w y k).2 : Int)) (y := v 10 (x + k)) (w := ((x + k + 1 : Nat) - (rG v x w y k).2 : Int)) (t := y - v 10 (x + k)) (by omega) (by omega) (by omega) (by omega) (by omega) (by omega) (by omega) (by omega)
      simp (disch := omega) only [↓g105_i8b hS, ↓g105_ob hS, ↓Option.bind_some, ↓sk_ci_some, ↓sk_cv_some, ↓sk_cf_some, if_true, eq_self, ite_self, g8, sj_sub, e157, bi_cne]
      unfold adR
      cases ho : overV (rG v x w y k).1 ((rG v x w y k).2 : Int) (v 10 (x + k)) ((x + k + 1 : Nat) - (rG v x w y k).2 : Int) (y - v 10 (x + k)) with
      | true =>
        rw [if_pos rfl]
        exact ⟨I1, rfl, h1, trivial, h2⟩
      | false =>
        obtain ⟨I2, e2, c3, f2⟩ := m179 (S := S) (I := I1) (d := d) (by omega) hS h1 i1 (x := ((rG v x w y k).2 : Int)) (y := v 10 (x + k)) (w := ((x + k + 1 : Nat) - (rG v x w y k).2 : Int)) (h := y - v 10 (x + k)) (by omega) (by omega) (by omega) (by omega) (by omega) (by omega) (by omega) (by omega)
        rw [if_neg (by simp), e2, sk_cv_some]
        exact ⟨I2, rfl, c3, trivial, fun b hb => (f2 b hb).trans (h2 b hb)⟩
  -- at the inner loop's head, behind column k
  have key : ∀ m k, m + k + 1 = w → ∀ I1, RP I1 107 (rG v x w y k).1 → (∀ b, b ≠ 107 → I1 b = I b) → ∃ I' o3 o5, sk_D181 d 29 [some (.ref 105), some (.int (sj w)), some (.int (sj t)), some (.int (sj ((x + k + 1 : Nat) : Int))), some (.int (sj ((rG v x w y k).2 : Int))), some (.int (sj (v 10 (x + k))))] [] (sk_mk S I1) = sk_D181 d 118 [some (.ref 105), some (.int (sj w)), some (.int (sj t)), o3, some (.int (sj x)), o5] [] (sk_mk S I') ∧ RP I' 107 (rG v x w y w).1 ∧ ∀ b, b ≠ 107 → I' b = I b := by
    intro m
    induction m with
    | zero =>
      intro k hk I1 h1 h2
      have g7 : I1 105 7 = x := by rw [h2 105 (by omega)]; exact f7
      obtain ⟨I2, e2, c2, -, f2⟩ := clo k (by omega) I1 h1 h2 (by omega)
      have k7 : I2 105 7 = x := by rw [f2 105 (by omega)]; exact f7
      obtain rfl : k + 1 = w := by omega
      refine ⟨I2, some (.int (sj ((x + k + 1 : Nat) : Int))), some (.int (sj (v 10 (x + k)))), ?_, c2, f2⟩
      rw [sk_e181_29]
      simp (disch := omega) only [↓g105_i7b hS, ↓Option.bind_some, ↓sk_ci_some, ↓sk_cv_some, ↓sk_cf_some, if_true, eq_self, ite_self, g7, sj_add, sj_ceq, sj_cne, sj_clt, sj_cge, sj_cgt, sj_cle, bi_ceq, bi_cne, bi_01]
      rw [if_pos (by omega), e2, sk_e181_5]
      simp (disch := omega) only [↓g105_i7b hS, ↓Option.bind_some, ↓sk_ci_some, ↓sk_cv_some, ↓sk_cf_some, if_true, eq_self, ite_self, k7, sj_add, sj_ceq, sj_cne, sj_clt, sj_cge, sj_cgt, sj_cle, bi_ceq, bi_cne, bi_01]
      rw [if_pos (by omega)]
    | succ m ih =>
      intro k hk I1 h1 h2
      have g7 : I1 105 7 = x := by rw [h2 105 (by omega)]; exact f7
      have hE1 := hV.2.2.2.1 (x + k) (by omega)
      have hE2 := hV.2.2.2.1 (x + k + 1) (by omega)
      obtain ⟨i1, i2, i3, i4⟩ := inv k (by omega)
      have t1 : ((x + k + 1 : Nat) : Int) + 1 = ((x + (k + 1) + 1 : Nat) : Int) := rfl
      have t2 : (97 + ((x + k + 1 : Nat) : Int)).toNat = 97 + (x + k + 1) := by omega
      have h00 : (rG v x w y k).1 0 0 = v 0 0 := rG_same v x w y k (by omega) (by omega)
      have r1 : I1 107 (97 + (x + k + 1)) = v 10 (x + k + 1) := by rw [h1.2.2.2.1 (x + k + 1) (by rw [h00]; omega)]; exact rG_sky _ _ _ _ _ _
      rw [sk_e181_29]
      simp (disch := omega) only [↓g105_i7b hS, ↓g105_r1b hS, ↓g107_ab hS, ↓Option.bind_some, ↓sk_ci_some, ↓sk_cv_some, ↓sk_cf_some, if_true, eq_self, ite_self, g7, sj_add, t1, t2, r1, sj_ceq, sj_cne, sj_clt, sj_cge, sj_cgt, sj_cle, bi_ceq, bi_cne, bi_01]
      rw [if_neg (by omega)]
      by_cases c : v 10 (x + k + 1) = v 10 (x + k)
      · have er : rG v x w y (k + 1) = rG v x w y k := by
          rw [rG_succ]
          unfold rSt
          rw [if_pos ⟨by omega, c⟩]
        rw [if_neg (fun h => h c)]
        have := ih (k + 1) (by omega) I1 (by rw [er]; exact h1) h2
        rw [er, show x + (k + 1) = x + k + 1 from rfl, c] at this
        exact this
      · rw [if_pos c]
        obtain ⟨I2, e2, c2, c3, f2⟩ := clo k (by omega) I1 h1 h2 (fun h => c h.2)
        have k7 : I2 105 7 = x := by rw [f2 105 (by omega)]; exact f7
        have h01 : (rG v x w y (k + 1)).1 0 0 = v 0 0 := rG_same v x w y (k + 1) (by omega) (by omega)
        have r2 : I2 107 (97 + (x + k + 1)) = v 10 (x + k + 1) := by rw [c2.2.2.2.1 (x + k + 1) (by rw [h01]; omega)]; exact rG_sky _ _ _ _ _ _
        rw [e2, sk_e181_5]
        simp (disch := omega) only [↓g105_i7b hS, ↓g105_r1b hS, ↓g107_ab hS, ↓Option.bind_some, ↓sk_ci_some, ↓sk_cv_some, ↓sk_cf_some, if_true, eq_self, ite_self, k7, sj_add, t2, r2, sj_ceq, sj_cne, sj_clt, sj_cge, sj_cgt, sj_cle, bi_ceq, bi_cne, bi_01]
        rw [if_neg (by omega), sk_e181_29]
        simp (disch := omega) only [↓g105_i7b hS, ↓g105_r1b hS, ↓g107_ab hS, ↓Option.bind_some, ↓sk_ci_some, ↓sk_cv_some, ↓sk_cf_some, if_true, eq_self, ite_self, k7, sj_add, t1, t2, r2, sj_ceq, sj_cne, sj_clt, sj_cge, sj_cgt, sj_cle, bi_ceq, bi_cne, bi_01]
        rw [if_neg (by omega), if_neg (fun h => h trivial)]
        have := ih (k + 1) (by omega) I2 c2 f2
        rw [c3] at this
        exact this
  -- the start
  have r0 : I 107 (97 + x) = v 10 x := hR.2.2.2.1 x (by omega)
  have hE0 := hV.2.2.2.1 x (by omega)
  have t0 : (97 + (x : Int)).toNat = 97 + x := by omega
  have t1 : (x : Int) + 1 = ((x + 0 + 1 : Nat) : Int) := rfl
  obtain ⟨I1, o3, o5, e1, h1, f1⟩ := key (w - 1) 0 (by omega) I hR (fun _ _ => rfl)
  have w1 : VO (rG v x w y w).1 := (inv w (Nat.le_refl _)).1
  have h00 : (rG v x w y w).1 0 0 = v 0 0 := rG_same v x w y w (by omega) (by omega)
  have fin := lp_run (fun k (X : Option sk_R) => ∃ I', X = sk_D181 d 118 [some (.ref 105), some (.int (sj w)), some (.int (sj t)), o3, some (.int (sj ((x + k : Nat) : Int))), o5] [] (sk_mk S I') ∧ RP I' 107 (skyS (rG v x w y w).1 x k (y + t)) ∧ ∀ b, b ≠ 107 → I' b = I b) w (fun k X hk hX => by
    obtain ⟨I2, rfl, h2, f2⟩ := hX
    have k7 : I2 105 7 = x := by rw [f2 105 (by omega)]; exact f7
    have k8 : I2 105 8 = y := by rw [f2 105 (by omega)]; exact f8
    have t2 : (97 + ((x + k : Nat) : Int)).toNat = 97 + (x + k) := by omega
    have t3 : ((x + k : Nat) : Int) + 1 = ((x + (k + 1) : Nat) : Int) := rfl
    refine ⟨u2 I2 107 (97 + (x + k)) (y + t), ?_, ?_, ?_⟩
    · rw [sk_e181_118]
      simp (disch := omega) only [↓g105_i7b hS, ↓g105_i8b hS, ↓g105_r1b hS, ↓g107_sb hS, ↓Option.bind_some, ↓sk_ci_some, ↓sk_cv_some, ↓sk_cf_some, if_true, eq_self, ite_self, k7, k8, sj_add, t2, t3, sj_ceq, sj_cne, sj_clt, sj_cge, sj_cgt, sj_cle, bi_ceq, bi_cne, bi_01]
      rw [if_neg (by omega)]
    · rw [← sky_succ]
      exact RP_sky1 (VO_skyS w1 (by omega) (by omega)) h2 (by omega) _
    · intro b hb
      rw [← f2 b hb]
      funext j
      exact u2_ne _ _ (by omega)) ⟨I1, rfl, by
        have : skyS (rG v x w y w).1 x 0 (y + t) = (rG v x w y w).1 := by
          funext s k
          unfold skyS
          rw [if_neg (by omega)]
        rw [this]
        exact h1, f1⟩
  obtain ⟨I2, e2, h2, f2⟩ := fin
  have k7 : I2 105 7 = x := by rw [f2 105 (by omega)]; exact f7
  refine ⟨I2, ?_, h2, f2⟩
  simp (disch := omega) only [↓g105_i7b hS, ↓Option.bind_some, ↓sk_ci_some, ↓sk_cv_some, ↓sk_cf_some, if_true, eq_self, ite_self, f7]
  rw [sk_e181_5]
  simp (disch := omega) only [↓g105_i7b hS, ↓g105_r1b hS, ↓g107_ab hS, ↓Option.bind_some, ↓sk_ci_some, ↓sk_cv_some, ↓sk_cf_some, if_true, eq_self, ite_self, f7, sj_add, t0, r0, sj_ceq, sj_cne, sj_clt, sj_cge, sj_cgt, sj_cle, bi_ceq, bi_cne, bi_01]
  rw [if_neg (by omega), sk_e181_29]
  simp (disch := omega) only [↓g105_i7b hS, ↓g105_r1b hS, ↓g107_ab hS, ↓Option.bind_some, ↓sk_ci_some, ↓sk_cv_some, ↓sk_cf_some, if_true, eq_self, ite_self, f7, sj_add, t0, t1, r0, sj_ceq, sj_cne, sj_clt, sj_cge, sj_cgt, sj_cle, bi_ceq, bi_cne, bi_01]
  rw [if_neg (by omega), if_neg (fun h => h trivial)]
  have e1 : sk_D181 d 29 [some (.ref 105), some (.int (sj w)), some (.int (sj t)), some (.int (sj ((x + 0 + 1 : Nat) : Int))), some (.int (sj x)), some (.int (sj (v 10 x)))] [] (sk_mk S I) = _ := e1
  rw [e1]
  have e2 : sk_D181 d 118 [some (.ref 105), some (.int (sj w)), some (.int (sj t)), o3, some (.int (sj x)), o5] [] (sk_mk S I1) = _ := e2
  rw [e2, sk_e181_118]
  simp (disch := omega) only [↓g105_i7b hS, ↓Option.bind_some, ↓sk_ci_some, ↓sk_cv_some, ↓sk_cf_some, if_true, eq_self, ite_self, k7, sj_add, sj_ceq, sj_cne, sj_clt, sj_cge, sj_cgt, sj_cle, bi_ceq, bi_cne, bi_01]
  rw [if_pos (by omega)]
/-- a part is laid, if it can be -/
def layV (v : sk_H) (p : Nat) : sk_H := match fF v p with
  | none => v
  | some q => setV v p q
/-- what a run of the reference may change -/
def FS (I I' : sk_H) : Prop := (∀ b, b ≠ 105 → b ≠ 107 → I' b = I b) ∧ ∀ k, ¬ (7 ≤ k ∧ k ≤ 10) → I' 105 k = I 105 k
theorem FS.rfl' (I : sk_H) : FS I I := ⟨fun _ _ _ => rfl, fun _ _ => rfl⟩
theorem FS.trans {I J K : sk_H} (h1 : FS I J) (h2 : FS J K) : FS I K := ⟨fun b hb hc => (h2.1 b hb hc).trans (h1.1 b hb hc), fun k hk => (h2.2 k hk).trans (h1.2 k hk)⟩
theorem FS.of107 {I J : sk_H} (h : ∀ b, b ≠ 107 → J b = I b) : FS I J := ⟨fun b _ hc => h b hc, fun k _ => by rw [h 105 (by omega)]⟩
theorem FS.ofFR {I J : sk_H} (h : FR I J) : FS I J := ⟨fun b hb _ => h.1 b hb, h.2⟩
theorem m182 {d : Nat} (hd : 6 ≤ d) (hS : sk_G S) (hR : RP I 107 v) (hT : VT v) {p : Nat} (hp : (p : Int) < v 0 1) (h0 : v 5 p = 0) : ∃ I', sk_c d 182 [.ref 105, .int (sj p)] (sk_mk S I) = some (some (.int (sj (bi (fF v p).isSome))), sk_mk S I') ∧ RP I' 107 (layV v p) ∧ FS I I' ∧ RS I' (fF v p) := by
  have hV := hT.1
  obtain ⟨n1, n2, n3, n4, n5, n6, n7, n8, n9, n10, n11, n12⟩ := hV.1
  obtain ⟨d, rfl⟩ : ∃ e, d = e + 1 := ⟨d - 1, by omega⟩; rw [sk_e182]
  obtain ⟨I1, e1, s1, q1, f1⟩ := m178 (S := S) (I := I) (d := d) (by omega) hS hR hV hp
  have hR1 := hR.FR f1
  simp (disch := omega) only [↓g105_ob hS, ↓Option.bind_some, ↓sk_ci_some, ↓sk_cv_some, ↓sk_cf_some, if_true, eq_self, ite_self, e1, bi_cne]
  unfold layV
  cases hf : fF v p with
  | none =>
    rw [if_neg (by simp)]
    exact ⟨I1, rfl, hR1, FS.ofFR f1, trivial⟩
  | some q =>
    rw [hf] at s1 q1
    obtain ⟨g7, g8, g9, g10⟩ := s1
    obtain ⟨b1, b2, b3, b4, b5, b6, b7, b8, b9⟩ := q1
    rw [if_pos (show (some q).isSome = true from rfl)]
    have hq := fF_FQ hf
    have hset : ∀ how : Int, RP (u2 (u2 (u2 (u2 I1 107 (47 + p) q.1) 107 (57 + p) q.2.1) 107 (67 + p) q.2.2.1) 107 (77 + p) how) 107 (lieV v p q.1 q.2.1 q.2.2.1 how) := fun how => RP_lie hV hR1 hp _ _ _ _
    have hfr : ∀ how : Int, ∀ b, b ≠ 107 → (u2 (u2 (u2 (u2 I1 107 (47 + p) q.1) 107 (57 + p) q.2.1) 107 (67 + p) q.2.2.1) 107 (77 + p) how) b = I1 b := fun how b hb => funext fun j => by simp (disch := omega) only [u2_ne]
    have t1 : (47 + (p : Int)).toNat = 47 + p := by omega
    have t2 : (57 + (p : Int)).toNat = 57 + p := by omega
    have t3 : (67 + (p : Int)).toNat = 67 + p := by omega
    have t4 : (77 + (p : Int)).toNat = 77 + p := by omega
    obtain ⟨l6, l7, l8, l5, l15, l16⟩ := lie_at v p q.1 q.2.1 q.2.2.1 2
    obtain ⟨n6, n7, n8, n5, n15, n16⟩ := lie_at v p q.1 q.2.1 q.2.2.1 3
    have ha2 := acr_rng hV.1 (vo_p hV hp) q.2.2.1
    have ht2 := tal_rng hV.1 (vo_p hV hp) q.2.2.1
    have hl := ldN_rng hV
    have hpot := hT.2.2.1
    have hseg := cntTo_rng ((v 0 0).toNat - 1) (fun c => decide (v 10 (c + 1) ≠ v 10 c))
    have hl9 : ldN v ≤ 9 := by
      have := cntTo_lt (n := (v 0 1).toNat) (P := fun p => decide (2 ≤ v 5 p)) (Q := fun _ => true) (fun _ _ _ => rfl) (p := p) (by omega) rfl (by simp [h0])
      have h2 := cntTo_rng (v 0 1).toNat (fun _ => true)
      unfold ldN
      omega
    unfold segN at hpot
    unfold setV
    obtain ⟨ho, hq⟩ := hq
    rcases hq with ⟨c1, x, c2, c3, c4⟩ | ⟨k, c1, c2, c3, c4, c5, c6⟩
    · obtain ⟨r1, r2, r3, r4⟩ := ras_ok hT hp h0 ho c3
      rw [← c4] at r2 r3 r4
      have hlv : VO (lieV v p q.1 q.2.1 q.2.2.1 2) := VO_lieV hV hp (by omega) (by omega) r2 (by omega) ho (by omega) (by omega) (by omega)
      have zz := fun s k (h : s = 0 ∨ 10 ≤ s ∧ s ≤ 14) => lie_ne v p q.1 q.2.1 q.2.2.1 2 (s := s) (k := k) (by omega)
      have hR2 := hset 2
      have hF2 := hfr 2
      have e70 : sk_D182 d 70 [some (.ref 105), some (.int (sj p))] [.int (sj 2), .int (sj (77 + (p : Int))), .ref 107] (sk_mk S (u2 (u2 (u2 I1 107 (47 + p) q.1) 107 (57 + p) q.2.1) 107 (67 + p) q.2.2.1)) = sk_D182 d 70 [some (.ref 105), some (.int (sj p))] [.int (sj 2), .int (sj (77 + (p : Int))), .ref 107] (sk_mk S (u2 (u2 (u2 I1 107 (47 + p) q.1) 107 (57 + p) q.2.1) 107 (67 + p) q.2.2.1)) := rfl
      simp (maxSteps := 1000000) (disch := omega) only [↓g105_r1b hS, ↓g105_i7b hS, ↓g105_i8b hS, ↓g105_i9b hS, ↓g105_i10b hS, ↓g107_sb hS, ↓Option.bind_some, ↓sk_ci_some, ↓sk_cv_some, ↓sk_cf_some, if_true, eq_self, ite_self, sj_add, t1, t2, t3, u2_ne, g7, g8, g9, g10, c1, sj_ceq, sj_cne, sj_clt, sj_cge, sj_cgt, sj_cle, bi_ceq, bi_cne, bi_01]
      rw [if_neg (fun h => h trivial), sk_e182_70, g107_s hS (by omega) (by omega), Option.bind_some, t4]
      have k10 : (u2 (u2 (u2 (u2 I1 107 (47 + p) q.1) 107 (57 + p) q.2.1) 107 (67 + p) q.2.2.1) 107 (77 + p) 2) 105 10 = -1 := by rw [hF2 105 (by omega), g10]; exact c1
      have k7 : (u2 (u2 (u2 (u2 I1 107 (47 + p) q.1) 107 (57 + p) q.2.1) 107 (67 + p) q.2.2.1) 107 (77 + p) 2) 105 7 = x := by rw [hF2 105 (by omega), g7]; exact c2
      have k8 : (u2 (u2 (u2 (u2 I1 107 (47 + p) q.1) 107 (57 + p) q.2.1) 107 (67 + p) q.2.2.1) 107 (77 + p) 2) 105 8 = q.2.1 := by rw [hF2 105 (by omega), g8]
      generalize (u2 (u2 (u2 (u2 I1 107 (47 + p) q.1) 107 (57 + p) q.2.1) 107 (67 + p) q.2.2.1) 107 (77 + p) 2) = I2 at *
      generalize hL : lieV v p q.1 q.2.1 q.2.2.1 2 = L at *
      have e154 := m154 (S := S) (I := I2) (d := d) (by omega) hS hR2 hlv (p := p) (by rw [zz 0 1 (by omega)]; exact hp) (by rw [l5]; decide)
      have e155 := m155 (S := S) (I := I2) (d := d) (by omega) hS hR2 hlv (p := p) (by rw [zz 0 1 (by omega)]; exact hp) (by rw [l5]; decide)
      rw [l15] at e154
      rw [l16] at e155
      obtain ⟨w, hw⟩ : ∃ w : Nat, acr v p q.2.2.1 = w := ⟨(acr v p q.2.2.1).toNat, by omega⟩
      rw [hw] at e154 c3 r4 ha2 ⊢
      rw [Int.toNat_natCast] at r4 ⊢
      have hbr := bndN_rng L x w w
      obtain ⟨I3, e3, h3, f3⟩ := m181 (S := S) (I := I2) (d := d) (by omega) hS hR2 hlv (x := x) (w := w) (by omega) (y := q.2.1) (t := tal v p q.2.2.1) k7 k8 (by rw [zz 0 0 (by omega)]; exact c3) (fun c h1 h2 => by rw [zz 10 c (by omega)]; exact r4 c h1 h2) r2 (by omega) (by rw [zz 0 5 (by omega)]; omega) (by omega) (by omega)
      try rw [if_pos c1]
      have g105 : I3 105 = I1 105 := (f3 105 (by omega)).trans (hF2 105 (by omega))
      refine ⟨I3, ?_, by rw [c2]; exact h3, (FS.ofFR f1).trans ((FS.of107 hF2).trans (FS.of107 f3)), ?_⟩
      · simp (disch := omega) only [↓g105_i10b hS, ↓g105_ob hS, ↓Option.bind_some, ↓sk_ci_some, ↓sk_cv_some, ↓sk_cf_some, if_true, eq_self, ite_self, k10, e154, e155, e3, sj_ceq, sj_cne, sj_clt, sj_cge, sj_cgt, sj_cle, bi_ceq, bi_cne, bi_01]
        rw [if_neg (fun h => h trivial)]
        rfl
      · show I3 105 7 = _ ∧ I3 105 8 = _ ∧ I3 105 9 = _ ∧ I3 105 10 = _
        rw [g105]
        exact ⟨g7, g8, g9, g10⟩
    · have hk1 : ¬ q.2.2.2.1 = -1 := by omega
      have hW := hV.2.2.2.2 k c2
      have hlv : VO (lieV v p q.1 q.2.1 q.2.2.1 3) := VO_lieV hV hp (by omega) (by omega) (by omega) (by omega) ho (by omega) (by omega) (by omega)
      have zz := fun s k (h : s = 0 ∨ 10 ≤ s ∧ s ≤ 14) => lie_ne v p q.1 q.2.1 q.2.2.1 3 (s := s) (k := k) (by omega)
      have hR2 := hset 3
      have hF2 := hfr 3
      have ck : ¬ (k : Int) = -1 := by omega
      simp (maxSteps := 1000000) (disch := omega) only [↓g105_r1b hS, ↓g105_i7b hS, ↓g105_i8b hS, ↓g105_i9b hS, ↓g105_i10b hS, ↓g107_sb hS, ↓Option.bind_some, ↓sk_ci_some, ↓sk_cv_some, ↓sk_cf_some, if_true, eq_self, ite_self, sj_add, t1, t2, t3, u2_ne, g7, g8, g9, g10, c1, sj_ceq, sj_cne, sj_clt, sj_cge, sj_cgt, sj_cle, bi_ceq, bi_cne, bi_01]
      rw [if_pos ck, sk_e182_70, g107_s hS (by omega) (by omega), Option.bind_some, t4]
      have k10 : (u2 (u2 (u2 (u2 I1 107 (47 + p) q.1) 107 (57 + p) q.2.1) 107 (67 + p) q.2.2.1) 107 (77 + p) 3) 105 10 = k := by rw [hF2 105 (by omega), g10]; exact c1
      have k7 : (u2 (u2 (u2 (u2 I1 107 (47 + p) q.1) 107 (57 + p) q.2.1) 107 (67 + p) q.2.2.1) 107 (77 + p) 3) 105 7 = v 11 k := by rw [hF2 105 (by omega), g7]; exact c3
      have k8 : (u2 (u2 (u2 (u2 I1 107 (47 + p) q.1) 107 (57 + p) q.2.1) 107 (67 + p) q.2.2.1) 107 (77 + p) 3) 105 8 = v 12 k := by rw [hF2 105 (by omega), g8]; exact c4
      generalize (u2 (u2 (u2 (u2 I1 107 (47 + p) q.1) 107 (57 + p) q.2.1) 107 (67 + p) q.2.2.1) 107 (77 + p) 3) = I2 at *
      generalize hL : lieV v p q.1 q.2.1 q.2.2.1 3 = L at *
      have e154 := m154 (S := S) (I := I2) (d := d) (by omega) hS hR2 hlv (p := p) (by rw [zz 0 1 (by omega)]; exact hp) (by rw [n5]; decide)
      have e155 := m155 (S := S) (I := I2) (d := d) (by omega) hS hR2 hlv (p := p) (by rw [zz 0 1 (by omega)]; exact hp) (by rw [n5]; decide)
      rw [n15] at e154
      rw [n16] at e155
      obtain ⟨I3, e3, h3, f3⟩ := m180 (S := S) (I := I2) (d := d) (by omega) hS hR2 hlv (k := k) (by rw [zz 0 5 (by omega)]; exact c2) (by rw [zz 0 5 (by omega)]; omega) (by rw [zz 11 k (by omega)]; exact k7) (by rw [zz 12 k (by omega)]; exact k8) k10 (w := acr v p q.2.2.1) (t := tal v p q.2.2.1) (by omega) (by rw [zz 13 k (by omega)]; exact c5) (by omega) (by rw [zz 14 k (by omega)]; exact c6)
      first | rw [if_neg hk1, c1] | rw [if_neg ck] | skip
      try rw [Int.toNat_natCast]
      have g105 : I3 105 = I1 105 := (f3 105 (by omega)).trans (hF2 105 (by omega))
      refine ⟨I3, ?_, h3, (FS.ofFR f1).trans ((FS.of107 hF2).trans (FS.of107 f3)), ?_⟩
      · simp (disch := omega) only [↓g105_i10b hS, ↓g105_ob hS, ↓Option.bind_some, ↓sk_ci_some, ↓sk_cv_some, ↓sk_cf_some, if_true, eq_self, ite_self, k10, e154, e155, e3, sj_ceq, sj_cne, sj_clt, sj_cge, sj_cgt, sj_cle, bi_ceq, bi_cne, bi_01]
        rw [if_pos ck]
        rfl
      · show I3 105 7 = _ ∧ I3 105 8 = _ ∧ I3 105 9 = _ ∧ I3 105 10 = _
        rw [g105]
        exact ⟨g7, g8, g9, g10⟩
end LAR
