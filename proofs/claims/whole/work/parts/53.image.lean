/-! ===== the image; counts ===== -/
def alk (v : sk_H) (p q : Nat) : Bool := decide (v 1 p = v 1 q ∧ v 2 p = v 2 q ∧ v 3 p = v 3 q ∧ v 4 p = v 4 q)
theorem alk_sym (v : sk_H) (p q : Nat) : alk v p q = alk v q p := by
  unfold alk
  by_cases h : v 1 p = v 1 q ∧ v 2 p = v 2 q ∧ v 3 p = v 3 q ∧ v 4 p = v 4 q
  · rw [decide_eq_true h, decide_eq_true ⟨h.1.symm, h.2.1.symm, h.2.2.1.symm, h.2.2.2.symm⟩]
  · rw [decide_eq_false h, decide_eq_false (fun q => h ⟨q.1.symm, q.2.1.symm, q.2.2.1.symm, q.2.2.2.symm⟩)]
theorem alk_self (v : sk_H) (p : Nat) : alk v p p = true := decide_eq_true ⟨rfl, rfl, rfl, rfl⟩
def unlN (v : sk_H) : Int := cntTo (v 0 1).toNat (fun k => !anyTo k (fun b => alk v b k))
def likN (v : sk_H) (k : Nat) : Int := 1 + cntTo k (fun b => alk v (v 9 b).toNat (v 9 k).toNat)
def ordN (v : sk_H) (n : Nat) : Int := fld n (fun k s => s * ((k : Int) + 1) / likN v k) 1
def fct : Nat → Int
  | 0 => 1
  | k + 1 => fct k * ((k : Int) + 1)
theorem fct_pos : ∀ k, 1 ≤ fct k := by
  intro k
  induction k with
  | zero => exact Int.le_refl _
  | succ k ih =>
    show 1 ≤ fct k * ((k : Int) + 1)
    have := Int.mul_le_mul (a := 1) (b := 1) (c := fct k) (d := (k : Int) + 1) ih (by omega) (by omega) (by omega)
    omega
theorem fct_le {k : Nat} (h : k ≤ 10) : fct k ≤ 3628800 := by
  match k, h with
  | 0, _ | 1, _ | 2, _ | 3, _ | 4, _ | 5, _ | 6, _ | 7, _ | 8, _ | 9, _ | 10, _ => decide
theorem likN_rng (v : sk_H) (k : Nat) : 1 ≤ likN v k ∧ likN v k ≤ k + 1 := by
  have := cntTo_rng k (fun b => alk v (v 9 b).toNat (v 9 k).toNat)
  unfold likN
  omega
theorem ord_st {s : Int} {k : Nat} (h0 : 0 ≤ s) (h1 : s ≤ fct k) {l : Int} (hl : 1 ≤ l) : 0 ≤ s * ((k : Int) + 1) ∧ s * ((k : Int) + 1) ≤ fct (k + 1) ∧ 0 ≤ s * ((k : Int) + 1) / l ∧ s * ((k : Int) + 1) / l ≤ fct (k + 1) := by
  have a1 : 0 ≤ s * ((k : Int) + 1) := Int.mul_nonneg h0 (by omega)
  have a2 : s * ((k : Int) + 1) ≤ fct k * ((k : Int) + 1) := Int.mul_le_mul h1 (Int.le_refl _) (by omega) (by omega)
  have a3 : s * ((k : Int) + 1) / l ≤ s * ((k : Int) + 1) := Int.ediv_le_self l a1
  have a4 : 0 ≤ s * ((k : Int) + 1) / l := Int.ediv_nonneg a1 (by omega)
  have e : fct (k + 1) = fct k * ((k : Int) + 1) := rfl
  rw [e]
  omega
theorem ordN_rng (v : sk_H) (n : Nat) : 0 ≤ ordN v n ∧ ordN v n ≤ fct n :=
  fld_inv (fun k (s : Int) => 0 ≤ s ∧ s ≤ fct k) (fun k s _ h => ⟨(ord_st h.1 h.2 (likN_rng v k).1).2.2.1, (ord_st h.1 h.2 (likN_rng v k).1).2.2.2⟩) ⟨by decide, Int.le_refl _⟩
theorem topV_rng {v : sk_H} (hV : VO v) : 0 ≤ topV v ∧ topV v ≤ 1000 := by
  obtain ⟨n1, n2, n3, n4, n5, n6, n7, n8, n9, n10, n11, n12⟩ := hV.1
  have h1 : 0 ≤ maxTo (v 0 0).toNat (fun c => v 10 c) 0 ∧ maxTo (v 0 0).toNat (fun c => v 10 c) 0 ≤ 1000 := maxTo_rng ⟨by omega, by omega⟩ (fun k hk => by have := hV.2.2.2.1 k (by omega); omega)
  refine fld_inv (fun _ (s : Int) => 0 ≤ s ∧ s ≤ 1000) (fun k s hk hs => ?_) h1
  split
  · next h5 =>
    have := vly hV (p := k) (by omega) (by omega)
    split <;> omega
  · exact hs
section IMG
variable {S : List sk_Sh} {I v : sk_H} {a : Nat}
theorem f_image (hS : sk_G S) (hG : GI I v) : FC S I 128 227 [] := by
  have hG0 := hG
  obtain ⟨hv, hT, hR, hTp, hM, hRk, hSh⟩ := hG; have hV := hT.1; have ha : sk_isP 15 := Or.inl rfl; obtain ⟨n1, n2, n3, n4, n5, n6, n7, n8, n9, n10, n11, n12⟩ := hV.1
  obtain ⟨I1, e1, h1, f1⟩ := m36 (S := S) (I := I) (d := 19) (by omega) hS (a := 34) (b := 15) (Or.inr (Or.inl rfl)) ha (by omega) hv hV
  have k5 : u2 I1 1 9 1 15 5 = v 0 1 := by rw [u2_ne _ _ (by omega), f1 15 (by omega)]; exact vc5 hv
  obtain ⟨I2, e2, h2, f2⟩ := m146 (S := S) (I := u2 I1 1 9 1) (d := 19) (by omega) hS (m := 1) (by omega)
  have z1 : (1 : Int).toNat = 1 := rfl
  have f2' : ∀ c, c ≠ 108 → I2 c = u2 I1 1 9 1 c := f2
  have e107 : u2 I1 1 9 1 107 = I 107 := (funext fun t => u2_ne _ _ (by omega)).trans (f1 107 (by omega))
  have r1 : u2 I2 105 2 1 107 1 = v 0 1 := by rw [u2_ne _ _ (by omega), f2' 107 (by omega), e107]; exact hR.1 1 (by omega)
  refine ⟨sj (v 0 1), u2 I1 1 9 1, u2 I2 105 2 1, v, ?_, ?_, ?_⟩
  · rw [sk_e128, g1_r2b hS, g1_r1b hS, pl_ob hS (Or.inr (Or.inl rfl) : sk_isP 34), e1, sk_cv_some, g1_u9b hS, g1_r1b hS, pl_i5b hS ha, k5]
  · rw [sk_e227, g105_ob hS]
    have e2 : sk_c 19 146 [.ref 105, .int (sj 1)] (sk_mk S (u2 I1 1 9 1)) = some (none, sk_mk S I2) := e2
    rw [e2, sk_cv_some, g105_u2b hS, g105_r1b hS, g107_ab hS (by omega) (by omega), z1, r1]
  · have fA : ∀ b, b ≠ 1 → b ≠ 105 → b ≠ 108 → ¬ (34 ≤ b ∧ b < 53) → u2 I2 105 2 1 b = I b := fun b x1 x2 x3 x4 => by
      rw [← f1 b (by omega)]
      funext t
      rw [u2_ne _ _ (by omega), f2' b x3, u2_ne _ _ (by omega)]
    have e34 : vC (u2 I2 105 2 1) 34 = vC I1 34 := vC_fr (fun b b1 b2 => funext fun t => by rw [u2_ne _ _ (by omega), f2' b (by omega), u2_ne _ _ (by omega)])
    have hTi : VT (vC I1 34) := VT_VA hT h1
    refine ⟨(vC_fr (fun b b1 b2 => fA b (by omega) (by omega) (by omega) (by omega))).trans hv, hT, hR.fr (fA 107 (by omega) (by omega) (by omega) (by omega)), ?_, Or.inr ⟨?_, u2_eq _ _ _ _, ?_, ?_⟩, fun r hr => ?_, fun s hs => ?_⟩
    · refine GT_fr hTp (by rw [fA 2 (by omega) (by omega) (by omega) (by omega)]) ?_ (fA 3 (by omega) (by omega) (by omega) (by omega)) (fA 110 (by omega) (by omega) (by omega) (by omega)) (fun k hk => fA _ (by omega) (by omega) (by omega) (by omega))
      rw [u2_ne _ _ (by omega), f2' 105 (by omega), u2_ne _ _ (by omega), f1 105 (by omega)]
    · rw [u2_ne _ _ (by omega), f2' 1 (by omega), u2_eq]
    · rw [e34]; exact hTi
    · rw [e34]
      have hb : RP I 107 (vC I1 34) := RP_VA hR h1
      refine RP_of hTi.1.1 hb (fun k hk => ?_)
      rw [u2_ne _ _ (by omega)]
      exact (h2 k hk).trans (by rw [e107])
    · exact GR1_fr (hRk r hr) (Int.le_refl _) (fA _ (by omega) (by omega) (by omega) (by omega)) (fA _ (by omega) (by omega) (by omega) (by omega)) (fA _ (by omega) (by omega) (by omega) (by omega)) (fA _ (by omega) (by omega) (by omega) (by omega)) (fA _ (by omega) (by omega) (by omega) (by omega))
    · exact GH1_fr (hSh s hs) (fA _ (by omega) (by omega) (by omega) (by omega)) (fA _ (by omega) (by omega) (by omega) (by omega)) (fA _ (by omega) (by omega) (by omega) (by omega)) (fA _ (by omega) (by omega) (by omega) (by omega)) (fA _ (by omega) (by omega) (by omega) (by omega))
theorem f_back (hS : sk_G S) (hG : GI I v) : FC S I 129 228 [] := by
  have hG0 := hG
  obtain ⟨hv, hT, hR, hTp, hM, hRk, hSh⟩ := hG; have hV := hT.1; have ha : sk_isP 15 := Or.inl rfl; obtain ⟨n1, n2, n3, n4, n5, n6, n7, n8, n9, n10, n11, n12⟩ := hV.1
  rcases hM with ⟨k1, k2⟩ | ⟨k1, k2, k3, k4⟩
  · refine FC_same hG0 (-3) ?_ ?_
    · rw [sk_e129, g1_i9b hS, k1, if_neg (kn_ne rfl)]
    · rw [sk_e228, g105_i2b hS, k2, if_neg (kn_ne rfl)]
  obtain ⟨I1, e1, h1, f1⟩ := m36 (S := S) (I := I) (d := 19) (by omega) hS (a := 15) (b := 34) ha (Or.inr (Or.inl rfl)) (by omega) rfl k3.1
  obtain ⟨I2, e2, h2, f2⟩ := m140 (S := S) (I := I1) (d := 19) (by omega) hS
  have e15 : vC I2 15 = vC I1 15 := vC_fr (fun b b1 b2 => f2 b (fun r hr => by omega))
  have c105 : I2 105 = I 105 := (f2 105 (fun r hr => by omega)).trans (f1 105 (by omega))
  have c108 : I2 108 = I 108 := (f2 108 (fun r hr => by omega)).trans (f1 108 (by omega))
  obtain ⟨I3, e3, h3, f3⟩ := m147 (S := S) (I := I2) (d := 19) (by omega) hS (m := 1) (by omega)
  obtain ⟨I4, e4, h4, f4⟩ := m221 (S := S) (I := I3) (d := 19) (by omega) hS
  have hTi : VT (vC I1 15) := VT_VA k3 h1
  have hR4 : RP I4 107 (vC I1 15) := by
    have hb : RP I 108 (vC I1 15) := RP_VA k4 h1
    refine RP_of hTi.1.1 hb (fun k hk => ?_)
    rw [f4 107 (by omega), h3 k hk]
    show I2 108 k = _
    rw [c108]
  have z1 : (1 : Int).toNat = 1 := rfl
  have r1 : I4 107 1 = vC I1 15 0 1 := hR4.1 1 (by omega)
  have e36 : sk_c 19 36 [.ref 15, .ref 34] (sk_mk S I) = some (none, sk_mk S I1) := e1
  have e147 : sk_c 19 147 [.ref 105, .int (sj 1)] (sk_mk S I2) = some (none, sk_mk S I3) := e3
  refine ⟨sj (vC I1 15 0 1), I2, I4, vC I1 15, ?_, ?_, ?_⟩
  · rw [sk_e129, g1_i9b hS, k1, if_pos (ky_ne (by omega) (by omega) (by omega) (by omega) (by omega)), g1_r1b hS, g1_r2b hS, pl_ob hS ha, e36, sk_cv_some, g1_ob hS, e2, sk_cv_some, g1_r1b hS, pl_i5b hS ha, vc5 e15]
  · rw [sk_e228, g105_i2b hS, c105, k2, if_pos (ky_ne (by omega) (by omega) (by omega) (by omega) (by omega)), g105_ob hS, e147, sk_cv_some, g105_ob hS, e4, sk_cv_some, g105_r1b hS, g107_ab hS (by omega) (by omega), z1, r1]
  · have g : ∀ b, b ≠ 107 → ¬ (120 ≤ b ∧ b < 124) → I4 b = I2 b := fun b x1 x2 => (f4 b x2).trans (f3 b x1)
    refine GI_empty hG0 ?_ hTi hR4 (fun b b1 b2 b3 b4 => (g b b2 b4).trans ((f2 b b3).trans (f1 b b1))) (fun r hr i hi => ?_) h4
    · exact (vC_fr (fun b b1 b2 => g b (by omega) (by omega))).trans e15
    · rw [g _ (by omega) (by omega)]
      exact h2 r hr i hi
theorem m60 {d : Nat} (hd : 2 ≤ d) (hS : sk_G S) (ha : sk_isP a) (hv : vC I a = v) (hV : VO v) : sk_c d 60 [.ref a] (sk_mk S I) = some (some (.int (sj (unlN v))), sk_mk S I) := by
  obtain ⟨n1, n2, n3, n4, n5, n6, n7, n8, n9, n10, n11, n12⟩ := hV.1
  obtain ⟨d, rfl⟩ : ∃ e, d = e + 1 := ⟨d - 1, by omega⟩; rw [sk_e60]
  have inner : ∀ (k : Nat) (s : Int), (k : Int) < v 0 1 → ∃ o3 o4, sk_D60 d 17 [some (.ref a), some (.int (sj s)), some (.int (sj (k : Int))), some (.int (sj 1)), some (.int (sj 0))] [] (sk_mk S I) = sk_D60 d 4 [some (.ref a), some (.int (sj (if (!anyTo k (fun b => alk v b k)) = true then s + 1 else s))), some (.int (sj ((k + 1 : Nat) : Int))), o3, o4] [] (sk_mk S I) := by
    intro k s hk
    have t1 : (k : Int) + 1 = ((k + 1 : Nat) : Int) := rfl
    have key := lp_run (fun b (X : Option sk_R) => X = sk_D60 d 17 [some (.ref a), some (.int (sj s)), some (.int (sj (k : Int))), some (.int (sj (bi (!anyTo b (fun b => alk v b k))))), some (.int (sj (b : Int)))] [] (sk_mk S I)) k (fun b X hb hX => by
      have t2 : (b : Int) + 1 = ((b + 1 : Nat) : Int) := rfl
      obtain ⟨p1, p2, p3, p4, p5, p6, p7, p8, -⟩ := vo_p hV (p := b) (by omega)
      obtain ⟨q1, q2, q3, q4, q5, q6, q7, q8, -⟩ := vo_p hV (p := k) hk
      have x0 : I (a + 9 + b) 0 = v 1 b := vp0 hv (by omega)
      have x1 : I (a + 9 + b) 1 = v 2 b := vp1 hv (by omega)
      have x2 : I (a + 9 + b) 2 = v 3 b := vp2 hv (by omega)
      have x3 : I (a + 9 + b) 3 = v 4 b := vp3 hv (by omega)
      have y0 : I (a + 9 + k) 0 = v 1 k := vp0 hv (by omega)
      have y1 : I (a + 9 + k) 1 = v 2 k := vp1 hv (by omega)
      have y2 : I (a + 9 + k) 2 = v 3 k := vp2 hv (by omega)
      have y3 : I (a + 9 + k) 3 = v 4 k := vp3 hv (by omega)
      have e34 := m34 (S := S) (I := I) (d := d) (by omega) (sh_pt hS ha (n := b) (by omega)) (sh_pt hS ha (n := k) (by omega)) (fun j hj => by
        match j, hj with
        | 0, _ => rw [x0, y0]; omega
        | 1, _ => rw [x1, y1]; omega
        | 2, _ => rw [x2, y2]; omega
        | 3, _ => rw [x3, y3]; omega)
      rw [x0, x1, x2, x3, y0, y1, y2, y3] at e34
      have e34 : sk_c d 34 [.ref (a + 9 + b), .ref (a + 9 + k)] (sk_mk S I) = some (some (.int (sj (bi (alk v b k)))), sk_mk S I) := e34
      rw [hX, sk_e60_17, if_neg (kn_ge (by omega) (by omega) (by omega) (by omega) (by omega)), pl_r0b hS ha, pl_pb hS ha (by omega) (by omega), pl_r0b hS ha, pl_pb hS ha (by omega) (by omega), Int.toNat_natCast, Int.toNat_natCast, pq_ob hS ha (by omega), e34, sk_ci_some, sj_add, t2]
      show _ = sk_D60 d 17 [some (.ref a), some (.int (sj s)), some (.int (sj (k : Int))), some (.int (sj (bi (!(anyTo b (fun b => alk v b k) || alk v b k))))), some (.int (sj ((b + 1 : Nat) : Int)))] [] (sk_mk S I)
      cases alk v b k with
      | false => rw [if_pos cf_beq, Bool.or_false]
      | true => rw [if_neg ct_beq, Bool.or_true]; rfl) rfl
    refine ⟨some (.int (sj (bi (!anyTo k (fun b => alk v b k))))), some (.int (sj (k : Int))), key.trans ?_⟩
    rw [sk_e60_17, if_pos (ky_ge (by omega) (by omega) (by omega) (by omega) (by omega)), sj_add, sj_add, t1]
    cases anyTo k (fun b => alk v b k) with
    | false => rw [if_neg (show ¬ sk_cond .eq (sj (bi (!false))) (sj 0) = true from ct_beq), if_pos (show (!false) = true from rfl)]
    | true => rw [if_pos (show sk_cond .eq (sj (bi (!true))) (sj 0) = true from cf_beq), if_neg (show ¬ (!true) = true by simp)]
  obtain ⟨hi, g, e⟩ := lp_fold (γ := Option Value × Option Value) (fun k s g => sk_D60 d 4 [some (.ref a), some (.int (sj s)), some (.int (sj (k : Int))), g.1, g.2] [] (sk_mk S I)) (fun k s => if (!anyTo k (fun b => alk v b k)) = true then s + 1 else s) (v 0 1).toNat (fun k s => True) (fun k s g hk hs => by
    refine ⟨trivial, ?_⟩
    obtain ⟨o3, o4, e⟩ := inner k s (by omega)
    refine ⟨(o3, o4), ?_⟩
    rw [sk_e60_4, pl_i5b hS ha, vc5 hv, if_neg (kn_ge (by omega) (by omega) (by omega) (by omega) (by omega))]
    exact e) 0 (none, none) trivial
  refine e.trans ?_
  rw [sk_e60_4, pl_i5b hS ha, vc5 hv, if_pos (ky_ge (by omega) (by omega) (by omega) (by omega) (by omega))]
  rfl
theorem m229 {d : Nat} (hd : 1 ≤ d) (hS : sk_G S) (hR : RP I 107 v) (hV : VO v) {p q : Nat} (hp : (p : Int) < v 0 1) (hq : (q : Int) < v 0 1) : sk_c d 229 [.ref 105, .int (sj p), .int (sj q)] (sk_mk S I) = some (some (.int (sj (bi (alk v p q)))), sk_mk S I) := by
  obtain ⟨n1, n2, n3, n4, n5, n6, n7, n8, n9, n10, n11, n12⟩ := hV.1
  obtain ⟨d, rfl⟩ : ∃ e, d = e + 1 := ⟨d - 1, by omega⟩; rw [sk_e229]
  obtain ⟨p1, p2, p3, p4, p5, p6, p7, p8, -⟩ := vo_p hV hp
  obtain ⟨q1, q2, q3, q4, q5, q6, q7, q8, -⟩ := vo_p hV hq
  obtain ⟨x1, x2, x3, x4, -⟩ := hR.2.1 p hp
  obtain ⟨y1, y2, y3, y4, -⟩ := hR.2.1 q hq
  have t1 : (7 + (p : Int)).toNat = 7 + p := by omega
  have t2 : (17 + (p : Int)).toNat = 17 + p := by omega
  have t3 : (27 + (p : Int)).toNat = 27 + p := by omega
  have t4 : (37 + (p : Int)).toNat = 37 + p := by omega
  have s1 : (7 + (q : Int)).toNat = 7 + q := by omega
  have s2 : (17 + (q : Int)).toNat = 17 + q := by omega
  have s3 : (27 + (q : Int)).toNat = 27 + q := by omega
  have s4 : (37 + (q : Int)).toNat = 37 + q := by omega
  simp only [sj_add]
  unfold alk
  rw [g105_r1b hS, g107_ab hS (by omega) (by omega), t1, x1, g105_r1b hS, g107_ab hS (by omega) (by omega), s1, y1]
  by_cases c1 : v 1 p = v 1 q
  rotate_left
  · rw [if_pos (ky_ne (by omega) (by omega) (by omega) (by omega) c1), decide_eq_false (fun h => c1 h.1)]; rfl
  rw [if_neg (kn_ne c1), g105_r1b hS, g107_ab hS (by omega) (by omega), t2, x2, g105_r1b hS, g107_ab hS (by omega) (by omega), s2, y2]
  by_cases c2 : v 2 p = v 2 q
  rotate_left
  · rw [if_pos (ky_ne (by omega) (by omega) (by omega) (by omega) c2), decide_eq_false (fun h => c2 h.2.1)]; rfl
  rw [if_neg (kn_ne c2), g105_r1b hS, g107_ab hS (by omega) (by omega), t3, x3, g105_r1b hS, g107_ab hS (by omega) (by omega), s3, y3]
  by_cases c3 : v 3 p = v 3 q
  rotate_left
  · rw [if_pos (ky_ne (by omega) (by omega) (by omega) (by omega) c3), decide_eq_false (fun h => c3 h.2.2.1)]; rfl
  rw [if_neg (kn_ne c3), g105_r1b hS, g107_ab hS (by omega) (by omega), t4, x4, g105_r1b hS, g107_ab hS (by omega) (by omega), s4, y4]
  by_cases c4 : v 4 p = v 4 q
  · rw [if_neg (kn_ne c4), decide_eq_true ⟨c1, c2, c3, c4⟩]; rfl
  · rw [if_pos (ky_ne (by omega) (by omega) (by omega) (by omega) c4), decide_eq_false (fun h => c4 h.2.2.2)]; rfl
theorem m230 {d : Nat} (hd : 2 ≤ d) (hS : sk_G S) (hR : RP I 107 v) (hV : VO v) : sk_c d 230 [.ref 105] (sk_mk S I) = some (some (.int (sj (unlN v))), sk_mk S I) := by
  obtain ⟨n1, n2, n3, n4, n5, n6, n7, n8, n9, n10, n11, n12⟩ := hV.1
  obtain ⟨d, rfl⟩ : ∃ e, d = e + 1 := ⟨d - 1, by omega⟩; rw [sk_e230]
  have r1 : I 107 1 = v 0 1 := hR.1 1 (by omega)
  have z1 : (1 : Int).toNat = 1 := rfl
  have inner : ∀ (k : Nat) (s : Int), (k : Int) < v 0 1 → ∃ o3, sk_D230 d 16 [some (.ref 105), some (.int (sj s)), some (.int (sj (k : Int))), some (.int (sj 0))] [] (sk_mk S I) = sk_D230 d 4 [some (.ref 105), some (.int (sj (if (!anyTo k (fun b => alk v b k)) = true then s + 1 else s))), some (.int (sj ((k + 1 : Nat) : Int))), o3] [] (sk_mk S I) := by
    intro k s hk
    have t1 : (k : Int) + 1 = ((k + 1 : Nat) : Int) := rfl
    have key : ∀ m q : Nat, q + m = k → anyTo q (fun b => alk v b k) = false → ∃ o3, sk_D230 d 16 [some (.ref 105), some (.int (sj s)), some (.int (sj (k : Int))), some (.int (sj (q : Int)))] [] (sk_mk S I) = sk_D230 d 4 [some (.ref 105), some (.int (sj (if (!anyTo k (fun b => alk v b k)) = true then s + 1 else s))), some (.int (sj ((k + 1 : Nat) : Int))), o3] [] (sk_mk S I) := by
      intro m
      induction m with
      | zero =>
        intro q hq hn
        obtain rfl : q = k := by omega
        have e229 := m229 (S := S) (I := I) (d := d) (by omega) hS hR hV hk hk
        rw [alk_self] at e229
        refine ⟨some (.int (sj (q : Int))), ?_⟩
        rw [sk_e230_16, g105_ob hS, e229, sk_ci_some, if_pos ct_bne, if_neg (kn_ne rfl), sj_add, sj_add, t1, hn]
        rfl
      | succ m ih =>
        intro q hq hn
        have t2 : (q : Int) + 1 = ((q + 1 : Nat) : Int) := rfl
        have e229 := m229 (S := S) (I := I) (d := d) (by omega) hS hR hV hk (q := q) (by omega)
        rw [alk_sym] at e229
        cases hl : alk v q k with
        | true =>
          rw [hl] at e229
          have hy : anyTo k (fun b => alk v b k) = true := (anyTo_iff _ _).mpr ⟨q, by omega, hl⟩
          refine ⟨some (.int (sj (q : Int))), ?_⟩
          rw [sk_e230_16, g105_ob hS, e229, sk_ci_some, if_pos ct_bne, if_pos (ky_ne (by omega) (by omega) (by omega) (by omega) (by omega)), sj_add, t1, hy]
          rfl
        | false =>
          rw [hl] at e229
          rw [sk_e230_16, g105_ob hS, e229, sk_ci_some, if_neg cf_bne, sj_add, t2]
          exact ih (q + 1) (by omega) (by simp [anyTo, hn, hl])
    exact key k 0 (by omega) rfl
  obtain ⟨hi, g, e⟩ := lp_fold (γ := Option Value) (fun k s g => sk_D230 d 4 [some (.ref 105), some (.int (sj s)), some (.int (sj (k : Int))), g] [] (sk_mk S I)) (fun k s => if (!anyTo k (fun b => alk v b k)) = true then s + 1 else s) (v 0 1).toNat (fun k s => True) (fun k s g hk hs => by
    refine ⟨trivial, ?_⟩
    obtain ⟨o3, e⟩ := inner k s (by omega)
    refine ⟨o3, ?_⟩
    rw [sk_e230_4, g105_r1b hS, g107_ab hS (by omega) (by omega), z1, r1, if_neg (kn_ge (by omega) (by omega) (by omega) (by omega) (by omega))]
    exact e) 0 none trivial
  refine e.trans ?_
  rw [sk_e230_4, g105_r1b hS, g107_ab hS (by omega) (by omega), z1, r1, if_pos (ky_ge (by omega) (by omega) (by omega) (by omega) (by omega))]
  rfl
theorem m61 {d : Nat} (hd : 2 ≤ d) (hS : sk_G S) (ha : sk_isP a) (hv : vC I a = v) (hV : VO v) : sk_c d 61 [.ref a] (sk_mk S I) = some (some (.int (sj (ordN v (v 0 2).toNat))), sk_mk S I) := by
  obtain ⟨n1, n2, n3, n4, n5, n6, n7, n8, n9, n10, n11, n12⟩ := hV.1
  obtain ⟨d, rfl⟩ : ∃ e, d = e + 1 := ⟨d - 1, by omega⟩; rw [sk_e61]
  have inner : ∀ (k : Nat) (s : Int), (k : Int) < v 0 2 → 0 ≤ s → s ≤ fct k → ∃ o3 o4, sk_D61 d 17 [some (.ref a), some (.int (sj s)), some (.int (sj (k : Int))), some (.int (sj 1)), some (.int (sj 0))] [] (sk_mk S I) = sk_D61 d 4 [some (.ref a), some (.int (sj (s * ((k : Int) + 1) / likN v k))), some (.int (sj ((k + 1 : Nat) : Int))), o3, o4] [] (sk_mk S I) := by
    intro k s hk s0 s1
    have t1 : (k : Int) + 1 = ((k + 1 : Nat) : Int) := rfl
    obtain ⟨d1, d2, d3⟩ := hV.2.2.1.1 k hk
    obtain ⟨y, hy⟩ : ∃ y : Nat, v 9 k = y := ⟨(v 9 k).toNat, by omega⟩
    have key := lp_run (fun b (X : Option sk_R) => X = sk_D61 d 17 [some (.ref a), some (.int (sj s)), some (.int (sj (k : Int))), some (.int (sj (1 + cntTo b (fun b => alk v (v 9 b).toNat (v 9 k).toNat)))), some (.int (sj (b : Int)))] [] (sk_mk S I)) k (fun b X hb hX => by
      have t2 : (b : Int) + 1 = ((b + 1 : Nat) : Int) := rfl
      obtain ⟨g1, g2, g3⟩ := hV.2.2.1.1 b (by omega)
      obtain ⟨x, hx⟩ : ∃ x : Nat, v 9 b = x := ⟨(v 9 b).toNat, by omega⟩
      obtain ⟨p1, p2, p3, p4, p5, p6, p7, p8, -⟩ := vo_p hV (p := x) (by omega)
      obtain ⟨q1, q2, q3, q4, q5, q6, q7, q8, -⟩ := vo_p hV (p := y) (by omega)
      have x0 : I (a + 9 + x) 0 = v 1 x := vp0 hv (by omega)
      have x1 : I (a + 9 + x) 1 = v 2 x := vp1 hv (by omega)
      have x2 : I (a + 9 + x) 2 = v 3 x := vp2 hv (by omega)
      have x3 : I (a + 9 + x) 3 = v 4 x := vp3 hv (by omega)
      have y0 : I (a + 9 + y) 0 = v 1 y := vp0 hv (by omega)
      have y1 : I (a + 9 + y) 1 = v 2 y := vp1 hv (by omega)
      have y2 : I (a + 9 + y) 2 = v 3 y := vp2 hv (by omega)
      have y3 : I (a + 9 + y) 3 = v 4 y := vp3 hv (by omega)
      have e34 := m34 (S := S) (I := I) (d := d) (by omega) (sh_pt hS ha (n := x) (by omega)) (sh_pt hS ha (n := y) (by omega)) (fun j hj => by
        match j, hj with
        | 0, _ => rw [x0, y0]; omega
        | 1, _ => rw [x1, y1]; omega
        | 2, _ => rw [x2, y2]; omega
        | 3, _ => rw [x3, y3]; omega)
      rw [x0, x1, x2, x3, y0, y1, y2, y3] at e34
      have e34 : sk_c d 34 [.ref (a + 9 + x), .ref (a + 9 + y)] (sk_mk S I) = some (some (.int (sj (bi (alk v x y)))), sk_mk S I) := e34
      have ob : I (a + 2) b = x := by rw [vo_ hv]; exact hx
      have ok : I (a + 2) k = y := by rw [vo_ hv]; exact hy
      rw [hX, sk_e61_17, if_neg (kn_ge (by omega) (by omega) (by omega) (by omega) (by omega)), pl_r0b hS ha, pl_r1b hS ha, po_ab hS ha (by omega) (by omega), Int.toNat_natCast, ob, pl_pb hS ha (by omega) (by omega), pl_r0b hS ha, pl_r1b hS ha, po_ab hS ha (by omega) (by omega), Int.toNat_natCast, Int.toNat_natCast, ok, pl_pb hS ha (by omega) (by omega), Int.toNat_natCast, pq_ob hS ha (by omega), e34, sk_ci_some, cntTo_succ, hx, hy, Int.toNat_natCast, Int.toNat_natCast]
      simp only [sj_add, t2]
      cases alk v x y with
      | false => rw [if_pos cf_beq, if_neg (show ¬ (false = true) by simp)]
      | true => rw [if_neg ct_beq, if_pos (show (true = true) from rfl), Int.add_assoc]) rfl
    refine ⟨some (.int (sj (likN v k))), some (.int (sj (k : Int))), key.trans ?_⟩
    have hl := likN_rng v k
    have hst := ord_st s0 s1 hl.1
    have hf := fct_le (k := k + 1) (by omega)
    have hl2 : 1 + cntTo k (fun b => alk v (v 9 b).toNat (v 9 k).toNat) = likN v k := rfl
    rw [hl2, sk_e61_17, if_pos (ky_ge (by omega) (by omega) (by omega) (by omega) (by omega)), if_neg (by rw [sj_v0 (by omega) (by omega)]; omega), sj_add, sj_mul, sj_div hst.1 (by omega) (by omega) (by omega), t1]
  obtain ⟨hi, g, e⟩ := lp_fold (γ := Option Value × Option Value) (fun k s g => sk_D61 d 4 [some (.ref a), some (.int (sj s)), some (.int (sj (k : Int))), g.1, g.2] [] (sk_mk S I)) (fun k s => s * ((k : Int) + 1) / likN v k) (v 0 2).toNat (fun k s => 0 ≤ s ∧ s ≤ fct k) (fun k s g hk hs => by
    have hst := ord_st hs.1 hs.2 (likN_rng v k).1
    refine ⟨⟨hst.2.2.1, hst.2.2.2⟩, ?_⟩
    obtain ⟨o3, o4, e⟩ := inner k s (by omega) hs.1 hs.2
    refine ⟨(o3, o4), ?_⟩
    rw [sk_e61_4, pl_i6b hS ha, vc6 hv, if_neg (kn_ge (by omega) (by omega) (by omega) (by omega) (by omega))]
    exact e) 1 (none, none) ⟨by decide, Int.le_refl _⟩
  refine e.trans ?_
  rw [sk_e61_4, pl_i6b hS ha, vc6 hv, if_pos (ky_ge (by omega) (by omega) (by omega) (by omega) (by omega))]
  rfl
theorem m231 {d : Nat} (hd : 2 ≤ d) (hS : sk_G S) (hR : RP I 107 v) (hV : VO v) : sk_c d 231 [.ref 105] (sk_mk S I) = some (some (.int (sj (ordN v (v 0 2).toNat))), sk_mk S I) := by
  obtain ⟨n1, n2, n3, n4, n5, n6, n7, n8, n9, n10, n11, n12⟩ := hV.1
  obtain ⟨d, rfl⟩ : ∃ e, d = e + 1 := ⟨d - 1, by omega⟩; rw [sk_e231]
  have r2 : I 107 2 = v 0 2 := hR.1 2 (by omega)
  have z2 : (2 : Int).toNat = 2 := rfl
  have inner : ∀ (k : Nat) (s : Int), (k : Int) < v 0 2 → 0 ≤ s → s ≤ fct k → ∃ o3 o4, sk_D231 d 19 [some (.ref 105), some (.int (sj s)), some (.int (sj (k : Int))), some (.int (sj 0)), some (.int (sj 0))] [] (sk_mk S I) = sk_D231 d 4 [some (.ref 105), some (.int (sj (s * ((k : Int) + 1) / likN v k))), some (.int (sj ((k + 1 : Nat) : Int))), o3, o4] [] (sk_mk S I) := by
    intro k s hk s0 s1
    have t1 : (k : Int) + 1 = ((k + 1 : Nat) : Int) := rfl
    obtain ⟨d1, d2, d3⟩ := hV.2.2.1.1 k hk
    obtain ⟨y, hy⟩ : ∃ y : Nat, v 9 k = y := ⟨(v 9 k).toNat, by omega⟩
    have ok : I 107 (87 + k) = y := by rw [hR.2.2.1 k hk]; exact hy
    have tk : (87 + (k : Int)).toNat = 87 + k := by omega
    have key := lp_run (fun b (X : Option sk_R) => X = sk_D231 d 19 [some (.ref 105), some (.int (sj s)), some (.int (sj (k : Int))), some (.int (sj (cntTo b (fun b => alk v (v 9 b).toNat (v 9 k).toNat)))), some (.int (sj (b : Int)))] [] (sk_mk S I)) (k + 1) (fun b X hb hX => by
      have t2 : (b : Int) + 1 = ((b + 1 : Nat) : Int) := rfl
      obtain ⟨g1, g2, g3⟩ := hV.2.2.1.1 b (by omega)
      obtain ⟨x, hx⟩ : ∃ x : Nat, v 9 b = x := ⟨(v 9 b).toNat, by omega⟩
      have ob : I 107 (87 + b) = x := by rw [hR.2.2.1 b (by omega)]; exact hx
      have tb : (87 + (b : Int)).toNat = 87 + b := by omega
      have e229 := m229 (S := S) (I := I) (d := d) (by omega) hS hR hV (p := x) (q := y) (by omega) (by omega)
      rw [hX, sk_e231_19, if_neg (kn_gt (by omega) (by omega) (by omega) (by omega) (by omega)), cntTo_succ, hx, hy, Int.toNat_natCast, Int.toNat_natCast]
      simp only [sj_add, t2]
      rw [g105_r1b hS, g107_ab hS (by omega) (by omega), tb, ob, g105_r1b hS, g107_ab hS (by omega) (by omega), tk, ok, g105_ob hS, e229, sk_ci_some]
      cases alk v x y with
      | false => rw [if_pos cf_beq, if_neg (show ¬ (false = true) by simp)]
      | true => rw [if_neg ct_beq, if_pos (show (true = true) from rfl)]) rfl
    refine ⟨some (.int (sj (likN v k))), some (.int (sj ((k + 1 : Nat) : Int))), key.trans ?_⟩
    have hl := likN_rng v k
    have hst := ord_st s0 s1 hl.1
    have hf := fct_le (k := k + 1) (by omega)
    have hl2 : cntTo (k + 1) (fun b => alk v (v 9 b).toNat (v 9 k).toNat) = likN v k := by
      rw [cntTo_succ, alk_self, if_pos rfl]
      unfold likN
      omega
    rw [hl2, sk_e231_19, if_pos (ky_gt (by omega) (by omega) (by omega) (by omega) (by omega)), if_neg (by rw [sj_v0 (by omega) (by omega)]; omega), sj_add, sj_mul, sj_div hst.1 (by omega) (by omega) (by omega), t1]
  obtain ⟨hi, g, e⟩ := lp_fold (γ := Option Value × Option Value) (fun k s g => sk_D231 d 4 [some (.ref 105), some (.int (sj s)), some (.int (sj (k : Int))), g.1, g.2] [] (sk_mk S I)) (fun k s => s * ((k : Int) + 1) / likN v k) (v 0 2).toNat (fun k s => 0 ≤ s ∧ s ≤ fct k) (fun k s g hk hs => by
    have hst := ord_st hs.1 hs.2 (likN_rng v k).1
    refine ⟨⟨hst.2.2.1, hst.2.2.2⟩, ?_⟩
    obtain ⟨o3, o4, e⟩ := inner k s (by omega) hs.1 hs.2
    refine ⟨(o3, o4), ?_⟩
    rw [sk_e231_4, g105_r1b hS, g107_ab hS (by omega) (by omega), z2, r2, if_neg (kn_ge (by omega) (by omega) (by omega) (by omega) (by omega))]
    exact e) 1 (none, none) ⟨by decide, Int.le_refl _⟩
  refine e.trans ?_
  rw [sk_e231_4, g105_r1b hS, g107_ab hS (by omega) (by omega), z2, r2, if_pos (ky_ge (by omega) (by omega) (by omega) (by omega) (by omega))]
  rfl
theorem r232 {d : Nat} (hd : 4 ≤ d + 1) (hS : sk_G S) (hR : RP I 107 v) (hV : VO v) (o1 : Option Value) : sk_D232 d 66 [some (.ref 105), o1, some (.int (sj 0)), some (.int (sj 0))] [] (sk_mk S I) = some (some (.int (sj (lyN v))), sk_mk S I) := by
  obtain ⟨n1, n2, n3, n4, n5, n6, n7, n8, n9, n10, n11, n12⟩ := hV.1
  have r1 : I 107 1 = v 0 1 := hR.1 1 (by omega)
  have z1 : (1 : Int).toNat = 1 := rfl
  obtain ⟨hi, e⟩ := lp_fold0 (fun k s => sk_D232 d 66 [some (.ref 105), o1, some (.int (sj s)), some (.int (sj (k : Int)))] [] (sk_mk S I)) (fun k s => if decide (v 5 k ≠ 0) = true then s + 1 else s) (v 0 1).toNat (fun k s => True) (fun k s hk hs => by
    refine ⟨trivial, ?_⟩
    have t1 : (k : Int) + 1 = ((k + 1 : Nat) : Int) := rfl
    have t77 : (77 + (k : Int)).toNat = 77 + k := by omega
    have rk : I 107 (77 + k) = v 5 k := (hR.2.1 k (by omega)).2.2.2.2.1
    obtain ⟨-, -, -, -, -, -, -, -, q9, q10, -⟩ := vo_p hV (p := k) (by omega)
    rw [sk_e232_66, g105_r1b hS, g107_ab hS (by omega) (by omega), z1, r1, if_neg (kn_ge (by omega) (by omega) (by omega) (by omega) (by omega))]
    simp only [sj_add, t1]
    rw [g105_r1b hS, g107_ab hS (by omega) (by omega), t77, rk]
    by_cases c : v 5 k = 0
    · rw [if_pos (ky_eq c), if_neg (show ¬ decide (v 5 k ≠ 0) = true by simp [c])]
    · rw [if_neg (kn_eq (by omega) (by omega) (by omega) (by omega) c), if_pos (show decide (v 5 k ≠ 0) = true by simp [c])]) 0 trivial
  refine e.trans ?_
  rw [sk_e232_66, g105_r1b hS, g107_ab hS (by omega) (by omega), z1, r1, if_pos (ky_ge (by omega) (by omega) (by omega) (by omega) (by omega))]
  rfl
theorem f_count (hS : sk_G S) (hG : GI I v) {w : Int} (w1 : -2147483648 ≤ w) (w2 : w < 2147483648) : FC S I 130 232 [.int (sj w)] := by
  have hG0 := hG
  obtain ⟨hv, hT, hR, hTp, hM, hRk, hSh⟩ := hG; have hV := hT.1; have ha : sk_isP 15 := Or.inl rfl; obtain ⟨n1, n2, n3, n4, n5, n6, n7, n8, n9, n10, n11, n12⟩ := hV.1
  have cc := sk_e130 19 1 (sj w) (sk_mk S I)
  have rr := sk_e232 19 105 (sj w) (sk_mk S I)
  have z0 : (0 : Int).toNat = 0 := rfl
  have z1 : (1 : Int).toNat = 1 := rfl
  have z2 : (2 : Int).toNat = 2 := rfl
  have r0 : I 107 0 = v 0 0 := hR.1 0 (by omega)
  have r1 : I 107 1 = v 0 1 := hR.1 1 (by omega)
  have r2 : I 107 2 = v 0 2 := hR.1 2 (by omega)
  rw [sj_toInt w1 w2] at cc rr
  by_cases c0 : w = 0
  · rw [if_pos c0, g1_r1b hS, pl_i5b hS ha, vc5 hv] at cc
    rw [if_pos c0, g105_r1b hS, g107_ab hS (by omega) (by omega), z1, r1] at rr
    exact FC_same hG0 _ cc rr
  rw [if_neg c0] at cc rr
  by_cases c1 : w = 1
  · rw [if_pos c1, g1_r1b hS, pl_i6b hS ha, vc6 hv] at cc
    rw [if_pos c1, g105_r1b hS, g107_ab hS (by omega) (by omega), z2, r2] at rr
    exact FC_same hG0 _ cc rr
  rw [if_neg c1] at cc rr
  by_cases c2 : w = 2
  · rw [if_pos c2, g1_r1b hS, pl_ob hS ha, m42 (by omega) hS ha hv hV, sk_ci_some] at cc
    rw [if_pos c2, r232 (by omega) hS hR hV] at rr
    exact FC_same hG0 _ cc rr
  rw [if_neg c2] at cc rr
  by_cases c3 : w = 3
  · rw [if_pos c3, g1_r1b hS, pl_ob hS ha, m43 (by omega) hS ha hv hV, sk_ci_some] at cc
    rw [if_pos c3, g105_ob hS, m185 (by omega) hS hR hV, sk_ci_some] at rr
    exact FC_same hG0 _ cc rr
  rw [if_neg c3] at cc rr
  by_cases c4 : w = 4
  · obtain ⟨n, q1, q2, q3, -⟩ := hTp
    rw [if_pos c4, g1_r0b hS, g2_i1b hS, q2] at cc
    rw [if_pos c4, g105_i4b hS, q3] at rr
    exact FC_same hG0 _ cc rr
  rw [if_neg c4] at cc rr
  by_cases c5 : w = 5
  · rw [if_pos c5, g1_r1b hS, pl_i4b hS ha, vc4 hv] at cc
    rw [if_pos c5, g105_r1b hS, g107_ab hS (by omega) (by omega), z0, r0] at rr
    exact FC_same hG0 _ cc rr
  rw [if_neg c5] at cc rr
  by_cases c6 : w = 6
  · rw [if_pos c6, g1_r1b hS, pl_ob hS ha, m60 (by omega) hS ha hv hV, sk_ci_some] at cc
    rw [if_pos c6, g105_ob hS, m230 (by omega) hS hR hV, sk_ci_some] at rr
    exact FC_same hG0 _ cc rr
  rw [if_neg c6] at cc rr
  by_cases c7 : w = 7
  · rw [if_pos c7, g1_r1b hS, pl_ob hS ha, m61 (by omega) hS ha hv hV, sk_ci_some] at cc
    rw [if_pos c7, g105_ob hS, m231 (by omega) hS hR hV, sk_ci_some] at rr
    exact FC_same hG0 _ cc rr
  rw [if_neg c7] at cc rr
  exact FC_same hG0 _ cc rr
end IMG
