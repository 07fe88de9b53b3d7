section FLA
variable {S : List sk_Sh} {I v : sk_H}
def inK (v : sk_H) : Nat → Nat → Bool
  | 0, p => decide (v 5 p = 1)
  | k + 1, p => inK v k p || decide (v 9 k = (p : Int))
theorem inK_cnt {v : sk_H} (hV : VO v) : ∀ k : Nat, (k : Int) ≤ v 0 2 → cntTo (v 0 1).toNat (inK v k) = fxN v + k ∧ ∀ j : Nat, (j : Int) < v 0 2 → k ≤ j → inK v k (v 9 j).toNat = false := by
  intro k
  induction k with
  | zero =>
    intro _
    refine ⟨by show fxN v = fxN v + ((0 : Nat) : Int); omega, fun j hj _ => ?_⟩
    obtain ⟨d1, d2, d3⟩ := hV.2.2.1.1 j hj
    exact decide_eq_false d3
  | succ k ih =>
    intro hk
    obtain ⟨a1, a2⟩ := ih (by omega)
    obtain ⟨d1, d2, d3⟩ := hV.2.2.1.1 k (by omega)
    have c := cnt_one (P := inK v k) (Q := inK v (k + 1)) (p := (v 9 k).toNat) (fun p hp => by
      show (inK v k p || decide (v 9 k = (p : Int))) = inK v k p
      rw [decide_eq_false (by omega), Bool.or_false]) (a2 k (by omega) (Nat.le_refl _)) (by
      show (inK v k _ || decide (v 9 k = ((v 9 k).toNat : Int))) = true
      rw [decide_eq_true (by omega), Bool.or_true]) (v 0 1).toNat
    rw [if_pos (by omega), a1] at c
    refine ⟨c.trans (by omega), fun j hj hkj => ?_⟩
    show (inK v k _ || decide (v 9 k = ((v 9 j).toNat : Int))) = false
    obtain ⟨e1, e2, e3⟩ := hV.2.2.1.1 j hj
    rw [a2 j hj (by omega), decide_eq_false (fun h => by
      have := hV.2.2.1.2 k j (by omega) hj (by omega)
      omega)]
    rfl
theorem m71 {d : Nat} (hd : 2 ≤ d) (hS : sk_G S) {K : sk_H} {c : Nat} {T : Nat → Int} (hc : c ≤ 120) (h2 : K 74 2 = c) (hT : ∀ i, i < c → K 76 i = T i ∧ 0 ≤ T i ∧ T i ≤ 120) : sk_c d 71 [.ref 74] (sk_mk S K) = some (some (.int (sj (maxTo c T 0))), sk_mk S K) := by
  obtain ⟨d, rfl⟩ : ∃ e, d = e + 1 := ⟨d - 1, by omega⟩; rw [sk_e71]
  have key := lp_run (fun i (X : Option sk_R) => X = sk_D71 d 4 [some (.ref 74), some (.int (sj (maxTo i T 0))), some (.int (sj (i : Int)))] [] (sk_mk S K)) c (fun i X hi hX => by
    subst hX
    have t2 : (i : Int) + 1 = ((i + 1 : Nat) : Int) := rfl
    have mr := mxT_rng (n := i) (f := T) (s := 0) (lo := 0) (hi := 120) ⟨by omega, by omega⟩ (fun k hk => (hT k (by omega)).2)
    obtain ⟨b1, b2, b3⟩ := hT i hi
    rw [sk_e71_4, g74_i2b hS, h2, if_neg (kn_ge (by omega) (by omega) (by omega) (by omega) (by omega)), g74_r3b hS, g76_ab hS (by omega) (by omega), Int.toNat_natCast, b1, m239 (by omega) (by omega) (by omega) (by omega) (by omega), sk_ci_some, sj_add, t2]
    rfl) rfl
  refine key.trans ?_
  rw [sk_e71_4, g74_i2b hS, h2, if_pos (ky_ge (by omega) (by omega) (by omega) (by omega) (by omega))]
theorem r203_149 {d : Nat} (hd : 1 ≤ d) (hS : sk_G S) {K : sk_H} {c : Nat} {T : Nat → Int} (hc : c ≤ 120) (hT : ∀ i, i < c → K 114 i = T i ∧ 0 ≤ T i ∧ T i ≤ 120) {x : Int} (x1 : 0 ≤ x) (x2 : x ≤ 1) : sk_D203 d 149 [some (.ref 105), some (.int (sj x)), some (.int (sj (c : Int))), some (.int (sj 0)), some (.int (sj 0))] [] (sk_mk S K) = some (some (.int (sj (if x = 0 then (c : Int) else maxTo c T 0))), sk_mk S K) := by
  have key := lp_run (fun i (X : Option sk_R) => X = sk_D203 d 149 [some (.ref 105), some (.int (sj x)), some (.int (sj (c : Int))), some (.int (sj (maxTo i T 0))), some (.int (sj (i : Int)))] [] (sk_mk S K)) c (fun i X hi hX => by
    subst hX
    have t2 : (i : Int) + 1 = ((i + 1 : Nat) : Int) := rfl
    have mr := mxT_rng (n := i) (f := T) (s := 0) (lo := 0) (hi := 120) ⟨by omega, by omega⟩ (fun k hk => (hT k (by omega)).2)
    obtain ⟨b1, b2, b3⟩ := hT i hi
    rw [sk_e203_149, if_neg (kn_ge (by omega) (by omega) (by omega) (by omega) (by omega)), g105_r13b hS, g114_ab hS (by omega) (by omega), Int.toNat_natCast, b1, m239 (by omega) (by omega) (by omega) (by omega) (by omega), sk_ci_some, sj_add, t2]
    rfl) rfl
  refine key.trans ?_
  rw [sk_e203_149, if_pos (ky_ge (by omega) (by omega) (by omega) (by omega) (by omega))]
  by_cases c0 : x = 0
  · rw [if_neg (kn_ne c0), if_pos c0]
  · rw [if_pos (ky_ne (by omega) (by omega) (by omega) (by omega) c0), if_neg c0]
theorem f_layouts (hS : sk_G S) (hG : GI I v) {x : Int} (x1 : -2147483648 ≤ x) (x2 : x < 2147483648) : FC S I 118 203 [.int (sj x)] := by
  have hG0 := hG
  obtain ⟨hv, hT, hR, hTp, hM, hRk, hSh⟩ := hG; have hV := hT.1; have ha : sk_isP 15 := Or.inl rfl; obtain ⟨n1, n2, n3, n4, n5, n6, n7, n8, n9, n10, n11, n12⟩ := hV.1
  have h53 : sk_isP 53 := Or.inr (Or.inr rfl)
  have z2 : (2 : Int).toNat = 2 := rfl
  obtain ⟨n, hn⟩ : ∃ n : Nat, v 0 2 = n := ⟨(v 0 2).toNat, by omega⟩
  have cc := sk_e118 19 1 (sj x) (sk_mk S I)
  have rr := fun J : sk_H => sk_e203 19 105 (sj x) (sk_mk S J)
  have e144 := fun J : sk_H => m144 (d := 19) (by omega) (x := x) (l := 0) (h := 1) x1 x2 (by omega) (by omega) (by omega) (by omega) (w := sk_mk S J)
  by_cases hx : 0 ≤ x ∧ x ≤ 1
  rotate_left
  · refine FC_same hG0 (-2) ?_ ?_
    · rw [cc]
      by_cases c : x < 0
      · rw [if_pos (ky_lt (by omega) (by omega) (by omega) (by omega) c)]
      · rw [if_neg (kn_lt (by omega) (by omega) (by omega) (by omega) (by omega)), if_neg (kn_le (by omega) (by omega) (by omega) (by omega) (by omega))]
    · rw [rr, e144, sk_ci_some, decide_eq_false hx, if_neg cf_bne]
  rw [if_neg (kn_lt (by omega) (by omega) (by omega) (by omega) (by omega)), if_pos (ky_le (by omega) (by omega) (by omega) (by omega) (by omega)), g1_r1b hS, pl_i6b hS ha, vc6 hv, hn] at cc
  have rr : ∀ J : sk_H, J 107 = I 107 → sk_c 20 203 [.ref 105, .int (sj x)] (sk_mk S J) = _ := fun J hJ => by
    rw [rr, e144, sk_ci_some, decide_eq_true hx, if_pos ct_bne, g105_r1b hS, g107_ab hS (by omega) (by omega), z2, hJ, hR.1 2 (by omega), hn]
  by_cases h5 : n ≤ 5
  rotate_left
  · rw [if_neg (kn_le (by omega) (by omega) (by omega) (by omega) (by omega))] at cc
    refine FC_same hG0 (-3) cc ?_
    rw [rr I rfl, if_neg (kn_le (by omega) (by omega) (by omega) (by omega) (by omega))]
  rw [if_pos (ky_le (by omega) (by omega) (by omega) (by omega) (by omega))] at cc
  obtain ⟨I1, e1, h1, f1⟩ := m36 (S := S) (I := I) (d := 19) (by omega) hS (a := 53) (b := 15) h53 ha (by omega) hv hV
  generalize hu : vC I1 53 = u at h1
  have hTu : VT u := VT_VA hT h1
  have un : u 0 2 = n := (h1.1 2 (by omega)).trans hn
  have s0 : vC (u2 I1 74 2 0) 53 = u := (vC_fr (fun b b1 b2 => funext fun k => u2_ne _ _ (by omega))).trans hu
  have hTs := VT_srF hTu n (by omega)
  obtain ⟨I2, e2, a2, f2⟩ := m77 (S := S) (I := u2 I1 74 2 0) (d := 18) (x0 := 55) (L := 10) (n := n) (by omega) (sh_po hS h53) (by omega) (by omega) (by omega) (by omega) (fun k hk => by
    have q := hTu.1.2.2.1.1 k (by omega)
    have e : (u2 I1 74 2 0) 55 k = u 9 k := vo_ s0
    have := hTu.1.1.2.2.2.1
    omega)
  have e9 : (u2 I1 74 2 0) 55 = u 9 := funext fun k => vo_ s0
  rw [e9] at a2
  have s2 : vC I2 53 = st9 u (srF n (u 9)) := vC_55 s0 a2 f2
  have sn2 : st9 u (srF n (u 9)) 0 2 = n := (st9_ne _ _ _ (by omega)).trans un
  have htr : trmF leI n 120 (st9 u (srF n (u 9)) 9) = true := by rw [st9_9]; exact trm_srV hTu un h5
  have wr := hTs.1.1.2.1
  have hN1 := hTs.1.1.2.2.2.1
  have hN0 := hTs.1.1.2.2.1
  have ic := (inK_cnt hTs.1 n (by omega)).1
  have cr := cntTo_rng (st9 u (srF n (u 9)) 0 1).toNat (inK (st9 u (srF n (u 9))) n)
  have fr := cntTo_rng (st9 u (srF n (u 9)) 0 1).toNat (fun p => decide (st9 u (srF n (u 9)) 5 p = 1))
  have fr : 0 ≤ fxN (st9 u (srF n (u 9))) := fr.1
  generalize hw : st9 u (srF n (u 9)) = w at *
  obtain ⟨L, hL⟩ : ∃ L : Nat, fxN w + n = L := ⟨(fxN w + n).toNat, by omega⟩
  have hL10 : L ≤ 10 := by omega
  have hfn : fxN w = (L : Int) - n := by omega
  obtain ⟨I3, e3, cl, gs, f3⟩ := c70 (S := S) (d := 18) (by omega) hS (n := n) (L := L) (W := w 0 0) wr hL10 h5 (fun w hT h2 hf hc => lay_L hT.1 h2 hf hc) (fun w g hT hf => (fx_next hT.1 g).trans hf) 120 0 I2 w (0, fun _ _ => 0, fun _ => 0) (by omega) s2 hTs sn2 rfl hfn ⟨by rw [f2 74 (by omega), u2_eq]; rfl, fun i hi => absurd hi (by dsimp only; omega), fun i hi => absurd hi (by dsimp only; omega)⟩ ⟨by dsimp only; omega, fun i hi => absurd hi (by dsimp only; omega)⟩
  have fI : ∀ c, ¬ (53 ≤ c ∧ c < 87) → I3 c = I c := fun c hc => by
    rw [f3 c hc, f2 c (by omega), show (u2 I1 74 2 0) c = I1 c from funext fun k => u2_ne _ _ (by omega), f1 c (by omega)]
  have c70' : sk_c 19 70 [.ref 74, .ref 53, .ref 72] (sk_mk S I1) = some (none, sk_mk S I3) := by
    rw [sk_e70, g74_u2b hS, pl_r1b hS h53, pl_i6b hS h53, vc6 s0, un]
    show sk_cv (sk_c 18 77 [.ref 55, .int (sj (n : Int))] (sk_mk S (u2 I1 74 2 0))) _ = _
    rw [e2, sk_cv_some]
    exact e3
  have hR3 : RP I3 107 u := (RP_VA hR h1).fr (fI 107 (by omega))
  obtain ⟨K, ek, k1, k2⟩ := m146 (S := S) (I := I3) (d := 19) (by omega) hS (m := 2) (by omega)
  have ek : sk_c 19 146 [.ref 105, .int (sj 2)] (sk_mk S I3) = some (none, sk_mk S K) := ek
  have k1 : ∀ k, k < 1141 → K 109 k = I3 107 k := k1
  have k2 : ∀ c, c ≠ 109 → K c = I3 c := k2
  obtain ⟨K2, ek2, l1, l2⟩ := m197 (S := S) (I := K) (d := 19) (by omega) hS (hR3.fr (k2 107 (by omega))) hTu un
  rw [hw] at l1
  obtain ⟨Q, el, g1, g2, g3⟩ := r203_36 (S := S) (d := 19) (by omega) hS (n := n) (L := L) (W := w 0 0) wr hL10 h5 x 120 0 K2 w (0, fun _ _ => 0, fun _ => 0) none none (by omega) htr l1 hTs sn2 rfl hfn ⟨fun i hi => absurd hi (by dsimp only; omega), fun i hi => absurd hi (by dsimp only; omega)⟩ (fun i hi => absurd hi (by dsimp only; omega)) ⟨by dsimp only; omega, fun i hi => absurd hi (by dsimp only; omega)⟩
  have el : sk_D203 19 36 [some (.ref 105), some (.int (sj x)), some (.int (sj 0)), none, none] [] (sk_mk S K2) = _ := el
  generalize lyF n L 120 w (0, fun _ _ => 0, fun _ => 0) = s at *
  have e149 := r203_149 (S := S) (K := Q) (d := 19) (c := s.1) (T := s.2.2) (by omega) hS gs.1 (fun i hi => ⟨g1 i hi, by have := gs.2 i hi; omega⟩) hx.1 hx.2
  have hG3 : GI Q v := by
    refine GI_GF hG0 ⟨fun b c1 c2 c3 c4 => ?_, fun k hk => ?_, fun k hk => ?_, fun k hk => ?_⟩
    · rw [g3.1 b c2 c3 (by unfold Gb at c1; omega) (by unfold Gb at c1; omega), l2 b c3, k2 b (by unfold Gb at c1; omega), fI b (by unfold Gb at c1; omega)]
    · rw [g3.2 k (by omega), l2 105 (by omega), k2 105 (by omega), fI 105 (by omega)]
    · rw [g2 k hk, l2 109 (by omega), k1 k hk, fI 107 (by omega)]
    · rw [g3.1 2 (by omega) (by omega) (by omega) (by omega), l2 2 (by omega), k2 2 (by omega), fI 2 (by omega)]
  have rr := rr I3 (fI 107 (by omega))
  rw [if_pos (ky_le (by omega) (by omega) (by omega) (by omega) (by omega)), g105_ob hS, ek, sk_cv_some, g105_ob hS, ek2, sk_cv_some, el, e149] at rr
  rw [g1_r3b hS, g1_r1b hS, pl_ob hS h53, e1, sk_cv_some, g1_r5b hS, g1_r3b hS, g1_r4b hS, g74_ob hS, c70', sk_cv_some] at cc
  refine ⟨_, I3, Q, v, ?_, rr, hG3⟩
  rw [cc]
  by_cases c0 : x = 0
  · rw [if_neg (kn_ne c0), g1_r5b hS, g74_i2b hS, cl.1, if_pos c0]
  · rw [if_pos (ky_ne (by omega) (by omega) (by omega) (by omega) c0), g1_r5b hS, g74_ob hS, m71 (by omega) hS gs.1 cl.1 (fun i hi => ⟨cl.2.2 i hi, by have := gs.2 i hi; omega⟩), sk_ci_some, if_neg c0]
end FLA
