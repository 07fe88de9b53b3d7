/-! ===== a plan's methods that only look, on ===== -/
theorem ite_iff {α : Type} {c1 c2 : Prop} [Decidable c1] [Decidable c2] (h : c1 ↔ c2) (x y : α) : (if c1 then x else y) = if c2 then x else y := by
  by_cases h1 : c1
  · rw [if_pos h1, if_pos (h.mp h1)]
  · rw [if_neg h1, if_neg (fun h2 => h1 (h.mpr h2))]
def lyN (v : sk_H) : Int := cntTo (v 0 1).toNat (fun p => decide (v 5 p ≠ 0))
def fxTop (v : sk_H) (n : Nat) (s : Int) : Int := fld n (fun p s => if v 5 p = 1 then (if s < v 7 p + v 16 p then v 7 p + v 16 p else s) else s) s
def topV (v : sk_H) : Int := fxTop v (v 0 1).toNat (maxTo (v 0 0).toNat (fun c => v 10 c) 0)
theorem maxTo_rng {n : Nat} {f : Nat → Int} {lo hi s : Int} (hs : lo ≤ s ∧ s ≤ hi) (h : ∀ k, k < n → f k ≤ hi) : lo ≤ maxTo n f s ∧ maxTo n f s ≤ hi := by
  refine fld_inv (fun _ (s : Int) => lo ≤ s ∧ s ≤ hi) (fun k s hk hs => ?_) hs
  have := h k hk
  split <;> omega
theorem acr_rng {v : sk_H} (hn : VN v) {p : Nat} (hp : VP v p) (o : Int) : 1 ≤ acr v p o ∧ acr v p o ≤ 20 := by
  obtain ⟨n1, n2, -⟩ := hn
  obtain ⟨p1, p2, p3, p4, p5, p6, -⟩ := hp
  unfold acr
  split <;> omega
theorem tal_rng {v : sk_H} (hn : VN v) {p : Nat} (hp : VP v p) (o : Int) : 1 ≤ tal v p o ∧ tal v p o ≤ 21 := by
  obtain ⟨n1, n2, -⟩ := hn
  obtain ⟨p1, p2, p3, p4, p5, p6, -⟩ := hp
  unfold tal
  split <;> split <;> omega
theorem vly {v : sk_H} (hV : VO v) {p : Nat} (hp : (p : Int) < v 0 1) (hl : v 5 p ≠ 0) : 0 ≤ v 6 p ∧ v 6 p + v 15 p ≤ v 0 0 ∧ 0 ≤ v 7 p ∧ v 7 p ≤ 300 ∧ 1 ≤ v 15 p ∧ v 15 p ≤ 20 ∧ 1 ≤ v 16 p ∧ v 16 p ≤ 21 := by
  obtain ⟨p1, p2, p3, p4, p5, p6, p7, p8, p9, p10, p11, p12, -⟩ := vo_p hV hp
  obtain ⟨q1, q2, q3, q4, q5, q6⟩ := p12 hl
  have := acr_rng hV.1 (vo_p hV hp) (v 8 p)
  have := tal_rng hV.1 (vo_p hV hp) (v 8 p)
  omega
section PLN
variable {S : List sk_Sh} {I v : sk_H} {a : Nat}
theorem m42 {d : Nat} (hd : 2 ≤ d) (hS : sk_G S) (ha : sk_isP a) (hv : vC I a = v) (hV : VO v) : sk_c d 42 [.ref a] (sk_mk S I) = some (some (.int (sj (lyN v))), sk_mk S I) := by
  obtain ⟨n1, n2, n3, n4, n5, n6, n7, n8, n9, n10, n11, n12⟩ := hV.1
  obtain ⟨d, rfl⟩ : ∃ e, d = e + 1 := ⟨d - 1, by omega⟩; rw [sk_e42]
  obtain ⟨hi, e⟩ := lp_fold0 (fun k s => sk_D42 d 4 [some (.ref a), some (.int (sj s)), some (.int (sj (k : Int)))] [] (sk_mk S I)) (fun k s => if decide (v 5 k ≠ 0) = true then s + 1 else s) (v 0 1).toNat (fun k s => 0 ≤ s ∧ s ≤ k) (fun k s hk hs => by
    refine ⟨by split <;> omega, ?_⟩
    rw [sk_e42_4]
    simp (disch := omega) only [pl_r0 hS ha, pl_r1 hS ha, pl_r2 hS ha, pl_r3 hS ha, pl_i4 hS ha, pl_u4 hS ha, pl_i5 hS ha, pl_u5 hS ha, pl_i6 hS ha, pl_u6 hS ha, pl_i7 hS ha, pl_u7 hS ha, pl_i8 hS ha, pl_u8 hS ha, pl_o hS ha, pl_p hS ha, po_a hS ha, po_s hS ha, po_n hS ha, ps_a hS ha, ps_s hS ha, ps_n hS ha, pw_r0 hS ha, pw_r1 hS ha, pw_r2 hS ha, pw_r3 hS ha, pw_i4 hS ha, pw_u4 hS ha, pw_o hS ha, pw0_a hS ha, pw0_s hS ha, pw0_n hS ha, pw1_a hS ha, pw1_s hS ha, pw1_n hS ha, pw2_a hS ha, pw2_s hS ha, pw2_n hS ha, pw3_a hS ha, pw3_s hS ha, pw3_n hS ha, pq_i0 hS ha, pq_u0 hS ha, pq_i1 hS ha, pq_u1 hS ha, pq_i2 hS ha, pq_u2 hS ha, pq_i3 hS ha, pq_u3 hS ha, pq_i4 hS ha, pq_u4 hS ha, pq_i5 hS ha, pq_u5 hS ha, pq_i6 hS ha, pq_u6 hS ha, pq_i7 hS ha, pq_u7 hS ha, pq_i8 hS ha, pq_u8 hS ha, pq_i9 hS ha, pq_u9 hS ha, pq_o hS ha, Option.bind_some, sk_ci_some, sk_cv_some, sk_cf_some, if_true, eq_self, ite_self, vc4 hv, vc5 hv, vc6 hv, vc7 hv, vc8 hv, vcz hv, vp0 hv, vp1 hv, vp2 hv, vp3 hv, vp4 hv, vp5 hv, vp6 hv, vp7 hv, vp8 hv, vp9 hv, vo_ hv, vs_ hv, vx0 hv, vx1 hv, vx2 hv, vx3 hv, Int.toNat_natCast, sj_add, sj_sub, sj_mul, sj_neg, sj_div, sj_ceq, sj_cne, sj_clt, sj_cge, sj_cgt, sj_cle, bi_ceq, bi_cne, bi_01, Int.natCast_add, Int.cast_ofNat_Int, ← Int.add_assoc, p27 (v := v)]
    grind) 0 ⟨by omega, by omega⟩
  refine e.trans ?_
  rw [sk_e42_4]
  simp (disch := omega) only [pl_r0 hS ha, pl_r1 hS ha, pl_r2 hS ha, pl_r3 hS ha, pl_i4 hS ha, pl_u4 hS ha, pl_i5 hS ha, pl_u5 hS ha, pl_i6 hS ha, pl_u6 hS ha, pl_i7 hS ha, pl_u7 hS ha, pl_i8 hS ha, pl_u8 hS ha, pl_o hS ha, pl_p hS ha, po_a hS ha, po_s hS ha, po_n hS ha, ps_a hS ha, ps_s hS ha, ps_n hS ha, pw_r0 hS ha, pw_r1 hS ha, pw_r2 hS ha, pw_r3 hS ha, pw_i4 hS ha, pw_u4 hS ha, pw_o hS ha, pw0_a hS ha, pw0_s hS ha, pw0_n hS ha, pw1_a hS ha, pw1_s hS ha, pw1_n hS ha, pw2_a hS ha, pw2_s hS ha, pw2_n hS ha, pw3_a hS ha, pw3_s hS ha, pw3_n hS ha, pq_i0 hS ha, pq_u0 hS ha, pq_i1 hS ha, pq_u1 hS ha, pq_i2 hS ha, pq_u2 hS ha, pq_i3 hS ha, pq_u3 hS ha, pq_i4 hS ha, pq_u4 hS ha, pq_i5 hS ha, pq_u5 hS ha, pq_i6 hS ha, pq_u6 hS ha, pq_i7 hS ha, pq_u7 hS ha, pq_i8 hS ha, pq_u8 hS ha, pq_i9 hS ha, pq_u9 hS ha, pq_o hS ha, Option.bind_some, sk_ci_some, sk_cv_some, sk_cf_some, if_true, eq_self, ite_self, vc4 hv, vc5 hv, vc6 hv, vc7 hv, vc8 hv, vcz hv, vp0 hv, vp1 hv, vp2 hv, vp3 hv, vp4 hv, vp5 hv, vp6 hv, vp7 hv, vp8 hv, vp9 hv, vo_ hv, vs_ hv, vx0 hv, vx1 hv, vx2 hv, vx3 hv, Int.toNat_natCast, sj_add, sj_sub, sj_mul, sj_neg, sj_div, sj_ceq, sj_cne, sj_clt, sj_cge, sj_cgt, sj_cle, bi_ceq, bi_cne, bi_01]
  rw [if_pos (by omega)]
  rfl
theorem m43 {d : Nat} (hd : 2 ≤ d) (hS : sk_G S) (ha : sk_isP a) (hv : vC I a = v) (hV : VO v) : sk_c d 43 [.ref a] (sk_mk S I) = some (some (.int (sj (topV v))), sk_mk S I) := by
  obtain ⟨n1, n2, n3, n4, n5, n6, n7, n8, n9, n10, n11, n12⟩ := hV.1
  obtain ⟨d, rfl⟩ : ∃ e, d = e + 1 := ⟨d - 1, by omega⟩; rw [sk_e43]
  obtain ⟨hi, e⟩ := lp_fold0 (fun k s => sk_D43 d 4 [some (.ref a), some (.int (sj s)), some (.int (sj (k : Int))), none] [] (sk_mk S I)) (fun k s => if s < v 10 k then v 10 k else s) (v 0 0).toNat (fun k s => 0 ≤ s ∧ s ≤ 1000) (fun k s hk hs => by
    have hE := hV.2.2.2.1 k (by omega)
    refine ⟨by split <;> omega, ?_⟩
    rw [sk_e43_4]
    simp (disch := omega) only [pl_r0 hS ha, pl_r1 hS ha, pl_r2 hS ha, pl_r3 hS ha, pl_i4 hS ha, pl_u4 hS ha, pl_i5 hS ha, pl_u5 hS ha, pl_i6 hS ha, pl_u6 hS ha, pl_i7 hS ha, pl_u7 hS ha, pl_i8 hS ha, pl_u8 hS ha, pl_o hS ha, pl_p hS ha, po_a hS ha, po_s hS ha, po_n hS ha, ps_a hS ha, ps_s hS ha, ps_n hS ha, pw_r0 hS ha, pw_r1 hS ha, pw_r2 hS ha, pw_r3 hS ha, pw_i4 hS ha, pw_u4 hS ha, pw_o hS ha, pw0_a hS ha, pw0_s hS ha, pw0_n hS ha, pw1_a hS ha, pw1_s hS ha, pw1_n hS ha, pw2_a hS ha, pw2_s hS ha, pw2_n hS ha, pw3_a hS ha, pw3_s hS ha, pw3_n hS ha, pq_i0 hS ha, pq_u0 hS ha, pq_i1 hS ha, pq_u1 hS ha, pq_i2 hS ha, pq_u2 hS ha, pq_i3 hS ha, pq_u3 hS ha, pq_i4 hS ha, pq_u4 hS ha, pq_i5 hS ha, pq_u5 hS ha, pq_i6 hS ha, pq_u6 hS ha, pq_i7 hS ha, pq_u7 hS ha, pq_i8 hS ha, pq_u8 hS ha, pq_i9 hS ha, pq_u9 hS ha, pq_o hS ha, Option.bind_some, sk_ci_some, sk_cv_some, sk_cf_some, if_true, eq_self, ite_self, vc4 hv, vc5 hv, vc6 hv, vc7 hv, vc8 hv, vcz hv, vp0 hv, vp1 hv, vp2 hv, vp3 hv, vp4 hv, vp5 hv, vp6 hv, vp7 hv, vp8 hv, vp9 hv, vo_ hv, vs_ hv, vx0 hv, vx1 hv, vx2 hv, vx3 hv, Int.toNat_natCast, sj_add, sj_sub, sj_mul, sj_neg, sj_div, sj_ceq, sj_cne, sj_clt, sj_cge, sj_cgt, sj_cle, bi_ceq, bi_cne, bi_01, Int.natCast_add, Int.cast_ofNat_Int, ← Int.add_assoc, m239]
    grind) 0 ⟨by omega, by omega⟩
  refine e.trans ?_
  rw [sk_e43_4]
  simp (disch := omega) only [pl_r0 hS ha, pl_r1 hS ha, pl_r2 hS ha, pl_r3 hS ha, pl_i4 hS ha, pl_u4 hS ha, pl_i5 hS ha, pl_u5 hS ha, pl_i6 hS ha, pl_u6 hS ha, pl_i7 hS ha, pl_u7 hS ha, pl_i8 hS ha, pl_u8 hS ha, pl_o hS ha, pl_p hS ha, po_a hS ha, po_s hS ha, po_n hS ha, ps_a hS ha, ps_s hS ha, ps_n hS ha, pw_r0 hS ha, pw_r1 hS ha, pw_r2 hS ha, pw_r3 hS ha, pw_i4 hS ha, pw_u4 hS ha, pw_o hS ha, pw0_a hS ha, pw0_s hS ha, pw0_n hS ha, pw1_a hS ha, pw1_s hS ha, pw1_n hS ha, pw2_a hS ha, pw2_s hS ha, pw2_n hS ha, pw3_a hS ha, pw3_s hS ha, pw3_n hS ha, pq_i0 hS ha, pq_u0 hS ha, pq_i1 hS ha, pq_u1 hS ha, pq_i2 hS ha, pq_u2 hS ha, pq_i3 hS ha, pq_u3 hS ha, pq_i4 hS ha, pq_u4 hS ha, pq_i5 hS ha, pq_u5 hS ha, pq_i6 hS ha, pq_u6 hS ha, pq_i7 hS ha, pq_u7 hS ha, pq_i8 hS ha, pq_u8 hS ha, pq_i9 hS ha, pq_u9 hS ha, pq_o hS ha, Option.bind_some, sk_ci_some, sk_cv_some, sk_cf_some, if_true, eq_self, ite_self, vc4 hv, vc5 hv, vc6 hv, vc7 hv, vc8 hv, vcz hv, vp0 hv, vp1 hv, vp2 hv, vp3 hv, vp4 hv, vp5 hv, vp6 hv, vp7 hv, vp8 hv, vp9 hv, vo_ hv, vs_ hv, vx0 hv, vx1 hv, vx2 hv, vx3 hv, Int.toNat_natCast, sj_add, sj_sub, sj_mul, sj_neg, sj_div, sj_ceq, sj_cne, sj_clt, sj_cge, sj_cgt, sj_cle, bi_ceq, bi_cne, bi_01]
  rw [if_pos (by omega)]
  obtain ⟨hi2, g, e2⟩ := lp_fold (fun k s g => sk_D43 d 31 [some (.ref a), some (.int (sj s)), some (.int (sj (k : Int))), g] [] (sk_mk S I)) (fun p s => if v 5 p = 1 then (if s < v 7 p + v 16 p then v 7 p + v 16 p else s) else s) (v 0 1).toNat (fun k s => 0 ≤ s ∧ s ≤ 1000) (fun k s g hk hs => by
    have hl := fun h => vly hV (p := k) (by omega) h
    obtain ⟨p1, p2, p3, p4, p5, p6, p7, p8, p9, p10, -⟩ := vo_p hV (p := k) (by omega)
    refine ⟨by split; · { have := hl (by omega); split <;> omega }; · omega, some (.ref (a + 9 + k)), ?_⟩
    rw [sk_e43_31]
    by_cases h1 : v 5 k = 1
    · have := hl (by omega)
      simp (disch := omega) only [pl_r0 hS ha, pl_r1 hS ha, pl_r2 hS ha, pl_r3 hS ha, pl_i4 hS ha, pl_u4 hS ha, pl_i5 hS ha, pl_u5 hS ha, pl_i6 hS ha, pl_u6 hS ha, pl_i7 hS ha, pl_u7 hS ha, pl_i8 hS ha, pl_u8 hS ha, pl_o hS ha, pl_p hS ha, po_a hS ha, po_s hS ha, po_n hS ha, ps_a hS ha, ps_s hS ha, ps_n hS ha, pw_r0 hS ha, pw_r1 hS ha, pw_r2 hS ha, pw_r3 hS ha, pw_i4 hS ha, pw_u4 hS ha, pw_o hS ha, pw0_a hS ha, pw0_s hS ha, pw0_n hS ha, pw1_a hS ha, pw1_s hS ha, pw1_n hS ha, pw2_a hS ha, pw2_s hS ha, pw2_n hS ha, pw3_a hS ha, pw3_s hS ha, pw3_n hS ha, pq_i0 hS ha, pq_u0 hS ha, pq_i1 hS ha, pq_u1 hS ha, pq_i2 hS ha, pq_u2 hS ha, pq_i3 hS ha, pq_u3 hS ha, pq_i4 hS ha, pq_u4 hS ha, pq_i5 hS ha, pq_u5 hS ha, pq_i6 hS ha, pq_u6 hS ha, pq_i7 hS ha, pq_u7 hS ha, pq_i8 hS ha, pq_u8 hS ha, pq_i9 hS ha, pq_u9 hS ha, pq_o hS ha, Option.bind_some, sk_ci_some, sk_cv_some, sk_cf_some, if_true, eq_self, ite_self, vc4 hv, vc5 hv, vc6 hv, vc7 hv, vc8 hv, vcz hv, vp0 hv, vp1 hv, vp2 hv, vp3 hv, vp4 hv, vp5 hv, vp6 hv, vp7 hv, vp8 hv, vp9 hv, vo_ hv, vs_ hv, vx0 hv, vx1 hv, vx2 hv, vx3 hv, Int.toNat_natCast, sj_add, sj_sub, sj_mul, sj_neg, sj_div, sj_ceq, sj_cne, sj_clt, sj_cge, sj_cgt, sj_cle, bi_ceq, bi_cne, bi_01, Int.natCast_add, Int.cast_ofNat_Int, ← Int.add_assoc, m239, h1, not_true, if_false, ite_true]
      grind
    · simp (disch := omega) only [pl_r0 hS ha, pl_r1 hS ha, pl_r2 hS ha, pl_r3 hS ha, pl_i4 hS ha, pl_u4 hS ha, pl_i5 hS ha, pl_u5 hS ha, pl_i6 hS ha, pl_u6 hS ha, pl_i7 hS ha, pl_u7 hS ha, pl_i8 hS ha, pl_u8 hS ha, pl_o hS ha, pl_p hS ha, po_a hS ha, po_s hS ha, po_n hS ha, ps_a hS ha, ps_s hS ha, ps_n hS ha, pw_r0 hS ha, pw_r1 hS ha, pw_r2 hS ha, pw_r3 hS ha, pw_i4 hS ha, pw_u4 hS ha, pw_o hS ha, pw0_a hS ha, pw0_s hS ha, pw0_n hS ha, pw1_a hS ha, pw1_s hS ha, pw1_n hS ha, pw2_a hS ha, pw2_s hS ha, pw2_n hS ha, pw3_a hS ha, pw3_s hS ha, pw3_n hS ha, pq_i0 hS ha, pq_u0 hS ha, pq_i1 hS ha, pq_u1 hS ha, pq_i2 hS ha, pq_u2 hS ha, pq_i3 hS ha, pq_u3 hS ha, pq_i4 hS ha, pq_u4 hS ha, pq_i5 hS ha, pq_u5 hS ha, pq_i6 hS ha, pq_u6 hS ha, pq_i7 hS ha, pq_u7 hS ha, pq_i8 hS ha, pq_u8 hS ha, pq_i9 hS ha, pq_u9 hS ha, pq_o hS ha, Option.bind_some, sk_ci_some, sk_cv_some, sk_cf_some, if_true, eq_self, ite_self, vc4 hv, vc5 hv, vc6 hv, vc7 hv, vc8 hv, vcz hv, vp0 hv, vp1 hv, vp2 hv, vp3 hv, vp4 hv, vp5 hv, vp6 hv, vp7 hv, vp8 hv, vp9 hv, vo_ hv, vs_ hv, vx0 hv, vx1 hv, vx2 hv, vx3 hv, Int.toNat_natCast, sj_add, sj_sub, sj_mul, sj_neg, sj_div, sj_ceq, sj_cne, sj_clt, sj_cge, sj_cgt, sj_cle, bi_ceq, bi_cne, bi_01, Int.natCast_add, Int.cast_ofNat_Int, ← Int.add_assoc, m239, h1, not_false_iff, if_false, ite_true]
      grind) _ none hi
  refine e2.trans ?_
  rw [sk_e43_31]
  simp (disch := omega) only [pl_r0 hS ha, pl_r1 hS ha, pl_r2 hS ha, pl_r3 hS ha, pl_i4 hS ha, pl_u4 hS ha, pl_i5 hS ha, pl_u5 hS ha, pl_i6 hS ha, pl_u6 hS ha, pl_i7 hS ha, pl_u7 hS ha, pl_i8 hS ha, pl_u8 hS ha, pl_o hS ha, pl_p hS ha, po_a hS ha, po_s hS ha, po_n hS ha, ps_a hS ha, ps_s hS ha, ps_n hS ha, pw_r0 hS ha, pw_r1 hS ha, pw_r2 hS ha, pw_r3 hS ha, pw_i4 hS ha, pw_u4 hS ha, pw_o hS ha, pw0_a hS ha, pw0_s hS ha, pw0_n hS ha, pw1_a hS ha, pw1_s hS ha, pw1_n hS ha, pw2_a hS ha, pw2_s hS ha, pw2_n hS ha, pw3_a hS ha, pw3_s hS ha, pw3_n hS ha, pq_i0 hS ha, pq_u0 hS ha, pq_i1 hS ha, pq_u1 hS ha, pq_i2 hS ha, pq_u2 hS ha, pq_i3 hS ha, pq_u3 hS ha, pq_i4 hS ha, pq_u4 hS ha, pq_i5 hS ha, pq_u5 hS ha, pq_i6 hS ha, pq_u6 hS ha, pq_i7 hS ha, pq_u7 hS ha, pq_i8 hS ha, pq_u8 hS ha, pq_i9 hS ha, pq_u9 hS ha, pq_o hS ha, Option.bind_some, sk_ci_some, sk_cv_some, sk_cf_some, if_true, eq_self, ite_self, vc4 hv, vc5 hv, vc6 hv, vc7 hv, vc8 hv, vcz hv, vp0 hv, vp1 hv, vp2 hv, vp3 hv, vp4 hv, vp5 hv, vp6 hv, vp7 hv, vp8 hv, vp9 hv, vo_ hv, vs_ hv, vx0 hv, vx1 hv, vx2 hv, vx3 hv, Int.toNat_natCast, sj_add, sj_sub, sj_mul, sj_neg, sj_div, sj_ceq, sj_cne, sj_clt, sj_cge, sj_cgt, sj_cle, bi_ceq, bi_cne, bi_01]
  rw [if_pos (by omega)]
  rfl
def segN (v : sk_H) : Int := 1 + cntTo ((v 0 0).toNat - 1) (fun c => decide (v 10 (c + 1) ≠ v 10 c))
theorem m48 {d : Nat} (hd : 1 ≤ d) (hS : sk_G S) (ha : sk_isP a) (hv : vC I a = v) (hV : VO v) : sk_c d 48 [.ref a] (sk_mk S I) = some (some (.int (sj (segN v))), sk_mk S I) := by
  obtain ⟨n1, n2, n3, n4, n5, n6, n7, n8, n9, n10, n11, n12⟩ := hV.1
  obtain ⟨d, rfl⟩ : ∃ e, d = e + 1 := ⟨d - 1, by omega⟩; rw [sk_e48]
  obtain ⟨hi, e⟩ := lp_fold0 (fun k s => sk_D48 d 4 [some (.ref a), some (.int (sj (1 + s))), some (.int (sj (1 + (k : Int))))] [] (sk_mk S I)) (fun k s => if decide (v 10 (k + 1) ≠ v 10 k) = true then s + 1 else s) ((v 0 0).toNat - 1) (fun k s => 0 ≤ s ∧ s ≤ k) (fun k s hk hs => by
    have hE := hV.2.2.2.1 k (by omega)
    have hE2 := hV.2.2.2.1 (k + 1) (by omega)
    refine ⟨by split <;> omega, ?_⟩
    rw [sk_e48_4]
    simp (disch := omega) only [pl_r0 hS ha, pl_r1 hS ha, pl_r2 hS ha, pl_r3 hS ha, pl_i4 hS ha, pl_u4 hS ha, pl_i5 hS ha, pl_u5 hS ha, pl_i6 hS ha, pl_u6 hS ha, pl_i7 hS ha, pl_u7 hS ha, pl_i8 hS ha, pl_u8 hS ha, pl_o hS ha, pl_p hS ha, po_a hS ha, po_s hS ha, po_n hS ha, ps_a hS ha, ps_s hS ha, ps_n hS ha, pw_r0 hS ha, pw_r1 hS ha, pw_r2 hS ha, pw_r3 hS ha, pw_i4 hS ha, pw_u4 hS ha, pw_o hS ha, pw0_a hS ha, pw0_s hS ha, pw0_n hS ha, pw1_a hS ha, pw1_s hS ha, pw1_n hS ha, pw2_a hS ha, pw2_s hS ha, pw2_n hS ha, pw3_a hS ha, pw3_s hS ha, pw3_n hS ha, pq_i0 hS ha, pq_u0 hS ha, pq_i1 hS ha, pq_u1 hS ha, pq_i2 hS ha, pq_u2 hS ha, pq_i3 hS ha, pq_u3 hS ha, pq_i4 hS ha, pq_u4 hS ha, pq_i5 hS ha, pq_u5 hS ha, pq_i6 hS ha, pq_u6 hS ha, pq_i7 hS ha, pq_u7 hS ha, pq_i8 hS ha, pq_u8 hS ha, pq_i9 hS ha, pq_u9 hS ha, pq_o hS ha, Option.bind_some, sk_ci_some, sk_cv_some, sk_cf_some, if_true, eq_self, ite_self, vc4 hv, vc5 hv, vc6 hv, vc7 hv, vc8 hv, vcz hv, vp0 hv, vp1 hv, vp2 hv, vp3 hv, vp4 hv, vp5 hv, vp6 hv, vp7 hv, vp8 hv, vp9 hv, vo_ hv, vs_ hv, vx0 hv, vx1 hv, vx2 hv, vx3 hv, Int.toNat_natCast, sj_add, sj_sub, sj_mul, sj_neg, sj_div, sj_ceq, sj_cne, sj_clt, sj_cge, sj_cgt, sj_cle, bi_ceq, bi_cne, bi_01, Int.natCast_add, Int.cast_ofNat_Int, ← Int.add_assoc]
    have t1 : (1 + (k : Int)).toNat = k + 1 := by omega
    have t2 : (1 + (k : Int) - 1).toNat = k := by omega
    rw [t1, t2]
    simp (disch := omega) only [pl_r0 hS ha, pl_r1 hS ha, pl_r2 hS ha, pl_r3 hS ha, pl_i4 hS ha, pl_u4 hS ha, pl_i5 hS ha, pl_u5 hS ha, pl_i6 hS ha, pl_u6 hS ha, pl_i7 hS ha, pl_u7 hS ha, pl_i8 hS ha, pl_u8 hS ha, pl_o hS ha, pl_p hS ha, po_a hS ha, po_s hS ha, po_n hS ha, ps_a hS ha, ps_s hS ha, ps_n hS ha, pw_r0 hS ha, pw_r1 hS ha, pw_r2 hS ha, pw_r3 hS ha, pw_i4 hS ha, pw_u4 hS ha, pw_o hS ha, pw0_a hS ha, pw0_s hS ha, pw0_n hS ha, pw1_a hS ha, pw1_s hS ha, pw1_n hS ha, pw2_a hS ha, pw2_s hS ha, pw2_n hS ha, pw3_a hS ha, pw3_s hS ha, pw3_n hS ha, pq_i0 hS ha, pq_u0 hS ha, pq_i1 hS ha, pq_u1 hS ha, pq_i2 hS ha, pq_u2 hS ha, pq_i3 hS ha, pq_u3 hS ha, pq_i4 hS ha, pq_u4 hS ha, pq_i5 hS ha, pq_u5 hS ha, pq_i6 hS ha, pq_u6 hS ha, pq_i7 hS ha, pq_u7 hS ha, pq_i8 hS ha, pq_u8 hS ha, pq_i9 hS ha, pq_u9 hS ha, pq_o hS ha, Option.bind_some, sk_ci_some, sk_cv_some, sk_cf_some, if_true, eq_self, ite_self, vc4 hv, vc5 hv, vc6 hv, vc7 hv, vc8 hv, vcz hv, vp0 hv, vp1 hv, vp2 hv, vp3 hv, vp4 hv, vp5 hv, vp6 hv, vp7 hv, vp8 hv, vp9 hv, vo_ hv, vs_ hv, vx0 hv, vx1 hv, vx2 hv, vx3 hv, Int.toNat_natCast, sj_add, sj_sub, sj_mul, sj_neg, sj_div, sj_ceq, sj_cne, sj_clt, sj_cge, sj_cgt, sj_cle, bi_ceq, bi_cne, bi_01]
    by_cases hq : v 10 (k + 1) = v 10 k
    · simp [hq, show ¬ v 0 0 ≤ 1 + (k : Int) by omega]
    · simp [hq, show ¬ v 0 0 ≤ 1 + (k : Int) by omega]
      rw [Int.add_assoc, Int.add_comm s 1]) 0 ⟨by omega, by omega⟩
  refine e.trans ?_
  rw [sk_e48_4]
  simp (disch := omega) only [pl_r0 hS ha, pl_r1 hS ha, pl_r2 hS ha, pl_r3 hS ha, pl_i4 hS ha, pl_u4 hS ha, pl_i5 hS ha, pl_u5 hS ha, pl_i6 hS ha, pl_u6 hS ha, pl_i7 hS ha, pl_u7 hS ha, pl_i8 hS ha, pl_u8 hS ha, pl_o hS ha, pl_p hS ha, po_a hS ha, po_s hS ha, po_n hS ha, ps_a hS ha, ps_s hS ha, ps_n hS ha, pw_r0 hS ha, pw_r1 hS ha, pw_r2 hS ha, pw_r3 hS ha, pw_i4 hS ha, pw_u4 hS ha, pw_o hS ha, pw0_a hS ha, pw0_s hS ha, pw0_n hS ha, pw1_a hS ha, pw1_s hS ha, pw1_n hS ha, pw2_a hS ha, pw2_s hS ha, pw2_n hS ha, pw3_a hS ha, pw3_s hS ha, pw3_n hS ha, pq_i0 hS ha, pq_u0 hS ha, pq_i1 hS ha, pq_u1 hS ha, pq_i2 hS ha, pq_u2 hS ha, pq_i3 hS ha, pq_u3 hS ha, pq_i4 hS ha, pq_u4 hS ha, pq_i5 hS ha, pq_u5 hS ha, pq_i6 hS ha, pq_u6 hS ha, pq_i7 hS ha, pq_u7 hS ha, pq_i8 hS ha, pq_u8 hS ha, pq_i9 hS ha, pq_u9 hS ha, pq_o hS ha, Option.bind_some, sk_ci_some, sk_cv_some, sk_cf_some, if_true, eq_self, ite_self, vc4 hv, vc5 hv, vc6 hv, vc7 hv, vc8 hv, vcz hv, vp0 hv, vp1 hv, vp2 hv, vp3 hv, vp4 hv, vp5 hv, vp6 hv, vp7 hv, vp8 hv, vp9 hv, vo_ hv, vs_ hv, vx0 hv, vx1 hv, vx2 hv, vx3 hv, Int.toNat_natCast, sj_add, sj_sub, sj_mul, sj_neg, sj_div, sj_ceq, sj_cne, sj_clt, sj_cge, sj_cgt, sj_cle, bi_ceq, bi_cne, bi_01]
  rw [if_pos (by omega)]
  rfl
/-- the first column from to on that is another height than column f's -/
def segE (v : sk_H) (f : Nat) : Nat → Nat → Nat
  | 0, to => to
  | n + 1, to => if (to : Int) < v 0 0 ∧ v 10 to = v 10 f then segE v f n (to + 1) else to
theorem segE_le (v : sk_H) (f n to : Nat) (h : (to : Int) ≤ v 0 0) : to ≤ segE v f n to ∧ (segE v f n to : Int) ≤ v 0 0 := by
  induction n generalizing to with
  | zero => exact ⟨Nat.le_refl _, h⟩
  | succ n ih =>
    unfold segE
    split
    · next hc => have := ih (to + 1) (by omega); omega
    · exact ⟨Nat.le_refl _, h⟩
theorem m50 {d : Nat} (hd : 1 ≤ d) (hS : sk_G S) (ha : sk_isP a) (hv : vC I a = v) (hV : VO v) {f : Nat} (hf : (f : Int) < v 0 0) : sk_c d 50 [.ref a, .int (sj (f : Int))] (sk_mk S I) = some (some (.int (sj ((segE v f 20 (f + 1) : Nat) : Int))), sk_mk S I) := by
  obtain ⟨n1, n2, n3, n4, n5, n6, n7, n8, n9, n10, n11, n12⟩ := hV.1
  obtain ⟨d, rfl⟩ : ∃ e, d = e + 1 := ⟨d - 1, by omega⟩; rw [sk_e50]
  have key : ∀ n to : Nat, (to : Int) ≤ v 0 0 → v 0 0 ≤ to + n → sk_D50 d 4 [some (.ref a), some (.int (sj (f : Int))), some (.int (sj (to : Int)))] [] (sk_mk S I) = some (some (.int (sj ((segE v f n to : Nat) : Int))), sk_mk S I) := by
    intro n
    induction n with
    | zero =>
      intro to h1 h2
      rw [sk_e50_4]
      simp (disch := omega) only [pl_r0 hS ha, pl_r1 hS ha, pl_r2 hS ha, pl_r3 hS ha, pl_i4 hS ha, pl_u4 hS ha, pl_i5 hS ha, pl_u5 hS ha, pl_i6 hS ha, pl_u6 hS ha, pl_i7 hS ha, pl_u7 hS ha, pl_i8 hS ha, pl_u8 hS ha, pl_o hS ha, pl_p hS ha, po_a hS ha, po_s hS ha, po_n hS ha, ps_a hS ha, ps_s hS ha, ps_n hS ha, pw_r0 hS ha, pw_r1 hS ha, pw_r2 hS ha, pw_r3 hS ha, pw_i4 hS ha, pw_u4 hS ha, pw_o hS ha, pw0_a hS ha, pw0_s hS ha, pw0_n hS ha, pw1_a hS ha, pw1_s hS ha, pw1_n hS ha, pw2_a hS ha, pw2_s hS ha, pw2_n hS ha, pw3_a hS ha, pw3_s hS ha, pw3_n hS ha, pq_i0 hS ha, pq_u0 hS ha, pq_i1 hS ha, pq_u1 hS ha, pq_i2 hS ha, pq_u2 hS ha, pq_i3 hS ha, pq_u3 hS ha, pq_i4 hS ha, pq_u4 hS ha, pq_i5 hS ha, pq_u5 hS ha, pq_i6 hS ha, pq_u6 hS ha, pq_i7 hS ha, pq_u7 hS ha, pq_i8 hS ha, pq_u8 hS ha, pq_i9 hS ha, pq_u9 hS ha, pq_o hS ha, Option.bind_some, sk_ci_some, sk_cv_some, sk_cf_some, if_true, eq_self, ite_self, vc4 hv, vc5 hv, vc6 hv, vc7 hv, vc8 hv, vcz hv, vp0 hv, vp1 hv, vp2 hv, vp3 hv, vp4 hv, vp5 hv, vp6 hv, vp7 hv, vp8 hv, vp9 hv, vo_ hv, vs_ hv, vx0 hv, vx1 hv, vx2 hv, vx3 hv, Int.toNat_natCast, sj_add, sj_sub, sj_mul, sj_neg, sj_div, sj_ceq, sj_cne, sj_clt, sj_cge, sj_cgt, sj_cle, bi_ceq, bi_cne, bi_01]
      rw [if_pos (by omega)]
      rfl
    | succ n ih =>
      intro to h1 h2
      rw [sk_e50_4]
      simp (disch := omega) only [pl_r0 hS ha, pl_r1 hS ha, pl_r2 hS ha, pl_r3 hS ha, pl_i4 hS ha, pl_u4 hS ha, pl_i5 hS ha, pl_u5 hS ha, pl_i6 hS ha, pl_u6 hS ha, pl_i7 hS ha, pl_u7 hS ha, pl_i8 hS ha, pl_u8 hS ha, pl_o hS ha, pl_p hS ha, po_a hS ha, po_s hS ha, po_n hS ha, ps_a hS ha, ps_s hS ha, ps_n hS ha, pw_r0 hS ha, pw_r1 hS ha, pw_r2 hS ha, pw_r3 hS ha, pw_i4 hS ha, pw_u4 hS ha, pw_o hS ha, pw0_a hS ha, pw0_s hS ha, pw0_n hS ha, pw1_a hS ha, pw1_s hS ha, pw1_n hS ha, pw2_a hS ha, pw2_s hS ha, pw2_n hS ha, pw3_a hS ha, pw3_s hS ha, pw3_n hS ha, pq_i0 hS ha, pq_u0 hS ha, pq_i1 hS ha, pq_u1 hS ha, pq_i2 hS ha, pq_u2 hS ha, pq_i3 hS ha, pq_u3 hS ha, pq_i4 hS ha, pq_u4 hS ha, pq_i5 hS ha, pq_u5 hS ha, pq_i6 hS ha, pq_u6 hS ha, pq_i7 hS ha, pq_u7 hS ha, pq_i8 hS ha, pq_u8 hS ha, pq_i9 hS ha, pq_u9 hS ha, pq_o hS ha, Option.bind_some, sk_ci_some, sk_cv_some, sk_cf_some, if_true, eq_self, ite_self, vc4 hv, vc5 hv, vc6 hv, vc7 hv, vc8 hv, vcz hv, vp0 hv, vp1 hv, vp2 hv, vp3 hv, vp4 hv, vp5 hv, vp6 hv, vp7 hv, vp8 hv, vp9 hv, vo_ hv, vs_ hv, vx0 hv, vx1 hv, vx2 hv, vx3 hv, Int.toNat_natCast, sj_add, sj_sub, sj_mul, sj_neg, sj_div, sj_ceq, sj_cne, sj_clt, sj_cge, sj_cgt, sj_cle, bi_ceq, bi_cne, bi_01]
      by_cases hc : v 0 0 ≤ to
      · rw [if_pos hc, segE, if_neg (by omega)]
      · have hE := hV.2.2.2.1 to (by omega)
        have hE2 := hV.2.2.2.1 f hf
        rw [if_neg hc, segE]
        simp (disch := omega) only [pl_r0 hS ha, pl_r1 hS ha, pl_r2 hS ha, pl_r3 hS ha, pl_i4 hS ha, pl_u4 hS ha, pl_i5 hS ha, pl_u5 hS ha, pl_i6 hS ha, pl_u6 hS ha, pl_i7 hS ha, pl_u7 hS ha, pl_i8 hS ha, pl_u8 hS ha, pl_o hS ha, pl_p hS ha, po_a hS ha, po_s hS ha, po_n hS ha, ps_a hS ha, ps_s hS ha, ps_n hS ha, pw_r0 hS ha, pw_r1 hS ha, pw_r2 hS ha, pw_r3 hS ha, pw_i4 hS ha, pw_u4 hS ha, pw_o hS ha, pw0_a hS ha, pw0_s hS ha, pw0_n hS ha, pw1_a hS ha, pw1_s hS ha, pw1_n hS ha, pw2_a hS ha, pw2_s hS ha, pw2_n hS ha, pw3_a hS ha, pw3_s hS ha, pw3_n hS ha, pq_i0 hS ha, pq_u0 hS ha, pq_i1 hS ha, pq_u1 hS ha, pq_i2 hS ha, pq_u2 hS ha, pq_i3 hS ha, pq_u3 hS ha, pq_i4 hS ha, pq_u4 hS ha, pq_i5 hS ha, pq_u5 hS ha, pq_i6 hS ha, pq_u6 hS ha, pq_i7 hS ha, pq_u7 hS ha, pq_i8 hS ha, pq_u8 hS ha, pq_i9 hS ha, pq_u9 hS ha, pq_o hS ha, Option.bind_some, sk_ci_some, sk_cv_some, sk_cf_some, if_true, eq_self, ite_self, vc4 hv, vc5 hv, vc6 hv, vc7 hv, vc8 hv, vcz hv, vp0 hv, vp1 hv, vp2 hv, vp3 hv, vp4 hv, vp5 hv, vp6 hv, vp7 hv, vp8 hv, vp9 hv, vo_ hv, vs_ hv, vx0 hv, vx1 hv, vx2 hv, vx3 hv, Int.toNat_natCast, sj_add, sj_sub, sj_mul, sj_neg, sj_div, sj_ceq, sj_cne, sj_clt, sj_cge, sj_cgt, sj_cle, bi_ceq, bi_cne, bi_01]
        by_cases hq : v 10 to = v 10 f
        · rw [if_neg (by simp [hq]), if_pos ⟨by omega, hq⟩]
          exact ih (to + 1) (by omega) (by omega)
        · rw [if_pos hq, if_neg (fun h => hq h.2)]
  simp only [sj_add]
  exact key 20 (f + 1) (by omega) (by omega)
/-- a fixed part that a rectangle would lie over -/
def hit (v : sk_H) (x y w t : Int) (p : Nat) : Bool := decide (v 5 p = 1 ∧ v 6 p < x + w ∧ x < v 6 p + v 15 p ∧ v 7 p < y + t ∧ y < v 7 p + v 16 p)
def topIn (v : sk_H) (x y w t : Int) : Int := fld (v 0 1).toNat (fun p s => if hit v x y w t p = true ∧ s < v 7 p + v 16 p then v 7 p + v 16 p else s) (-1)
theorem topIn_rng (hV : VO v) (x y w t : Int) : -1 ≤ topIn v x y w t ∧ topIn v x y w t ≤ 400 := by
  obtain ⟨n1, n2, n3, n4, n5, n6, n7, n8, n9, n10, n11, n12⟩ := hV.1
  refine fld_inv (fun _ (s : Int) => -1 ≤ s ∧ s ≤ 400) (fun k s hk hs => ?_) ⟨by omega, by omega⟩
  split
  · next hc =>
    have h5 : v 5 k = 1 := (of_decide_eq_true hc.1).1
    have := vly hV (p := k) (by omega) (by omega)
    omega
  · exact hs
theorem m51 {d : Nat} (hd : 1 ≤ d) (hS : sk_G S) (ha : sk_isP a) (hv : vC I a = v) (hV : VO v) {x y w t : Int} (h1 : 0 ≤ x) (h2 : x ≤ 1000) (h3 : 0 ≤ y) (h4 : y ≤ 1000) (h5 : 0 ≤ w) (h6 : w ≤ 1000) (h7 : 0 ≤ t) (h8 : t ≤ 1000) : sk_c d 51 [.ref a, .int (sj x), .int (sj y), .int (sj w), .int (sj t)] (sk_mk S I) = some (some (.int (sj (topIn v x y w t))), sk_mk S I) := by
  obtain ⟨n1, n2, n3, n4, n5, n6, n7, n8, n9, n10, n11, n12⟩ := hV.1
  obtain ⟨d, rfl⟩ : ∃ e, d = e + 1 := ⟨d - 1, by omega⟩; rw [sk_e51]
  obtain ⟨hi, g, e⟩ := lp_fold (γ := Option Value × Option Value × Option Value) (fun k s g => sk_D51 d 6 [some (.ref a), some (.int (sj x)), some (.int (sj y)), some (.int (sj w)), some (.int (sj t)), some (.int (sj s)), some (.int (sj (k : Int))), g.1, g.2.1, g.2.2] [] (sk_mk S I)) (fun p s => if hit v x y w t p = true ∧ s < v 7 p + v 16 p then v 7 p + v 16 p else s) (v 0 1).toNat (fun k s => -1 ≤ s ∧ s ≤ 400) (fun k s g hk hs => by
    have hl := fun h => vly hV (p := k) (by omega) h
    obtain ⟨p1, p2, p3, p4, p5, p6, p7, p8, p9, p10, -⟩ := vo_p hV (p := k) (by omega)
    by_cases hf : v 5 k = 1
    · obtain ⟨l1, l2, l3, l4, l5, l6, l7, l8⟩ := hl (by omega)
      refine ⟨by split <;> omega, ?_⟩
      rw [sk_e51_6]
      simp (disch := omega) only [pl_r0 hS ha, pl_r1 hS ha, pl_r2 hS ha, pl_r3 hS ha, pl_i4 hS ha, pl_u4 hS ha, pl_i5 hS ha, pl_u5 hS ha, pl_i6 hS ha, pl_u6 hS ha, pl_i7 hS ha, pl_u7 hS ha, pl_i8 hS ha, pl_u8 hS ha, pl_o hS ha, pl_p hS ha, po_a hS ha, po_s hS ha, po_n hS ha, ps_a hS ha, ps_s hS ha, ps_n hS ha, pw_r0 hS ha, pw_r1 hS ha, pw_r2 hS ha, pw_r3 hS ha, pw_i4 hS ha, pw_u4 hS ha, pw_o hS ha, pw0_a hS ha, pw0_s hS ha, pw0_n hS ha, pw1_a hS ha, pw1_s hS ha, pw1_n hS ha, pw2_a hS ha, pw2_s hS ha, pw2_n hS ha, pw3_a hS ha, pw3_s hS ha, pw3_n hS ha, pq_i0 hS ha, pq_u0 hS ha, pq_i1 hS ha, pq_u1 hS ha, pq_i2 hS ha, pq_u2 hS ha, pq_i3 hS ha, pq_u3 hS ha, pq_i4 hS ha, pq_u4 hS ha, pq_i5 hS ha, pq_u5 hS ha, pq_i6 hS ha, pq_u6 hS ha, pq_i7 hS ha, pq_u7 hS ha, pq_i8 hS ha, pq_u8 hS ha, pq_i9 hS ha, pq_u9 hS ha, pq_o hS ha, Option.bind_some, sk_ci_some, sk_cv_some, sk_cf_some, if_true, eq_self, ite_self, vc4 hv, vc5 hv, vc6 hv, vc7 hv, vc8 hv, vcz hv, vp0 hv, vp1 hv, vp2 hv, vp3 hv, vp4 hv, vp5 hv, vp6 hv, vp7 hv, vp8 hv, vp9 hv, vo_ hv, vs_ hv, vx0 hv, vx1 hv, vx2 hv, vx3 hv, Int.toNat_natCast, sj_add, sj_sub, sj_mul, sj_neg, sj_div, sj_ceq, sj_cne, sj_clt, sj_cge, sj_cgt, sj_cle, bi_ceq, bi_cne, bi_01]
      rw [if_neg (by omega), if_pos hf]
      have e3 : ∀ (b : Int) (c : Int), (b = 0 ∨ b = 1) → (c = 0 ∨ c = 1) → ∃ g' : Option Value × Option Value × Option Value, sk_D51 d 101 [some (.ref a), some (.int (sj x)), some (.int (sj y)), some (.int (sj w)), some (.int (sj t)), some (.int (sj s)), some (.int (sj (k : Int))), some (.ref (a + 9 + k)), some (.int (sj b)), g.2.2] [.int (sj c)] (sk_mk S I) = sk_D51 d 6 [some (.ref a), some (.int (sj x)), some (.int (sj y)), some (.int (sj w)), some (.int (sj t)), some (.int (sj (if (b = 1 ∧ c = 1) ∧ s < v 7 k + v 16 k then v 7 k + v 16 k else s))), some (.int (sj ((k + 1 : Nat) : Int))), g'.1, g'.2.1, g'.2.2] [] (sk_mk S I) := by
        intro b c hb hc
        refine ⟨(some (.ref (a + 9 + k)), some (.int (sj b)), some (.int (sj c))), ?_⟩
        rw [sk_e51_101]
        simp (disch := omega) only [pl_r0 hS ha, pl_r1 hS ha, pl_r2 hS ha, pl_r3 hS ha, pl_i4 hS ha, pl_u4 hS ha, pl_i5 hS ha, pl_u5 hS ha, pl_i6 hS ha, pl_u6 hS ha, pl_i7 hS ha, pl_u7 hS ha, pl_i8 hS ha, pl_u8 hS ha, pl_o hS ha, pl_p hS ha, po_a hS ha, po_s hS ha, po_n hS ha, ps_a hS ha, ps_s hS ha, ps_n hS ha, pw_r0 hS ha, pw_r1 hS ha, pw_r2 hS ha, pw_r3 hS ha, pw_i4 hS ha, pw_u4 hS ha, pw_o hS ha, pw0_a hS ha, pw0_s hS ha, pw0_n hS ha, pw1_a hS ha, pw1_s hS ha, pw1_n hS ha, pw2_a hS ha, pw2_s hS ha, pw2_n hS ha, pw3_a hS ha, pw3_s hS ha, pw3_n hS ha, pq_i0 hS ha, pq_u0 hS ha, pq_i1 hS ha, pq_u1 hS ha, pq_i2 hS ha, pq_u2 hS ha, pq_i3 hS ha, pq_u3 hS ha, pq_i4 hS ha, pq_u4 hS ha, pq_i5 hS ha, pq_u5 hS ha, pq_i6 hS ha, pq_u6 hS ha, pq_i7 hS ha, pq_u7 hS ha, pq_i8 hS ha, pq_u8 hS ha, pq_i9 hS ha, pq_u9 hS ha, pq_o hS ha, Option.bind_some, sk_ci_some, sk_cv_some, sk_cf_some, if_true, eq_self, ite_self, vc4 hv, vc5 hv, vc6 hv, vc7 hv, vc8 hv, vcz hv, vp0 hv, vp1 hv, vp2 hv, vp3 hv, vp4 hv, vp5 hv, vp6 hv, vp7 hv, vp8 hv, vp9 hv, vo_ hv, vs_ hv, vx0 hv, vx1 hv, vx2 hv, vx3 hv, Int.toNat_natCast, sj_add, sj_sub, sj_mul, sj_neg, sj_div, sj_ceq, sj_cne, sj_clt, sj_cge, sj_cgt, sj_cle, bi_ceq, bi_cne, bi_01, Int.natCast_add, Int.cast_ofNat_Int, ← Int.add_assoc]
        grind
      have e2 : ∀ b : Int, (b = 0 ∨ b = 1) → ∃ g' : Option Value × Option Value × Option Value, sk_D51 d 67 [some (.ref a), some (.int (sj x)), some (.int (sj y)), some (.int (sj w)), some (.int (sj t)), some (.int (sj s)), some (.int (sj (k : Int))), some (.ref (a + 9 + k)), g.2.1, g.2.2] [.int (sj b)] (sk_mk S I) = sk_D51 d 6 [some (.ref a), some (.int (sj x)), some (.int (sj y)), some (.int (sj w)), some (.int (sj t)), some (.int (sj (if (b = 1 ∧ v 7 k < y + t ∧ y < v 7 k + v 16 k) ∧ s < v 7 k + v 16 k then v 7 k + v 16 k else s))), some (.int (sj ((k + 1 : Nat) : Int))), g'.1, g'.2.1, g'.2.2] [] (sk_mk S I) := by
        intro b hb
        rw [sk_e51_67]
        simp (disch := omega) only [pl_r0 hS ha, pl_r1 hS ha, pl_r2 hS ha, pl_r3 hS ha, pl_i4 hS ha, pl_u4 hS ha, pl_i5 hS ha, pl_u5 hS ha, pl_i6 hS ha, pl_u6 hS ha, pl_i7 hS ha, pl_u7 hS ha, pl_i8 hS ha, pl_u8 hS ha, pl_o hS ha, pl_p hS ha, po_a hS ha, po_s hS ha, po_n hS ha, ps_a hS ha, ps_s hS ha, ps_n hS ha, pw_r0 hS ha, pw_r1 hS ha, pw_r2 hS ha, pw_r3 hS ha, pw_i4 hS ha, pw_u4 hS ha, pw_o hS ha, pw0_a hS ha, pw0_s hS ha, pw0_n hS ha, pw1_a hS ha, pw1_s hS ha, pw1_n hS ha, pw2_a hS ha, pw2_s hS ha, pw2_n hS ha, pw3_a hS ha, pw3_s hS ha, pw3_n hS ha, pq_i0 hS ha, pq_u0 hS ha, pq_i1 hS ha, pq_u1 hS ha, pq_i2 hS ha, pq_u2 hS ha, pq_i3 hS ha, pq_u3 hS ha, pq_i4 hS ha, pq_u4 hS ha, pq_i5 hS ha, pq_u5 hS ha, pq_i6 hS ha, pq_u6 hS ha, pq_i7 hS ha, pq_u7 hS ha, pq_i8 hS ha, pq_u8 hS ha, pq_i9 hS ha, pq_u9 hS ha, pq_o hS ha, Option.bind_some, sk_ci_some, sk_cv_some, sk_cf_some, if_true, eq_self, ite_self, vc4 hv, vc5 hv, vc6 hv, vc7 hv, vc8 hv, vcz hv, vp0 hv, vp1 hv, vp2 hv, vp3 hv, vp4 hv, vp5 hv, vp6 hv, vp7 hv, vp8 hv, vp9 hv, vo_ hv, vs_ hv, vx0 hv, vx1 hv, vx2 hv, vx3 hv, Int.toNat_natCast, sj_add, sj_sub, sj_mul, sj_neg, sj_div, sj_ceq, sj_cne, sj_clt, sj_cge, sj_cgt, sj_cle, bi_ceq, bi_cne, bi_01]
        by_cases q1 : y + t ≤ v 7 k
        · rw [if_pos q1]
          obtain ⟨g', e4⟩ := e3 b 0 hb (Or.inl rfl)
          refine ⟨g', e4.trans ?_⟩
          rw [if_neg (by omega), if_neg (by omega)]
        · rw [if_neg q1]
          by_cases q2 : v 7 k + v 16 k ≤ y
          · rw [if_pos q2]
            obtain ⟨g', e4⟩ := e3 b 0 hb (Or.inl rfl)
            refine ⟨g', e4.trans ?_⟩
            rw [if_neg (by omega), if_neg (by omega)]
          · rw [if_neg q2]
            obtain ⟨g', e4⟩ := e3 b 1 hb (Or.inr rfl)
            refine ⟨g', e4.trans ?_⟩
            rw [show (if (b = 1 ∧ (1 : Int) = 1) ∧ s < v 7 k + v 16 k then v 7 k + v 16 k else s) = (if (b = 1 ∧ v 7 k < y + t ∧ y < v 7 k + v 16 k) ∧ s < v 7 k + v 16 k then v 7 k + v 16 k else s) from ite_iff (by omega) _ _]
      have fin : ∀ (c : Int) (g' : Option Value × Option Value × Option Value) (X : Option sk_R), (c = 1 ↔ (v 6 k < x + w ∧ x < v 6 k + v 15 k)) → X = sk_D51 d 6 [some (.ref a), some (.int (sj x)), some (.int (sj y)), some (.int (sj w)), some (.int (sj t)), some (.int (sj (if (c = 1 ∧ v 7 k < y + t ∧ y < v 7 k + v 16 k) ∧ s < v 7 k + v 16 k then v 7 k + v 16 k else s))), some (.int (sj ((k + 1 : Nat) : Int))), g'.1, g'.2.1, g'.2.2] [] (sk_mk S I) → X = sk_D51 d 6 [some (.ref a), some (.int (sj x)), some (.int (sj y)), some (.int (sj w)), some (.int (sj t)), some (.int (sj (if hit v x y w t k = true ∧ s < v 7 k + v 16 k then v 7 k + v 16 k else s))), some (.int (sj ((k + 1 : Nat) : Int))), g'.1, g'.2.1, g'.2.2] [] (sk_mk S I) := by
        intro c g' X hc h
        rw [h]
        have : ((c = 1 ∧ v 7 k < y + t ∧ y < v 7 k + v 16 k) ∧ s < v 7 k + v 16 k) = (hit v x y w t k = true ∧ s < v 7 k + v 16 k) := by
          unfold hit
          rw [decide_eq_true_eq]
          apply propext
          omega
        simp only [this]
      by_cases q1 : x + w ≤ v 6 k
      · rw [if_pos q1]
        obtain ⟨g', e4⟩ := e2 0 (Or.inl rfl)
        exact ⟨g', fin 0 g' _ (by omega) e4⟩
      · rw [if_neg q1]
        by_cases q2 : v 6 k + v 15 k ≤ x
        · rw [if_pos q2]
          obtain ⟨g', e4⟩ := e2 0 (Or.inl rfl)
          exact ⟨g', fin 0 g' _ (by omega) e4⟩
        · rw [if_neg q2]
          obtain ⟨g', e4⟩ := e2 1 (Or.inr rfl)
          exact ⟨g', fin 1 g' _ (by omega) e4⟩
    · have hh : hit v x y w t k = false := by simp [hit, hf]
      refine ⟨by rw [if_neg (by simp [hh])]; exact hs, (some (.ref (a + 9 + k)), g.2.1, g.2.2), ?_⟩
      rw [sk_e51_6]
      simp (disch := omega) only [pl_r0 hS ha, pl_r1 hS ha, pl_r2 hS ha, pl_r3 hS ha, pl_i4 hS ha, pl_u4 hS ha, pl_i5 hS ha, pl_u5 hS ha, pl_i6 hS ha, pl_u6 hS ha, pl_i7 hS ha, pl_u7 hS ha, pl_i8 hS ha, pl_u8 hS ha, pl_o hS ha, pl_p hS ha, po_a hS ha, po_s hS ha, po_n hS ha, ps_a hS ha, ps_s hS ha, ps_n hS ha, pw_r0 hS ha, pw_r1 hS ha, pw_r2 hS ha, pw_r3 hS ha, pw_i4 hS ha, pw_u4 hS ha, pw_o hS ha, pw0_a hS ha, pw0_s hS ha, pw0_n hS ha, pw1_a hS ha, pw1_s hS ha, pw1_n hS ha, pw2_a hS ha, pw2_s hS ha, pw2_n hS ha, pw3_a hS ha, pw3_s hS ha, pw3_n hS ha, pq_i0 hS ha, pq_u0 hS ha, pq_i1 hS ha, pq_u1 hS ha, pq_i2 hS ha, pq_u2 hS ha, pq_i3 hS ha, pq_u3 hS ha, pq_i4 hS ha, pq_u4 hS ha, pq_i5 hS ha, pq_u5 hS ha, pq_i6 hS ha, pq_u6 hS ha, pq_i7 hS ha, pq_u7 hS ha, pq_i8 hS ha, pq_u8 hS ha, pq_i9 hS ha, pq_u9 hS ha, pq_o hS ha, Option.bind_some, sk_ci_some, sk_cv_some, sk_cf_some, if_true, eq_self, ite_self, vc4 hv, vc5 hv, vc6 hv, vc7 hv, vc8 hv, vcz hv, vp0 hv, vp1 hv, vp2 hv, vp3 hv, vp4 hv, vp5 hv, vp6 hv, vp7 hv, vp8 hv, vp9 hv, vo_ hv, vs_ hv, vx0 hv, vx1 hv, vx2 hv, vx3 hv, Int.toNat_natCast, sj_add, sj_sub, sj_mul, sj_neg, sj_div, sj_ceq, sj_cne, sj_clt, sj_cge, sj_cgt, sj_cle, bi_ceq, bi_cne, bi_01, Int.natCast_add, Int.cast_ofNat_Int, ← Int.add_assoc]
      rw [if_neg (by omega), if_neg hf, if_neg (by simp [hh])]) (-1) (none, none, none) ⟨by omega, by omega⟩
  refine e.trans ?_
  rw [sk_e51_6]
  simp (disch := omega) only [pl_r0 hS ha, pl_r1 hS ha, pl_r2 hS ha, pl_r3 hS ha, pl_i4 hS ha, pl_u4 hS ha, pl_i5 hS ha, pl_u5 hS ha, pl_i6 hS ha, pl_u6 hS ha, pl_i7 hS ha, pl_u7 hS ha, pl_i8 hS ha, pl_u8 hS ha, pl_o hS ha, pl_p hS ha, po_a hS ha, po_s hS ha, po_n hS ha, ps_a hS ha, ps_s hS ha, ps_n hS ha, pw_r0 hS ha, pw_r1 hS ha, pw_r2 hS ha, pw_r3 hS ha, pw_i4 hS ha, pw_u4 hS ha, pw_o hS ha, pw0_a hS ha, pw0_s hS ha, pw0_n hS ha, pw1_a hS ha, pw1_s hS ha, pw1_n hS ha, pw2_a hS ha, pw2_s hS ha, pw2_n hS ha, pw3_a hS ha, pw3_s hS ha, pw3_n hS ha, pq_i0 hS ha, pq_u0 hS ha, pq_i1 hS ha, pq_u1 hS ha, pq_i2 hS ha, pq_u2 hS ha, pq_i3 hS ha, pq_u3 hS ha, pq_i4 hS ha, pq_u4 hS ha, pq_i5 hS ha, pq_u5 hS ha, pq_i6 hS ha, pq_u6 hS ha, pq_i7 hS ha, pq_u7 hS ha, pq_i8 hS ha, pq_u8 hS ha, pq_i9 hS ha, pq_u9 hS ha, pq_o hS ha, Option.bind_some, sk_ci_some, sk_cv_some, sk_cf_some, if_true, eq_self, ite_self, vc4 hv, vc5 hv, vc6 hv, vc7 hv, vc8 hv, vcz hv, vp0 hv, vp1 hv, vp2 hv, vp3 hv, vp4 hv, vp5 hv, vp6 hv, vp7 hv, vp8 hv, vp9 hv, vo_ hv, vs_ hv, vx0 hv, vx1 hv, vx2 hv, vx3 hv, Int.toNat_natCast, sj_add, sj_sub, sj_mul, sj_neg, sj_div, sj_ceq, sj_cne, sj_clt, sj_cge, sj_cgt, sj_cle, bi_ceq, bi_cne, bi_01]
  rw [if_pos (by omega)]
  rfl
end PLN
