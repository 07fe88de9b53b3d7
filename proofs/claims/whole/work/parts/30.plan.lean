/-! ===== where a part would rest, what it would cost ===== -/
def skyMx (v : sk_H) (x w : Nat) : Int := maxTo w (fun j => v 10 (x + j)) 0
def restF (v : sk_H) (x w t : Int) : Nat → Int → Int
  | 0, y => y
  | n + 1, y => if topIn v x y w t = -1 then y else restF v x w t n (topIn v x y w t)
def restV (v : sk_H) (x w : Nat) (t : Int) : Int := restF v x w t 10 (skyMx v x w)
def wstV (v : sk_H) (x w : Nat) (y : Int) : Int := sumTo w (fun j => y - v 10 (x + j))
def tchS (v : sk_H) (c y t : Int) : Int := if c < 0 then t else if c < v 0 0 then v 10 c.toNat - y else t
def tchV (v : sk_H) (x w : Nat) (y t : Int) : Int :=
  let n0 := cntTo w (fun j => decide (v 10 (x + j) = y))
  let n1 := if tchS v (x - 1) y t ≤ 0 then n0 else if t ≤ tchS v (x - 1) y t then n0 + t else n0 + tchS v (x - 1) y t
  if tchS v (x + w) y t ≤ 0 then n1 else if t ≤ tchS v (x + w) y t then n1 + t else n1 + tchS v (x + w) y t
def costV (v : sk_H) (x w : Nat) (y t ws : Int) : Int := if v 0 3 = 1 then ws else if v 0 3 = 2 then y + t else if v 0 3 = 3 then -tchV v x w y t else y
theorem skyMx_rng {v : sk_H} (hV : VO v) {x w : Nat} (h : (x : Int) + w ≤ v 0 0) : 0 ≤ skyMx v x w ∧ skyMx v x w ≤ 300 :=
  maxTo_rng ⟨by omega, by omega⟩ (fun k hk => (hV.2.2.2.1 (x + k) (by omega)).2)
theorem restF_rng {v : sk_H} (hV : VO v) {x w t : Int} : ∀ (n : Nat) (y : Int), 0 ≤ y → y ≤ 400 → 0 ≤ restF v x w t n y ∧ restF v x w t n y ≤ 400
  | 0, y, h1, h2 => ⟨h1, h2⟩
  | n + 1, y, h1, h2 => by
    unfold restF
    split
    · exact ⟨h1, h2⟩
    · have := topIn_rng hV x y w t
      have h3 : topIn v x y w t = -1 ∨ 0 ≤ topIn v x y w t := by omega
      rcases h3 with h3 | h3
      · omega
      · exact restF_rng hV n _ h3 (by omega)
theorem restV_rng {v : sk_H} (hV : VO v) {x w : Nat} {t : Int} (h : (x : Int) + w ≤ v 0 0) : 0 ≤ restV v x w t ∧ restV v x w t ≤ 400 :=
  restF_rng hV _ _ (skyMx_rng hV h).1 (by have := (skyMx_rng hV h).2; omega)
theorem sumTo_rng {n : Nat} {f : Nat → Int} {lo hi : Int} (hl : lo ≤ 0) (hh : 0 ≤ hi) (h : ∀ k, k < n → lo ≤ f k ∧ f k ≤ hi) : lo * n ≤ sumTo n f ∧ sumTo n f ≤ hi * n := by
  refine fld_inv (fun k (s : Int) => lo * k ≤ s ∧ s ≤ hi * k) (fun k s hk hs => ?_) ⟨by simp, by simp⟩
  have := h k hk
  have e1 : lo * ((k + 1 : Nat) : Int) = lo * k + lo := by rw [show ((k + 1 : Nat) : Int) = (k : Int) + 1 from rfl, Int.mul_add, Int.mul_one]
  have e2 : hi * ((k + 1 : Nat) : Int) = hi * k + hi := by rw [show ((k + 1 : Nat) : Int) = (k : Int) + 1 from rfl, Int.mul_add, Int.mul_one]
  rw [e1, e2]
  omega
theorem wstV_rng {v : sk_H} (hV : VO v) {x w : Nat} {y : Int} (h : (x : Int) + w ≤ v 0 0) (h1 : 0 ≤ y) (h2 : y ≤ 400) : -8000 ≤ wstV v x w y ∧ wstV v x w y ≤ 8000 := by
  obtain ⟨n1, n2, n3, n4, n5, n6, n7, n8, n9, n10, n11, n12⟩ := hV.1
  have h3 := sumTo_rng (n := w) (f := fun j => y - v 10 (x + j)) (lo := -400) (hi := 400) (by omega) (by omega) (fun k hk => by
    have := hV.2.2.2.1 (x + k) (by omega)
    constructor <;> omega)
  unfold wstV
  omega
theorem tchS_rng {v : sk_H} (hV : VO v) {c y t : Int} (h1 : 0 ≤ y) (h2 : y ≤ 400) (h3 : 0 ≤ t) (h4 : t ≤ 400) : -400 ≤ tchS v c y t ∧ tchS v c y t ≤ 400 := by
  unfold tchS
  split
  · omega
  · split
    · have := hV.2.2.2.1 c.toNat (by omega)
      omega
    · omega
theorem tchV_rng {v : sk_H} (hV : VO v) {x w : Nat} {y t : Int} (h : (x : Int) + w ≤ v 0 0) (h1 : 0 ≤ y) (h2 : y ≤ 400) (h3 : 0 ≤ t) (h4 : t ≤ 400) : 0 ≤ tchV v x w y t ∧ tchV v x w y t ≤ 1000 := by
  obtain ⟨n1, n2, n3, n4, n5, n6, n7, n8, n9, n10, n11, n12⟩ := hV.1
  have e1 := tchS_rng hV (c := x - 1) h1 h2 h3 h4
  have e2 := tchS_rng hV (c := x + w) h1 h2 h3 h4
  have e3 := cntTo_rng w (fun j => decide (v 10 (x + j) = y))
  unfold tchV
  dsimp only
  split <;> split <;> (try split) <;> (try split) <;> omega
section PLN
variable {S : List sk_Sh} {I v : sk_H} {a : Nat}
theorem m52 {d : Nat} (hd : 2 ≤ d) (hS : sk_G S) (ha : sk_isP a) (hv : vC I a = v) (hV : VO v) {x w : Nat} {t : Int} (h : (x : Int) + w ≤ v 0 0) (h1 : 0 ≤ t) (h2 : t ≤ 400) : sk_c d 52 [.ref a, .int (sj x), .int (sj w), .int (sj t)] (sk_mk S I) = some (some (.int (sj (restV v x w t))), sk_mk S I) := by
  obtain ⟨n1, n2, n3, n4, n5, n6, n7, n8, n9, n10, n11, n12⟩ := hV.1
  obtain ⟨d, rfl⟩ : ∃ e, d = e + 1 := ⟨d - 1, by omega⟩; rw [sk_e52]
  obtain ⟨hi, e⟩ := lp_fold0 (fun k s => sk_D52 d 6 [some (.ref a), some (.int (sj x)), some (.int (sj w)), some (.int (sj t)), some (.int (sj s)), some (.int (sj ((x : Int) + (k : Int)))), none] [] (sk_mk S I)) (fun j s => if s < v 10 (x + j) then v 10 (x + j) else s) w (fun k s => 0 ≤ s ∧ s ≤ 300) (fun k s hk hs => by
    have hE := hV.2.2.2.1 (x + k) (by omega)
    refine ⟨by split <;> omega, ?_⟩
    rw [sk_e52_6]
    simp (disch := omega) only [pl_r0 hS ha, pl_r1 hS ha, pl_r2 hS ha, pl_r3 hS ha, pl_i4 hS ha, pl_u4 hS ha, pl_i5 hS ha, pl_u5 hS ha, pl_i6 hS ha, pl_u6 hS ha, pl_i7 hS ha, pl_u7 hS ha, pl_i8 hS ha, pl_u8 hS ha, pl_o hS ha, pl_p hS ha, po_a hS ha, po_s hS ha, po_n hS ha, ps_a hS ha, ps_s hS ha, ps_n hS ha, pw_r0 hS ha, pw_r1 hS ha, pw_r2 hS ha, pw_r3 hS ha, pw_i4 hS ha, pw_u4 hS ha, pw_o hS ha, pw0_a hS ha, pw0_s hS ha, pw0_n hS ha, pw1_a hS ha, pw1_s hS ha, pw1_n hS ha, pw2_a hS ha, pw2_s hS ha, pw2_n hS ha, pw3_a hS ha, pw3_s hS ha, pw3_n hS ha, pq_i0 hS ha, pq_u0 hS ha, pq_i1 hS ha, pq_u1 hS ha, pq_i2 hS ha, pq_u2 hS ha, pq_i3 hS ha, pq_u3 hS ha, pq_i4 hS ha, pq_u4 hS ha, pq_i5 hS ha, pq_u5 hS ha, pq_i6 hS ha, pq_u6 hS ha, pq_i7 hS ha, pq_u7 hS ha, pq_i8 hS ha, pq_u8 hS ha, pq_i9 hS ha, pq_u9 hS ha, pq_o hS ha, Option.bind_some, sk_ci_some, sk_cv_some, sk_cf_some, if_true, eq_self, ite_self, vc4 hv, vc5 hv, vc6 hv, vc7 hv, vc8 hv, vcz hv, vp0 hv, vp1 hv, vp2 hv, vp3 hv, vp4 hv, vp5 hv, vp6 hv, vp7 hv, vp8 hv, vp9 hv, vo_ hv, vs_ hv, vx0 hv, vx1 hv, vx2 hv, vx3 hv, Int.toNat_natCast, sj_add, sj_sub, sj_mul, sj_neg, sj_div, sj_ceq, sj_cne, sj_clt, sj_cge, sj_cgt, sj_cle, bi_ceq, bi_cne, bi_01, Int.natCast_add, Int.cast_ofNat_Int, ← Int.add_assoc]
    have t1 : ((x : Int) + (k : Int)).toNat = x + k := by omega
    rw [t1]
    simp (disch := omega) only [pl_r0 hS ha, pl_r1 hS ha, pl_r2 hS ha, pl_r3 hS ha, pl_i4 hS ha, pl_u4 hS ha, pl_i5 hS ha, pl_u5 hS ha, pl_i6 hS ha, pl_u6 hS ha, pl_i7 hS ha, pl_u7 hS ha, pl_i8 hS ha, pl_u8 hS ha, pl_o hS ha, pl_p hS ha, po_a hS ha, po_s hS ha, po_n hS ha, ps_a hS ha, ps_s hS ha, ps_n hS ha, pw_r0 hS ha, pw_r1 hS ha, pw_r2 hS ha, pw_r3 hS ha, pw_i4 hS ha, pw_u4 hS ha, pw_o hS ha, pw0_a hS ha, pw0_s hS ha, pw0_n hS ha, pw1_a hS ha, pw1_s hS ha, pw1_n hS ha, pw2_a hS ha, pw2_s hS ha, pw2_n hS ha, pw3_a hS ha, pw3_s hS ha, pw3_n hS ha, pq_i0 hS ha, pq_u0 hS ha, pq_i1 hS ha, pq_u1 hS ha, pq_i2 hS ha, pq_u2 hS ha, pq_i3 hS ha, pq_u3 hS ha, pq_i4 hS ha, pq_u4 hS ha, pq_i5 hS ha, pq_u5 hS ha, pq_i6 hS ha, pq_u6 hS ha, pq_i7 hS ha, pq_u7 hS ha, pq_i8 hS ha, pq_u8 hS ha, pq_i9 hS ha, pq_u9 hS ha, pq_o hS ha, Option.bind_some, sk_ci_some, sk_cv_some, sk_cf_some, if_true, eq_self, ite_self, vc4 hv, vc5 hv, vc6 hv, vc7 hv, vc8 hv, vcz hv, vp0 hv, vp1 hv, vp2 hv, vp3 hv, vp4 hv, vp5 hv, vp6 hv, vp7 hv, vp8 hv, vp9 hv, vo_ hv, vs_ hv, vx0 hv, vx1 hv, vx2 hv, vx3 hv, Int.toNat_natCast, sj_add, sj_sub, sj_mul, sj_neg, sj_div, sj_ceq, sj_cne, sj_clt, sj_cge, sj_cgt, sj_cle, bi_ceq, bi_cne, bi_01]
    rw [if_neg (by omega)]
    by_cases hq : v 10 (x + k) ≤ s
    · rw [if_pos hq, if_neg (by omega)]
    · rw [if_neg hq, if_pos (by omega)]) 0 ⟨by omega, by omega⟩
  have e0 : (x : Int) = (x : Int) + ((0 : Nat) : Int) := by simp
  have e : sk_D52 d 6 [some (.ref a), some (.int (sj x)), some (.int (sj w)), some (.int (sj t)), some (.int (sj 0)), some (.int (sj ((x : Int) + ((0 : Nat) : Int)))), none] [] (sk_mk S I) = sk_D52 d 6 [some (.ref a), some (.int (sj x)), some (.int (sj w)), some (.int (sj t)), some (.int (sj (skyMx v x w))), some (.int (sj ((x : Int) + (w : Int)))), none] [] (sk_mk S I) := e
  rw [← e0] at e
  refine e.trans ?_
  rw [sk_e52_6]
  simp (disch := omega) only [pl_r0 hS ha, pl_r1 hS ha, pl_r2 hS ha, pl_r3 hS ha, pl_i4 hS ha, pl_u4 hS ha, pl_i5 hS ha, pl_u5 hS ha, pl_i6 hS ha, pl_u6 hS ha, pl_i7 hS ha, pl_u7 hS ha, pl_i8 hS ha, pl_u8 hS ha, pl_o hS ha, pl_p hS ha, po_a hS ha, po_s hS ha, po_n hS ha, ps_a hS ha, ps_s hS ha, ps_n hS ha, pw_r0 hS ha, pw_r1 hS ha, pw_r2 hS ha, pw_r3 hS ha, pw_i4 hS ha, pw_u4 hS ha, pw_o hS ha, pw0_a hS ha, pw0_s hS ha, pw0_n hS ha, pw1_a hS ha, pw1_s hS ha, pw1_n hS ha, pw2_a hS ha, pw2_s hS ha, pw2_n hS ha, pw3_a hS ha, pw3_s hS ha, pw3_n hS ha, pq_i0 hS ha, pq_u0 hS ha, pq_i1 hS ha, pq_u1 hS ha, pq_i2 hS ha, pq_u2 hS ha, pq_i3 hS ha, pq_u3 hS ha, pq_i4 hS ha, pq_u4 hS ha, pq_i5 hS ha, pq_u5 hS ha, pq_i6 hS ha, pq_u6 hS ha, pq_i7 hS ha, pq_u7 hS ha, pq_i8 hS ha, pq_u8 hS ha, pq_i9 hS ha, pq_u9 hS ha, pq_o hS ha, Option.bind_some, sk_ci_some, sk_cv_some, sk_cf_some, if_true, eq_self, ite_self, vc4 hv, vc5 hv, vc6 hv, vc7 hv, vc8 hv, vcz hv, vp0 hv, vp1 hv, vp2 hv, vp3 hv, vp4 hv, vp5 hv, vp6 hv, vp7 hv, vp8 hv, vp9 hv, vo_ hv, vs_ hv, vx0 hv, vx1 hv, vx2 hv, vx3 hv, Int.toNat_natCast, sj_add, sj_sub, sj_mul, sj_neg, sj_div, sj_ceq, sj_cne, sj_clt, sj_cge, sj_cgt, sj_cle, bi_ceq, bi_cne, bi_01]
  rw [if_pos (by omega)]
  have key : ∀ n k : Nat, n + k = 10 → ∀ (y : Int) (g : Option Value), 0 ≤ y → y ≤ 400 → sk_D52 d 44 [some (.ref a), some (.int (sj x)), some (.int (sj w)), some (.int (sj t)), some (.int (sj y)), some (.int (sj (k : Int))), g] [] (sk_mk S I) = some (some (.int (sj (restF v x w t n y))), sk_mk S I) := by
    intro n
    induction n with
    | zero =>
      intro k hk y g h1 h2
      obtain rfl : k = 10 := by omega
      rw [sk_e52_44]
      simp (disch := omega) only [pl_r0 hS ha, pl_r1 hS ha, pl_r2 hS ha, pl_r3 hS ha, pl_i4 hS ha, pl_u4 hS ha, pl_i5 hS ha, pl_u5 hS ha, pl_i6 hS ha, pl_u6 hS ha, pl_i7 hS ha, pl_u7 hS ha, pl_i8 hS ha, pl_u8 hS ha, pl_o hS ha, pl_p hS ha, po_a hS ha, po_s hS ha, po_n hS ha, ps_a hS ha, ps_s hS ha, ps_n hS ha, pw_r0 hS ha, pw_r1 hS ha, pw_r2 hS ha, pw_r3 hS ha, pw_i4 hS ha, pw_u4 hS ha, pw_o hS ha, pw0_a hS ha, pw0_s hS ha, pw0_n hS ha, pw1_a hS ha, pw1_s hS ha, pw1_n hS ha, pw2_a hS ha, pw2_s hS ha, pw2_n hS ha, pw3_a hS ha, pw3_s hS ha, pw3_n hS ha, pq_i0 hS ha, pq_u0 hS ha, pq_i1 hS ha, pq_u1 hS ha, pq_i2 hS ha, pq_u2 hS ha, pq_i3 hS ha, pq_u3 hS ha, pq_i4 hS ha, pq_u4 hS ha, pq_i5 hS ha, pq_u5 hS ha, pq_i6 hS ha, pq_u6 hS ha, pq_i7 hS ha, pq_u7 hS ha, pq_i8 hS ha, pq_u8 hS ha, pq_i9 hS ha, pq_u9 hS ha, pq_o hS ha, Option.bind_some, sk_ci_some, sk_cv_some, sk_cf_some, if_true, eq_self, ite_self, vc4 hv, vc5 hv, vc6 hv, vc7 hv, vc8 hv, vcz hv, vp0 hv, vp1 hv, vp2 hv, vp3 hv, vp4 hv, vp5 hv, vp6 hv, vp7 hv, vp8 hv, vp9 hv, vo_ hv, vs_ hv, vx0 hv, vx1 hv, vx2 hv, vx3 hv, Int.toNat_natCast, sj_add, sj_sub, sj_mul, sj_neg, sj_div, sj_ceq, sj_cne, sj_clt, sj_cge, sj_cgt, sj_cle, bi_ceq, bi_cne, bi_01]
      rw [if_pos (by omega)]
      rfl
    | succ n ih =>
      intro k hk y g h1 h2
      have ht := topIn_rng hV x y w t
      rw [sk_e52_44]
      simp (disch := omega) only [pl_r0 hS ha, pl_r1 hS ha, pl_r2 hS ha, pl_r3 hS ha, pl_i4 hS ha, pl_u4 hS ha, pl_i5 hS ha, pl_u5 hS ha, pl_i6 hS ha, pl_u6 hS ha, pl_i7 hS ha, pl_u7 hS ha, pl_i8 hS ha, pl_u8 hS ha, pl_o hS ha, pl_p hS ha, po_a hS ha, po_s hS ha, po_n hS ha, ps_a hS ha, ps_s hS ha, ps_n hS ha, pw_r0 hS ha, pw_r1 hS ha, pw_r2 hS ha, pw_r3 hS ha, pw_i4 hS ha, pw_u4 hS ha, pw_o hS ha, pw0_a hS ha, pw0_s hS ha, pw0_n hS ha, pw1_a hS ha, pw1_s hS ha, pw1_n hS ha, pw2_a hS ha, pw2_s hS ha, pw2_n hS ha, pw3_a hS ha, pw3_s hS ha, pw3_n hS ha, pq_i0 hS ha, pq_u0 hS ha, pq_i1 hS ha, pq_u1 hS ha, pq_i2 hS ha, pq_u2 hS ha, pq_i3 hS ha, pq_u3 hS ha, pq_i4 hS ha, pq_u4 hS ha, pq_i5 hS ha, pq_u5 hS ha, pq_i6 hS ha, pq_u6 hS ha, pq_i7 hS ha, pq_u7 hS ha, pq_i8 hS ha, pq_u8 hS ha, pq_i9 hS ha, pq_u9 hS ha, pq_o hS ha, Option.bind_some, sk_ci_some, sk_cv_some, sk_cf_some, if_true, eq_self, ite_self, vc4 hv, vc5 hv, vc6 hv, vc7 hv, vc8 hv, vcz hv, vp0 hv, vp1 hv, vp2 hv, vp3 hv, vp4 hv, vp5 hv, vp6 hv, vp7 hv, vp8 hv, vp9 hv, vo_ hv, vs_ hv, vx0 hv, vx1 hv, vx2 hv, vx3 hv, Int.toNat_natCast, sj_add, sj_sub, sj_mul, sj_neg, sj_div, sj_ceq, sj_cne, sj_clt, sj_cge, sj_cgt, sj_cle, bi_ceq, bi_cne, bi_01, m51 (v := v)]
      rw [if_neg (by omega)]
      unfold restF
      by_cases hq : topIn v x y w t = -1
      · rw [if_neg (by simp [hq]), if_pos hq]
      · rw [if_pos hq, if_neg hq]
        exact ih (k + 1) (by omega) _ _ (by omega) (by omega)
  exact key 10 0 rfl _ _ (skyMx_rng hV h).1 (by have := (skyMx_rng hV h).2; omega)
theorem m53 {d : Nat} (hd : 1 ≤ d) (hS : sk_G S) (ha : sk_isP a) (hv : vC I a = v) (hV : VO v) {x w : Nat} {y : Int} (h : (x : Int) + w ≤ v 0 0) (h1 : 0 ≤ y) (h2 : y ≤ 400) : sk_c d 53 [.ref a, .int (sj x), .int (sj y), .int (sj w)] (sk_mk S I) = some (some (.int (sj (wstV v x w y))), sk_mk S I) := by
  obtain ⟨n1, n2, n3, n4, n5, n6, n7, n8, n9, n10, n11, n12⟩ := hV.1
  obtain ⟨d, rfl⟩ : ∃ e, d = e + 1 := ⟨d - 1, by omega⟩; rw [sk_e53]
  obtain ⟨hi, e⟩ := lp_fold0 (fun k s => sk_D53 d 6 [some (.ref a), some (.int (sj x)), some (.int (sj y)), some (.int (sj w)), some (.int (sj s)), some (.int (sj ((x : Int) + (k : Int))))] [] (sk_mk S I)) (fun j s => s + (y - v 10 (x + j))) w (fun k s => True) (fun k s hk hs => by
    have hE := hV.2.2.2.1 (x + k) (by omega)
    refine ⟨trivial, ?_⟩
    rw [sk_e53_6]
    simp (disch := omega) only [pl_r0 hS ha, pl_r1 hS ha, pl_r2 hS ha, pl_r3 hS ha, pl_i4 hS ha, pl_u4 hS ha, pl_i5 hS ha, pl_u5 hS ha, pl_i6 hS ha, pl_u6 hS ha, pl_i7 hS ha, pl_u7 hS ha, pl_i8 hS ha, pl_u8 hS ha, pl_o hS ha, pl_p hS ha, po_a hS ha, po_s hS ha, po_n hS ha, ps_a hS ha, ps_s hS ha, ps_n hS ha, pw_r0 hS ha, pw_r1 hS ha, pw_r2 hS ha, pw_r3 hS ha, pw_i4 hS ha, pw_u4 hS ha, pw_o hS ha, pw0_a hS ha, pw0_s hS ha, pw0_n hS ha, pw1_a hS ha, pw1_s hS ha, pw1_n hS ha, pw2_a hS ha, pw2_s hS ha, pw2_n hS ha, pw3_a hS ha, pw3_s hS ha, pw3_n hS ha, pq_i0 hS ha, pq_u0 hS ha, pq_i1 hS ha, pq_u1 hS ha, pq_i2 hS ha, pq_u2 hS ha, pq_i3 hS ha, pq_u3 hS ha, pq_i4 hS ha, pq_u4 hS ha, pq_i5 hS ha, pq_u5 hS ha, pq_i6 hS ha, pq_u6 hS ha, pq_i7 hS ha, pq_u7 hS ha, pq_i8 hS ha, pq_u8 hS ha, pq_i9 hS ha, pq_u9 hS ha, pq_o hS ha, Option.bind_some, sk_ci_some, sk_cv_some, sk_cf_some, if_true, eq_self, ite_self, vc4 hv, vc5 hv, vc6 hv, vc7 hv, vc8 hv, vcz hv, vp0 hv, vp1 hv, vp2 hv, vp3 hv, vp4 hv, vp5 hv, vp6 hv, vp7 hv, vp8 hv, vp9 hv, vo_ hv, vs_ hv, vx0 hv, vx1 hv, vx2 hv, vx3 hv, Int.toNat_natCast, sj_add, sj_sub, sj_mul, sj_neg, sj_div, sj_ceq, sj_cne, sj_clt, sj_cge, sj_cgt, sj_cle, bi_ceq, bi_cne, bi_01, Int.natCast_add, Int.cast_ofNat_Int, ← Int.add_assoc]
    have t1 : ((x : Int) + (k : Int)).toNat = x + k := by omega
    rw [t1]
    rw [if_neg (by omega)]) 0 trivial
  have e0 : (x : Int) = (x : Int) + ((0 : Nat) : Int) := by simp
  have e : sk_D53 d 6 [some (.ref a), some (.int (sj x)), some (.int (sj y)), some (.int (sj w)), some (.int (sj 0)), some (.int (sj ((x : Int) + ((0 : Nat) : Int))))] [] (sk_mk S I) = sk_D53 d 6 [some (.ref a), some (.int (sj x)), some (.int (sj y)), some (.int (sj w)), some (.int (sj (wstV v x w y))), some (.int (sj ((x : Int) + (w : Int))))] [] (sk_mk S I) := e
  rw [← e0] at e
  refine e.trans ?_
  rw [sk_e53_6]
  simp (disch := omega) only [pl_r0 hS ha, pl_r1 hS ha, pl_r2 hS ha, pl_r3 hS ha, pl_i4 hS ha, pl_u4 hS ha, pl_i5 hS ha, pl_u5 hS ha, pl_i6 hS ha, pl_u6 hS ha, pl_i7 hS ha, pl_u7 hS ha, pl_i8 hS ha, pl_u8 hS ha, pl_o hS ha, pl_p hS ha, po_a hS ha, po_s hS ha, po_n hS ha, ps_a hS ha, ps_s hS ha, ps_n hS ha, pw_r0 hS ha, pw_r1 hS ha, pw_r2 hS ha, pw_r3 hS ha, pw_i4 hS ha, pw_u4 hS ha, pw_o hS ha, pw0_a hS ha, pw0_s hS ha, pw0_n hS ha, pw1_a hS ha, pw1_s hS ha, pw1_n hS ha, pw2_a hS ha, pw2_s hS ha, pw2_n hS ha, pw3_a hS ha, pw3_s hS ha, pw3_n hS ha, pq_i0 hS ha, pq_u0 hS ha, pq_i1 hS ha, pq_u1 hS ha, pq_i2 hS ha, pq_u2 hS ha, pq_i3 hS ha, pq_u3 hS ha, pq_i4 hS ha, pq_u4 hS ha, pq_i5 hS ha, pq_u5 hS ha, pq_i6 hS ha, pq_u6 hS ha, pq_i7 hS ha, pq_u7 hS ha, pq_i8 hS ha, pq_u8 hS ha, pq_i9 hS ha, pq_u9 hS ha, pq_o hS ha, Option.bind_some, sk_ci_some, sk_cv_some, sk_cf_some, if_true, eq_self, ite_self, vc4 hv, vc5 hv, vc6 hv, vc7 hv, vc8 hv, vcz hv, vp0 hv, vp1 hv, vp2 hv, vp3 hv, vp4 hv, vp5 hv, vp6 hv, vp7 hv, vp8 hv, vp9 hv, vo_ hv, vs_ hv, vx0 hv, vx1 hv, vx2 hv, vx3 hv, Int.toNat_natCast, sj_add, sj_sub, sj_mul, sj_neg, sj_div, sj_ceq, sj_cne, sj_clt, sj_cge, sj_cgt, sj_cle, bi_ceq, bi_cne, bi_01]
  rw [if_pos (by omega)]
theorem m54 {d : Nat} (hd : 1 ≤ d) (hS : sk_G S) (ha : sk_isP a) (hv : vC I a = v) (hV : VO v) {x w : Nat} {y t : Int} (h : (x : Int) + w ≤ v 0 0) (h1 : 0 ≤ y) (h2 : y ≤ 400) (h3 : 0 ≤ t) (h4 : t ≤ 400) : sk_c d 54 [.ref a, .int (sj x), .int (sj y), .int (sj w), .int (sj t)] (sk_mk S I) = some (some (.int (sj (tchV v x w y t))), sk_mk S I) := by
  obtain ⟨n1, n2, n3, n4, n5, n6, n7, n8, n9, n10, n11, n12⟩ := hV.1
  obtain ⟨d, rfl⟩ : ∃ e, d = e + 1 := ⟨d - 1, by omega⟩; rw [sk_e54]
  obtain ⟨hi, e⟩ := lp_fold0 (fun k s => sk_D54 d 6 [some (.ref a), some (.int (sj x)), some (.int (sj y)), some (.int (sj w)), some (.int (sj t)), some (.int (sj s)), some (.int (sj ((x : Int) + (k : Int)))), none, none] [] (sk_mk S I)) (fun j s => if decide (v 10 (x + j) = y) = true then s + 1 else s) w (fun k s => 0 ≤ s ∧ s ≤ k) (fun k s hk hs => by
    have hE := hV.2.2.2.1 (x + k) (by omega)
    refine ⟨by split <;> omega, ?_⟩
    rw [sk_e54_6]
    simp (disch := omega) only [pl_r0 hS ha, pl_r1 hS ha, pl_r2 hS ha, pl_r3 hS ha, pl_i4 hS ha, pl_u4 hS ha, pl_i5 hS ha, pl_u5 hS ha, pl_i6 hS ha, pl_u6 hS ha, pl_i7 hS ha, pl_u7 hS ha, pl_i8 hS ha, pl_u8 hS ha, pl_o hS ha, pl_p hS ha, po_a hS ha, po_s hS ha, po_n hS ha, ps_a hS ha, ps_s hS ha, ps_n hS ha, pw_r0 hS ha, pw_r1 hS ha, pw_r2 hS ha, pw_r3 hS ha, pw_i4 hS ha, pw_u4 hS ha, pw_o hS ha, pw0_a hS ha, pw0_s hS ha, pw0_n hS ha, pw1_a hS ha, pw1_s hS ha, pw1_n hS ha, pw2_a hS ha, pw2_s hS ha, pw2_n hS ha, pw3_a hS ha, pw3_s hS ha, pw3_n hS ha, pq_i0 hS ha, pq_u0 hS ha, pq_i1 hS ha, pq_u1 hS ha, pq_i2 hS ha, pq_u2 hS ha, pq_i3 hS ha, pq_u3 hS ha, pq_i4 hS ha, pq_u4 hS ha, pq_i5 hS ha, pq_u5 hS ha, pq_i6 hS ha, pq_u6 hS ha, pq_i7 hS ha, pq_u7 hS ha, pq_i8 hS ha, pq_u8 hS ha, pq_i9 hS ha, pq_u9 hS ha, pq_o hS ha, Option.bind_some, sk_ci_some, sk_cv_some, sk_cf_some, if_true, eq_self, ite_self, vc4 hv, vc5 hv, vc6 hv, vc7 hv, vc8 hv, vcz hv, vp0 hv, vp1 hv, vp2 hv, vp3 hv, vp4 hv, vp5 hv, vp6 hv, vp7 hv, vp8 hv, vp9 hv, vo_ hv, vs_ hv, vx0 hv, vx1 hv, vx2 hv, vx3 hv, Int.toNat_natCast, sj_add, sj_sub, sj_mul, sj_neg, sj_div, sj_ceq, sj_cne, sj_clt, sj_cge, sj_cgt, sj_cle, bi_ceq, bi_cne, bi_01, Int.natCast_add, Int.cast_ofNat_Int, ← Int.add_assoc]
    have t1 : ((x : Int) + (k : Int)).toNat = x + k := by omega
    rw [t1]
    simp (disch := omega) only [pl_r0 hS ha, pl_r1 hS ha, pl_r2 hS ha, pl_r3 hS ha, pl_i4 hS ha, pl_u4 hS ha, pl_i5 hS ha, pl_u5 hS ha, pl_i6 hS ha, pl_u6 hS ha, pl_i7 hS ha, pl_u7 hS ha, pl_i8 hS ha, pl_u8 hS ha, pl_o hS ha, pl_p hS ha, po_a hS ha, po_s hS ha, po_n hS ha, ps_a hS ha, ps_s hS ha, ps_n hS ha, pw_r0 hS ha, pw_r1 hS ha, pw_r2 hS ha, pw_r3 hS ha, pw_i4 hS ha, pw_u4 hS ha, pw_o hS ha, pw0_a hS ha, pw0_s hS ha, pw0_n hS ha, pw1_a hS ha, pw1_s hS ha, pw1_n hS ha, pw2_a hS ha, pw2_s hS ha, pw2_n hS ha, pw3_a hS ha, pw3_s hS ha, pw3_n hS ha, pq_i0 hS ha, pq_u0 hS ha, pq_i1 hS ha, pq_u1 hS ha, pq_i2 hS ha, pq_u2 hS ha, pq_i3 hS ha, pq_u3 hS ha, pq_i4 hS ha, pq_u4 hS ha, pq_i5 hS ha, pq_u5 hS ha, pq_i6 hS ha, pq_u6 hS ha, pq_i7 hS ha, pq_u7 hS ha, pq_i8 hS ha, pq_u8 hS ha, pq_i9 hS ha, pq_u9 hS ha, pq_o hS ha, Option.bind_some, sk_ci_some, sk_cv_some, sk_cf_some, if_true, eq_self, ite_self, vc4 hv, vc5 hv, vc6 hv, vc7 hv, vc8 hv, vcz hv, vp0 hv, vp1 hv, vp2 hv, vp3 hv, vp4 hv, vp5 hv, vp6 hv, vp7 hv, vp8 hv, vp9 hv, vo_ hv, vs_ hv, vx0 hv, vx1 hv, vx2 hv, vx3 hv, Int.toNat_natCast, sj_add, sj_sub, sj_mul, sj_neg, sj_div, sj_ceq, sj_cne, sj_clt, sj_cge, sj_cgt, sj_cle, bi_ceq, bi_cne, bi_01]
    rw [if_neg (by omega)]
    by_cases hq : v 10 (x + k) = y
    · rw [if_neg (by simp [hq]), if_pos (by simp [hq])]
    · rw [if_pos hq, if_neg (by simp [hq])]) 0 ⟨by omega, by omega⟩
  have e0 : (x : Int) = (x : Int) + ((0 : Nat) : Int) := by simp
  have e : sk_D54 d 6 [some (.ref a), some (.int (sj x)), some (.int (sj y)), some (.int (sj w)), some (.int (sj t)), some (.int (sj 0)), some (.int (sj ((x : Int) + ((0 : Nat) : Int)))), none, none] [] (sk_mk S I) = sk_D54 d 6 [some (.ref a), some (.int (sj x)), some (.int (sj y)), some (.int (sj w)), some (.int (sj t)), some (.int (sj (cntTo w (fun j => decide (v 10 (x + j) = y))))), some (.int (sj ((x : Int) + (w : Int)))), none, none] [] (sk_mk S I) := e
  rw [← e0] at e
  refine e.trans ?_
  rw [sk_e54_6]
  simp (disch := omega) only [pl_r0 hS ha, pl_r1 hS ha, pl_r2 hS ha, pl_r3 hS ha, pl_i4 hS ha, pl_u4 hS ha, pl_i5 hS ha, pl_u5 hS ha, pl_i6 hS ha, pl_u6 hS ha, pl_i7 hS ha, pl_u7 hS ha, pl_i8 hS ha, pl_u8 hS ha, pl_o hS ha, pl_p hS ha, po_a hS ha, po_s hS ha, po_n hS ha, ps_a hS ha, ps_s hS ha, ps_n hS ha, pw_r0 hS ha, pw_r1 hS ha, pw_r2 hS ha, pw_r3 hS ha, pw_i4 hS ha, pw_u4 hS ha, pw_o hS ha, pw0_a hS ha, pw0_s hS ha, pw0_n hS ha, pw1_a hS ha, pw1_s hS ha, pw1_n hS ha, pw2_a hS ha, pw2_s hS ha, pw2_n hS ha, pw3_a hS ha, pw3_s hS ha, pw3_n hS ha, pq_i0 hS ha, pq_u0 hS ha, pq_i1 hS ha, pq_u1 hS ha, pq_i2 hS ha, pq_u2 hS ha, pq_i3 hS ha, pq_u3 hS ha, pq_i4 hS ha, pq_u4 hS ha, pq_i5 hS ha, pq_u5 hS ha, pq_i6 hS ha, pq_u6 hS ha, pq_i7 hS ha, pq_u7 hS ha, pq_i8 hS ha, pq_u8 hS ha, pq_i9 hS ha, pq_u9 hS ha, pq_o hS ha, Option.bind_some, sk_ci_some, sk_cv_some, sk_cf_some, if_true, eq_self, ite_self, vc4 hv, vc5 hv, vc6 hv, vc7 hv, vc8 hv, vcz hv, vp0 hv, vp1 hv, vp2 hv, vp3 hv, vp4 hv, vp5 hv, vp6 hv, vp7 hv, vp8 hv, vp9 hv, vo_ hv, vs_ hv, vx0 hv, vx1 hv, vx2 hv, vx3 hv, Int.toNat_natCast, sj_add, sj_sub, sj_mul, sj_neg, sj_div, sj_ceq, sj_cne, sj_clt, sj_cge, sj_cgt, sj_cle, bi_ceq, bi_cne, bi_01]
  rw [if_pos (by omega)]
  have hc := cntTo_rng w (fun j => decide (v 10 (x + j) = y))
  have st : ∀ (n i c : Int) (g1 g2 : Option Value), 0 ≤ n → n ≤ 1000 → 0 ≤ i → i ≤ 1 → -1 ≤ c → c ≤ 20 → ∃ g1' g2', sk_D54 d 57 [some (.ref a), some (.int (sj x)), some (.int (sj y)), some (.int (sj w)), some (.int (sj t)), some (.int (sj n)), some (.int (sj i)), g1, g2] [.int (sj c)] (sk_mk S I) = sk_D54 d 37 [some (.ref a), some (.int (sj x)), some (.int (sj y)), some (.int (sj w)), some (.int (sj t)), some (.int (sj (if tchS v c y t ≤ 0 then n else if t ≤ tchS v c y t then n + t else n + tchS v c y t))), some (.int (sj (i + 1))), g1', g2'] [] (sk_mk S I) := by
    intro n i c g1 g2 q1 q2 q3 q4 q5 q6
    have hs : ∀ (s : Int) (g1 : Option Value), -400 ≤ s → s ≤ 400 → sk_D54 d 87 [some (.ref a), some (.int (sj x)), some (.int (sj y)), some (.int (sj w)), some (.int (sj t)), some (.int (sj n)), some (.int (sj i)), g1, g2] [.int (sj s)] (sk_mk S I) = sk_D54 d 37 [some (.ref a), some (.int (sj x)), some (.int (sj y)), some (.int (sj w)), some (.int (sj t)), some (.int (sj (if s ≤ 0 then n else if t ≤ s then n + t else n + s))), some (.int (sj (i + 1))), g1, some (.int (sj s))] [] (sk_mk S I) := by
      intro s g1 r1 r2
      rw [sk_e54_87]
      simp (disch := omega) only [pl_r0 hS ha, pl_r1 hS ha, pl_r2 hS ha, pl_r3 hS ha, pl_i4 hS ha, pl_u4 hS ha, pl_i5 hS ha, pl_u5 hS ha, pl_i6 hS ha, pl_u6 hS ha, pl_i7 hS ha, pl_u7 hS ha, pl_i8 hS ha, pl_u8 hS ha, pl_o hS ha, pl_p hS ha, po_a hS ha, po_s hS ha, po_n hS ha, ps_a hS ha, ps_s hS ha, ps_n hS ha, pw_r0 hS ha, pw_r1 hS ha, pw_r2 hS ha, pw_r3 hS ha, pw_i4 hS ha, pw_u4 hS ha, pw_o hS ha, pw0_a hS ha, pw0_s hS ha, pw0_n hS ha, pw1_a hS ha, pw1_s hS ha, pw1_n hS ha, pw2_a hS ha, pw2_s hS ha, pw2_n hS ha, pw3_a hS ha, pw3_s hS ha, pw3_n hS ha, pq_i0 hS ha, pq_u0 hS ha, pq_i1 hS ha, pq_u1 hS ha, pq_i2 hS ha, pq_u2 hS ha, pq_i3 hS ha, pq_u3 hS ha, pq_i4 hS ha, pq_u4 hS ha, pq_i5 hS ha, pq_u5 hS ha, pq_i6 hS ha, pq_u6 hS ha, pq_i7 hS ha, pq_u7 hS ha, pq_i8 hS ha, pq_u8 hS ha, pq_i9 hS ha, pq_u9 hS ha, pq_o hS ha, Option.bind_some, sk_ci_some, sk_cv_some, sk_cf_some, if_true, eq_self, ite_self, vc4 hv, vc5 hv, vc6 hv, vc7 hv, vc8 hv, vcz hv, vp0 hv, vp1 hv, vp2 hv, vp3 hv, vp4 hv, vp5 hv, vp6 hv, vp7 hv, vp8 hv, vp9 hv, vo_ hv, vs_ hv, vx0 hv, vx1 hv, vx2 hv, vx3 hv, Int.toNat_natCast, sj_add, sj_sub, sj_mul, sj_neg, sj_div, sj_ceq, sj_cne, sj_clt, sj_cge, sj_cgt, sj_cle, bi_ceq, bi_cne, bi_01]
      grind
    have hr := tchS_rng hV (c := c) h1 h2 h3 h4
    rw [sk_e54_57]
    simp (disch := omega) only [pl_r0 hS ha, pl_r1 hS ha, pl_r2 hS ha, pl_r3 hS ha, pl_i4 hS ha, pl_u4 hS ha, pl_i5 hS ha, pl_u5 hS ha, pl_i6 hS ha, pl_u6 hS ha, pl_i7 hS ha, pl_u7 hS ha, pl_i8 hS ha, pl_u8 hS ha, pl_o hS ha, pl_p hS ha, po_a hS ha, po_s hS ha, po_n hS ha, ps_a hS ha, ps_s hS ha, ps_n hS ha, pw_r0 hS ha, pw_r1 hS ha, pw_r2 hS ha, pw_r3 hS ha, pw_i4 hS ha, pw_u4 hS ha, pw_o hS ha, pw0_a hS ha, pw0_s hS ha, pw0_n hS ha, pw1_a hS ha, pw1_s hS ha, pw1_n hS ha, pw2_a hS ha, pw2_s hS ha, pw2_n hS ha, pw3_a hS ha, pw3_s hS ha, pw3_n hS ha, pq_i0 hS ha, pq_u0 hS ha, pq_i1 hS ha, pq_u1 hS ha, pq_i2 hS ha, pq_u2 hS ha, pq_i3 hS ha, pq_u3 hS ha, pq_i4 hS ha, pq_u4 hS ha, pq_i5 hS ha, pq_u5 hS ha, pq_i6 hS ha, pq_u6 hS ha, pq_i7 hS ha, pq_u7 hS ha, pq_i8 hS ha, pq_u8 hS ha, pq_i9 hS ha, pq_u9 hS ha, pq_o hS ha, Option.bind_some, sk_ci_some, sk_cv_some, sk_cf_some, if_true, eq_self, ite_self, vc4 hv, vc5 hv, vc6 hv, vc7 hv, vc8 hv, vcz hv, vp0 hv, vp1 hv, vp2 hv, vp3 hv, vp4 hv, vp5 hv, vp6 hv, vp7 hv, vp8 hv, vp9 hv, vo_ hv, vs_ hv, vx0 hv, vx1 hv, vx2 hv, vx3 hv, Int.toNat_natCast, sj_add, sj_sub, sj_mul, sj_neg, sj_div, sj_ceq, sj_cne, sj_clt, sj_cge, sj_cgt, sj_cle, bi_ceq, bi_cne, bi_01]
    by_cases z1 : c < 0
    · rw [if_pos z1, hs t _ (by omega) (by omega)]
      exact ⟨some (.int (sj c)), some (.int (sj t)), by simp only [tchS, z1, if_true]⟩
    · rw [if_neg z1]
      by_cases z2 : c < v 0 0
      · have hE := hV.2.2.2.1 c.toNat (by omega)
        rw [if_pos z2]
        rw [hs _ _ (by omega) (by omega)]
        exact ⟨some (.int (sj c)), some (.int (sj (v 10 c.toNat - y))), by simp only [tchS, z1, z2, if_true, if_false]⟩
      · rw [if_neg z2, hs t _ (by omega) (by omega)]
        exact ⟨some (.int (sj c)), some (.int (sj t)), by simp only [tchS, z1, z2, if_false]⟩
  have r1 := tchS_rng hV (c := x - 1) h1 h2 h3 h4
  rw [sk_e54_37]
  simp (disch := omega) only [pl_r0 hS ha, pl_r1 hS ha, pl_r2 hS ha, pl_r3 hS ha, pl_i4 hS ha, pl_u4 hS ha, pl_i5 hS ha, pl_u5 hS ha, pl_i6 hS ha, pl_u6 hS ha, pl_i7 hS ha, pl_u7 hS ha, pl_i8 hS ha, pl_u8 hS ha, pl_o hS ha, pl_p hS ha, po_a hS ha, po_s hS ha, po_n hS ha, ps_a hS ha, ps_s hS ha, ps_n hS ha, pw_r0 hS ha, pw_r1 hS ha, pw_r2 hS ha, pw_r3 hS ha, pw_i4 hS ha, pw_u4 hS ha, pw_o hS ha, pw0_a hS ha, pw0_s hS ha, pw0_n hS ha, pw1_a hS ha, pw1_s hS ha, pw1_n hS ha, pw2_a hS ha, pw2_s hS ha, pw2_n hS ha, pw3_a hS ha, pw3_s hS ha, pw3_n hS ha, pq_i0 hS ha, pq_u0 hS ha, pq_i1 hS ha, pq_u1 hS ha, pq_i2 hS ha, pq_u2 hS ha, pq_i3 hS ha, pq_u3 hS ha, pq_i4 hS ha, pq_u4 hS ha, pq_i5 hS ha, pq_u5 hS ha, pq_i6 hS ha, pq_u6 hS ha, pq_i7 hS ha, pq_u7 hS ha, pq_i8 hS ha, pq_u8 hS ha, pq_i9 hS ha, pq_u9 hS ha, pq_o hS ha, Option.bind_some, sk_ci_some, sk_cv_some, sk_cf_some, if_true, eq_self, ite_self, vc4 hv, vc5 hv, vc6 hv, vc7 hv, vc8 hv, vcz hv, vp0 hv, vp1 hv, vp2 hv, vp3 hv, vp4 hv, vp5 hv, vp6 hv, vp7 hv, vp8 hv, vp9 hv, vo_ hv, vs_ hv, vx0 hv, vx1 hv, vx2 hv, vx3 hv, Int.toNat_natCast, sj_add, sj_sub, sj_mul, sj_neg, sj_div, sj_ceq, sj_cne, sj_clt, sj_cge, sj_cgt, sj_cle, bi_ceq, bi_cne, bi_01]
  rw [if_neg (by omega), if_neg (by simp)]
  obtain ⟨g1, g2, e1⟩ := st _ 0 (x - 1) none none hc.1 (by omega) (by omega) (by omega) (by omega) (by omega)
  rw [e1, sk_e54_37]
  simp (disch := omega) only [pl_r0 hS ha, pl_r1 hS ha, pl_r2 hS ha, pl_r3 hS ha, pl_i4 hS ha, pl_u4 hS ha, pl_i5 hS ha, pl_u5 hS ha, pl_i6 hS ha, pl_u6 hS ha, pl_i7 hS ha, pl_u7 hS ha, pl_i8 hS ha, pl_u8 hS ha, pl_o hS ha, pl_p hS ha, po_a hS ha, po_s hS ha, po_n hS ha, ps_a hS ha, ps_s hS ha, ps_n hS ha, pw_r0 hS ha, pw_r1 hS ha, pw_r2 hS ha, pw_r3 hS ha, pw_i4 hS ha, pw_u4 hS ha, pw_o hS ha, pw0_a hS ha, pw0_s hS ha, pw0_n hS ha, pw1_a hS ha, pw1_s hS ha, pw1_n hS ha, pw2_a hS ha, pw2_s hS ha, pw2_n hS ha, pw3_a hS ha, pw3_s hS ha, pw3_n hS ha, pq_i0 hS ha, pq_u0 hS ha, pq_i1 hS ha, pq_u1 hS ha, pq_i2 hS ha, pq_u2 hS ha, pq_i3 hS ha, pq_u3 hS ha, pq_i4 hS ha, pq_u4 hS ha, pq_i5 hS ha, pq_u5 hS ha, pq_i6 hS ha, pq_u6 hS ha, pq_i7 hS ha, pq_u7 hS ha, pq_i8 hS ha, pq_u8 hS ha, pq_i9 hS ha, pq_u9 hS ha, pq_o hS ha, Option.bind_some, sk_ci_some, sk_cv_some, sk_cf_some, if_true, eq_self, ite_self, vc4 hv, vc5 hv, vc6 hv, vc7 hv, vc8 hv, vcz hv, vp0 hv, vp1 hv, vp2 hv, vp3 hv, vp4 hv, vp5 hv, vp6 hv, vp7 hv, vp8 hv, vp9 hv, vo_ hv, vs_ hv, vx0 hv, vx1 hv, vx2 hv, vx3 hv, Int.toNat_natCast, sj_add, sj_sub, sj_mul, sj_neg, sj_div, sj_ceq, sj_cne, sj_clt, sj_cge, sj_cgt, sj_cle, bi_ceq, bi_cne, bi_01]
  rw [if_neg (by omega), if_pos (by omega)]
  obtain ⟨g1, g2, e2⟩ := st (if tchS v (x - 1) y t ≤ 0 then cntTo w (fun j => decide (v 10 (x + j) = y)) else if t ≤ tchS v (x - 1) y t then cntTo w (fun j => decide (v 10 (x + j) = y)) + t else cntTo w (fun j => decide (v 10 (x + j) = y)) + tchS v (x - 1) y t) (0 + 1) (x + w) g1 g2 (by split <;> (try split) <;> omega) (by split <;> (try split) <;> omega) (by omega) (by omega) (by omega) (by omega)
  rw [e2, sk_e54_37]
  simp (disch := omega) only [pl_r0 hS ha, pl_r1 hS ha, pl_r2 hS ha, pl_r3 hS ha, pl_i4 hS ha, pl_u4 hS ha, pl_i5 hS ha, pl_u5 hS ha, pl_i6 hS ha, pl_u6 hS ha, pl_i7 hS ha, pl_u7 hS ha, pl_i8 hS ha, pl_u8 hS ha, pl_o hS ha, pl_p hS ha, po_a hS ha, po_s hS ha, po_n hS ha, ps_a hS ha, ps_s hS ha, ps_n hS ha, pw_r0 hS ha, pw_r1 hS ha, pw_r2 hS ha, pw_r3 hS ha, pw_i4 hS ha, pw_u4 hS ha, pw_o hS ha, pw0_a hS ha, pw0_s hS ha, pw0_n hS ha, pw1_a hS ha, pw1_s hS ha, pw1_n hS ha, pw2_a hS ha, pw2_s hS ha, pw2_n hS ha, pw3_a hS ha, pw3_s hS ha, pw3_n hS ha, pq_i0 hS ha, pq_u0 hS ha, pq_i1 hS ha, pq_u1 hS ha, pq_i2 hS ha, pq_u2 hS ha, pq_i3 hS ha, pq_u3 hS ha, pq_i4 hS ha, pq_u4 hS ha, pq_i5 hS ha, pq_u5 hS ha, pq_i6 hS ha, pq_u6 hS ha, pq_i7 hS ha, pq_u7 hS ha, pq_i8 hS ha, pq_u8 hS ha, pq_i9 hS ha, pq_u9 hS ha, pq_o hS ha, Option.bind_some, sk_ci_some, sk_cv_some, sk_cf_some, if_true, eq_self, ite_self, vc4 hv, vc5 hv, vc6 hv, vc7 hv, vc8 hv, vcz hv, vp0 hv, vp1 hv, vp2 hv, vp3 hv, vp4 hv, vp5 hv, vp6 hv, vp7 hv, vp8 hv, vp9 hv, vo_ hv, vs_ hv, vx0 hv, vx1 hv, vx2 hv, vx3 hv, Int.toNat_natCast, sj_add, sj_sub, sj_mul, sj_neg, sj_div, sj_ceq, sj_cne, sj_clt, sj_cge, sj_cgt, sj_cle, bi_ceq, bi_cne, bi_01]
  rw [if_pos (by omega)]
  rfl
theorem m55 {d : Nat} (hd : 2 ≤ d) (hS : sk_G S) (ha : sk_isP a) (hv : vC I a = v) (hV : VO v) {x w : Nat} {y t ws : Int} (h : (x : Int) + w ≤ v 0 0) (h1 : 0 ≤ y) (h2 : y ≤ 400) (h3 : 0 ≤ t) (h4 : t ≤ 400) : sk_c d 55 [.ref a, .int (sj x), .int (sj y), .int (sj w), .int (sj t), .int (sj ws)] (sk_mk S I) = some (some (.int (sj (costV v x w y t ws))), sk_mk S I) := by
  obtain ⟨n1, n2, n3, n4, n5, n6, n7, n8, n9, n10, n11, n12⟩ := hV.1
  obtain ⟨d, rfl⟩ : ∃ e, d = e + 1 := ⟨d - 1, by omega⟩; rw [sk_e55]
  simp (disch := omega) only [pl_r0 hS ha, pl_r1 hS ha, pl_r2 hS ha, pl_r3 hS ha, pl_i4 hS ha, pl_u4 hS ha, pl_i5 hS ha, pl_u5 hS ha, pl_i6 hS ha, pl_u6 hS ha, pl_i7 hS ha, pl_u7 hS ha, pl_i8 hS ha, pl_u8 hS ha, pl_o hS ha, pl_p hS ha, po_a hS ha, po_s hS ha, po_n hS ha, ps_a hS ha, ps_s hS ha, ps_n hS ha, pw_r0 hS ha, pw_r1 hS ha, pw_r2 hS ha, pw_r3 hS ha, pw_i4 hS ha, pw_u4 hS ha, pw_o hS ha, pw0_a hS ha, pw0_s hS ha, pw0_n hS ha, pw1_a hS ha, pw1_s hS ha, pw1_n hS ha, pw2_a hS ha, pw2_s hS ha, pw2_n hS ha, pw3_a hS ha, pw3_s hS ha, pw3_n hS ha, pq_i0 hS ha, pq_u0 hS ha, pq_i1 hS ha, pq_u1 hS ha, pq_i2 hS ha, pq_u2 hS ha, pq_i3 hS ha, pq_u3 hS ha, pq_i4 hS ha, pq_u4 hS ha, pq_i5 hS ha, pq_u5 hS ha, pq_i6 hS ha, pq_u6 hS ha, pq_i7 hS ha, pq_u7 hS ha, pq_i8 hS ha, pq_u8 hS ha, pq_i9 hS ha, pq_u9 hS ha, pq_o hS ha, Option.bind_some, sk_ci_some, sk_cv_some, sk_cf_some, if_true, eq_self, ite_self, vc4 hv, vc5 hv, vc6 hv, vc7 hv, vc8 hv, vcz hv, vp0 hv, vp1 hv, vp2 hv, vp3 hv, vp4 hv, vp5 hv, vp6 hv, vp7 hv, vp8 hv, vp9 hv, vo_ hv, vs_ hv, vx0 hv, vx1 hv, vx2 hv, vx3 hv, Int.toNat_natCast, sj_add, sj_sub, sj_mul, sj_neg, sj_div, sj_ceq, sj_cne, sj_clt, sj_cge, sj_cgt, sj_cle, bi_ceq, bi_cne, bi_01, sj_toInt, m54 (v := v)]
  unfold costV
  split
  · rfl
  · split
    · rfl
    · split <;> rfl
end PLN
