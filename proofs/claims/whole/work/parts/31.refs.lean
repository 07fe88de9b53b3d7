/-! ===== the reference's row, and its methods that only look ===== -/
def RP (I : sk_H) (m : Nat) (v : sk_H) : Prop := (∀ k : Nat, k < 6 → I m k = v 0 k) ∧ (∀ p : Nat, (p : Int) < v 0 1 → I m (7 + p) = v 1 p ∧ I m (17 + p) = v 2 p ∧ I m (27 + p) = v 3 p ∧ I m (37 + p) = v 4 p ∧ I m (77 + p) = v 5 p ∧ (v 5 p ≠ 0 → I m (47 + p) = v 6 p ∧ I m (57 + p) = v 7 p ∧ I m (67 + p) = v 8 p)) ∧ (∀ k : Nat, (k : Int) < v 0 2 → I m (87 + k) = v 9 k) ∧ (∀ c : Nat, (c : Int) < v 0 0 → I m (97 + c) = v 10 c) ∧ (∀ k : Nat, (k : Int) < v 0 5 → I m (117 + 4 * k) = v 11 k ∧ I m (118 + 4 * k) = v 12 k ∧ I m (119 + 4 * k) = v 13 k ∧ I m (120 + 4 * k) = v 14 k)
section RPS
theorem rq0 {I v : sk_H} {m : Nat} (hR : RP I m v) : I m (0 : Int).toNat = v 0 0 := hR.1 0 (by omega)
theorem rq1 {I v : sk_H} {m : Nat} (hR : RP I m v) : I m (1 : Int).toNat = v 0 1 := hR.1 1 (by omega)
theorem rq2 {I v : sk_H} {m : Nat} (hR : RP I m v) : I m (2 : Int).toNat = v 0 2 := hR.1 2 (by omega)
theorem rq3 {I v : sk_H} {m : Nat} (hR : RP I m v) : I m (3 : Int).toNat = v 0 3 := hR.1 3 (by omega)
theorem rq4 {I v : sk_H} {m : Nat} (hR : RP I m v) : I m (4 : Int).toNat = v 0 4 := hR.1 4 (by omega)
theorem rq5 {I v : sk_H} {m : Nat} (hR : RP I m v) : I m (5 : Int).toNat = v 0 5 := hR.1 5 (by omega)
theorem rk_ {I v : sk_H} {m : Nat} (hR : RP I m v) {p : Int} (h0 : 0 ≤ p) (h1 : p < v 0 1) : I m (7 + p).toNat = v 1 p.toNat := by
  rw [show (7 + p).toNat = 7 + p.toNat by omega]; exact (hR.2.1 p.toNat (by omega)).1
theorem rw_ {I v : sk_H} {m : Nat} (hR : RP I m v) {p : Int} (h0 : 0 ≤ p) (h1 : p < v 0 1) : I m (17 + p).toNat = v 2 p.toNat := by
  rw [show (17 + p).toNat = 17 + p.toNat by omega]; exact (hR.2.1 p.toNat (by omega)).2.1
theorem rh_ {I v : sk_H} {m : Nat} (hR : RP I m v) {p : Int} (h0 : 0 ≤ p) (h1 : p < v 0 1) : I m (27 + p).toNat = v 3 p.toNat := by
  rw [show (27 + p).toNat = 27 + p.toNat by omega]; exact (hR.2.1 p.toNat (by omega)).2.2.1
theorem rf_ {I v : sk_H} {m : Nat} (hR : RP I m v) {p : Int} (h0 : 0 ≤ p) (h1 : p < v 0 1) : I m (37 + p).toNat = v 4 p.toNat := by
  rw [show (37 + p).toNat = 37 + p.toNat by omega]; exact (hR.2.1 p.toNat (by omega)).2.2.2.1
theorem rl_ {I v : sk_H} {m : Nat} (hR : RP I m v) {p : Int} (h0 : 0 ≤ p) (h1 : p < v 0 1) : I m (77 + p).toNat = v 5 p.toNat := by
  rw [show (77 + p).toNat = 77 + p.toNat by omega]; exact (hR.2.1 p.toNat (by omega)).2.2.2.2.1
theorem rx_ {I v : sk_H} {m : Nat} (hR : RP I m v) {p : Int} (h0 : 0 ≤ p) (h1 : p < v 0 1) (h2 : ¬ v 5 p.toNat = 0) : I m (47 + p).toNat = v 6 p.toNat := by
  rw [show (47 + p).toNat = 47 + p.toNat by omega]; exact ((hR.2.1 p.toNat (by omega)).2.2.2.2.2 h2).1
theorem ry_ {I v : sk_H} {m : Nat} (hR : RP I m v) {p : Int} (h0 : 0 ≤ p) (h1 : p < v 0 1) (h2 : ¬ v 5 p.toNat = 0) : I m (57 + p).toNat = v 7 p.toNat := by
  rw [show (57 + p).toNat = 57 + p.toNat by omega]; exact ((hR.2.1 p.toNat (by omega)).2.2.2.2.2 h2).2.1
theorem rt_ {I v : sk_H} {m : Nat} (hR : RP I m v) {p : Int} (h0 : 0 ≤ p) (h1 : p < v 0 1) (h2 : ¬ v 5 p.toNat = 0) : I m (67 + p).toNat = v 8 p.toNat := by
  rw [show (67 + p).toNat = 67 + p.toNat by omega]; exact ((hR.2.1 p.toNat (by omega)).2.2.2.2.2 h2).2.2
theorem ro_ {I v : sk_H} {m : Nat} (hR : RP I m v) {p : Int} (h0 : 0 ≤ p) (h1 : p < v 0 2) : I m (87 + p).toNat = v 9 p.toNat := by
  rw [show (87 + p).toNat = 87 + p.toNat by omega]; exact hR.2.2.1 p.toNat (by omega)
theorem rs_ {I v : sk_H} {m : Nat} (hR : RP I m v) {p : Int} (h0 : 0 ≤ p) (h1 : p < v 0 0) : I m (97 + p).toNat = v 10 p.toNat := by
  rw [show (97 + p).toNat = 97 + p.toNat by omega]; exact hR.2.2.2.1 p.toNat (by omega)
theorem rz_ {I v : sk_H} {m : Nat} (hR : RP I m v) {p : Int} (h0 : 0 ≤ p) (h1 : p < v 0 5) : I m (117 + 4 * p).toNat = v 11 p.toNat ∧ I m (117 + 4 * p + 1).toNat = v 12 p.toNat ∧ I m (117 + 4 * p + 2).toNat = v 13 p.toNat ∧ I m (117 + 4 * p + 3).toNat = v 14 p.toNat := by
  have h := hR.2.2.2.2 p.toNat (by omega)
  have e0 : (117 + 4 * p).toNat = 117 + 4 * p.toNat := by omega
  have e1 : (117 + 4 * p + 1).toNat = 118 + 4 * p.toNat := by omega
  have e2 : (117 + 4 * p + 2).toNat = 119 + 4 * p.toNat := by omega
  have e3 : (117 + 4 * p + 3).toNat = 120 + 4 * p.toNat := by omega
  rw [e0, e1, e2, e3]
  exact h
end RPS
section REF
variable {S : List sk_Sh} {I v : sk_H}
theorem m144 {d : Nat} (hd : 1 ≤ d) {x l h : Int} (h1 : -2147483648 ≤ x) (h2 : x < 2147483648) (h3 : -2147483648 ≤ l) (h4 : l < 2147483648) (h5 : -2147483648 ≤ h) (h6 : h < 2147483648) {w : sk_W} : sk_c d 144 [.int (sj x), .int (sj l), .int (sj h)] w = some (some (.int (sj (bi (decide (l ≤ x ∧ x ≤ h))))), w) := by
  obtain ⟨d, rfl⟩ : ∃ e, d = e + 1 := ⟨d - 1, by omega⟩; rw [sk_e144]
  simp (disch := omega) only [sj_ceq, sj_cne, sj_clt, sj_cge, sj_cgt, sj_cle, bi_ceq, bi_cne, bi_01]
  grind [bi]
theorem m148 {d : Nat} (hd : 2 ≤ d) (hS : sk_G S) (hR : RP I 107 v) (hV : VO v) {p : Int} (h1 : -2147483648 ≤ p) (h2 : p < 2147483648) : sk_c d 148 [.ref 105, .int (sj p)] (sk_mk S I) = some (some (.int (sj (bi (decide (0 ≤ p ∧ p < v 0 1))))), sk_mk S I) := by
  obtain ⟨n1, n2, n3, n4, n5, n6, n7, n8, n9, n10, n11, n12⟩ := hV.1
  obtain ⟨d, rfl⟩ : ∃ e, d = e + 1 := ⟨d - 1, by omega⟩; rw [sk_e148]
  simp (disch := omega) only [g105_r0 hS, g105_r1 hS, g105_i2 hS, g105_u2 hS, g105_r3 hS, g105_i4 hS, g105_u4 hS, g105_r5 hS, g105_i6 hS, g105_u6 hS, g105_i7 hS, g105_u7 hS, g105_i8 hS, g105_u8 hS, g105_i9 hS, g105_u9 hS, g105_i10 hS, g105_u10 hS, g105_r11 hS, g105_r12 hS, g105_r13 hS, g105_r14 hS, g105_r15 hS, g105_r16 hS, g105_r17 hS, g105_r18 hS, g105_r19 hS, g105_r20 hS, g105_r21 hS, g105_r22 hS, g105_r23 hS, g105_o hS, g106_q hS, g119_q hS, g127_q hS, g107_a hS, g107_s hS, g107_n hS, g108_a hS, g108_s hS, g108_n hS, g109_a hS, g109_s hS, g109_n hS, Option.bind_some, sk_ci_some, sk_cv_some, sk_cf_some, if_true, eq_self, ite_self, rq0 hR, rq1 hR, rq2 hR, rq3 hR, rq4 hR, rq5 hR, rk_ hR, rw_ hR, rh_ hR, rf_ hR, rl_ hR, rx_ hR, ry_ hR, rt_ hR, ro_ hR, rs_ hR, Int.toNat_natCast, sj_add, sj_sub, sj_mul, sj_neg, sj_div, sj_ceq, sj_cne, sj_clt, sj_cge, sj_cgt, sj_cle, bi_ceq, bi_cne, bi_01, m144]
  grind [bi]
theorem m149 {d : Nat} (hd : 1 ≤ d) {k b : Int} (h1 : 0 ≤ k) (h2 : k ≤ 5) (h3 : 0 ≤ b) (h4 : b ≤ 5) {w : sk_W} : sk_c d 149 [.int (sj k), .int (sj b)] w = some (some (.int (sj (bi (und k b)))), w) := by
  obtain ⟨d, rfl⟩ : ∃ e, d = e + 1 := ⟨d - 1, by omega⟩; rw [sk_e149]
  simp (disch := omega) only [sj_ceq, sj_cne, sj_clt, sj_cge, sj_cgt, sj_cle, bi_ceq, bi_cne, bi_01]
  grind [bi, und]
theorem m150 {d : Nat} (hd : 2 ≤ d) (hS : sk_G S) (hR : RP I 107 v) (hV : VO v) {p : Nat} (hp : (p : Int) < v 0 1) : sk_c d 150 [.ref 105, .int (sj p)] (sk_mk S I) = some (some (.int (sj (bi (twoW v p)))), sk_mk S I) := by
  obtain ⟨n1, n2, n3, n4, n5, n6, n7, n8, n9, n10, n11, n12⟩ := hV.1
  obtain ⟨d, rfl⟩ : ∃ e, d = e + 1 := ⟨d - 1, by omega⟩; rw [sk_e150]
  obtain ⟨p1, p2, p3, p4, p5, p6, -⟩ := vo_p hV hp
  simp (disch := omega) only [g105_r0 hS, g105_r1 hS, g105_i2 hS, g105_u2 hS, g105_r3 hS, g105_i4 hS, g105_u4 hS, g105_r5 hS, g105_i6 hS, g105_u6 hS, g105_i7 hS, g105_u7 hS, g105_i8 hS, g105_u8 hS, g105_i9 hS, g105_u9 hS, g105_i10 hS, g105_u10 hS, g105_r11 hS, g105_r12 hS, g105_r13 hS, g105_r14 hS, g105_r15 hS, g105_r16 hS, g105_r17 hS, g105_r18 hS, g105_r19 hS, g105_r20 hS, g105_r21 hS, g105_r22 hS, g105_r23 hS, g105_o hS, g106_q hS, g119_q hS, g127_q hS, g107_a hS, g107_s hS, g107_n hS, g108_a hS, g108_s hS, g108_n hS, g109_a hS, g109_s hS, g109_n hS, Option.bind_some, sk_ci_some, sk_cv_some, sk_cf_some, if_true, eq_self, ite_self, rq0 hR, rq1 hR, rq2 hR, rq3 hR, rq4 hR, rq5 hR, rk_ hR, rw_ hR, rh_ hR, rf_ hR, rl_ hR, rx_ hR, ry_ hR, rt_ hR, ro_ hR, rs_ hR, Int.toNat_natCast, sj_add, sj_sub, sj_mul, sj_neg, sj_div, sj_ceq, sj_cne, sj_clt, sj_cge, sj_cgt, sj_cle, bi_ceq, bi_cne, bi_01, m149]
  unfold twoW
  grind [bi]
theorem m151 {d : Nat} (hd : 1 ≤ d) (hS : sk_G S) (hR : RP I 107 v) (hV : VO v) {p : Nat} (hp : (p : Int) < v 0 1) {o : Int} (ho : o = 0 ∨ o = 1) : sk_c d 151 [.ref 105, .int (sj p), .int (sj o)] (sk_mk S I) = some (some (.int (sj (acr v p o))), sk_mk S I) := by
  obtain ⟨n1, n2, n3, n4, n5, n6, n7, n8, n9, n10, n11, n12⟩ := hV.1
  obtain ⟨d, rfl⟩ : ∃ e, d = e + 1 := ⟨d - 1, by omega⟩; rw [sk_e151]
  simp (disch := omega) only [g105_r0 hS, g105_r1 hS, g105_i2 hS, g105_u2 hS, g105_r3 hS, g105_i4 hS, g105_u4 hS, g105_r5 hS, g105_i6 hS, g105_u6 hS, g105_i7 hS, g105_u7 hS, g105_i8 hS, g105_u8 hS, g105_i9 hS, g105_u9 hS, g105_i10 hS, g105_u10 hS, g105_r11 hS, g105_r12 hS, g105_r13 hS, g105_r14 hS, g105_r15 hS, g105_r16 hS, g105_r17 hS, g105_r18 hS, g105_r19 hS, g105_r20 hS, g105_r21 hS, g105_r22 hS, g105_r23 hS, g105_o hS, g106_q hS, g119_q hS, g127_q hS, g107_a hS, g107_s hS, g107_n hS, g108_a hS, g108_s hS, g108_n hS, g109_a hS, g109_s hS, g109_n hS, Option.bind_some, sk_ci_some, sk_cv_some, sk_cf_some, if_true, eq_self, ite_self, rq0 hR, rq1 hR, rq2 hR, rq3 hR, rq4 hR, rq5 hR, rk_ hR, rw_ hR, rh_ hR, rf_ hR, rl_ hR, rx_ hR, ry_ hR, rt_ hR, ro_ hR, rs_ hR, Int.toNat_natCast, sj_add, sj_sub, sj_mul, sj_neg, sj_div, sj_ceq, sj_cne, sj_clt, sj_cge, sj_cgt, sj_cle, bi_ceq, bi_cne, bi_01]
  unfold acr
  grind
theorem m152 {d : Nat} (hd : 1 ≤ d) (hS : sk_G S) (hR : RP I 107 v) (hV : VO v) {p : Nat} (hp : (p : Int) < v 0 1) {o : Int} (ho : o = 0 ∨ o = 1) : sk_c d 152 [.ref 105, .int (sj p), .int (sj o)] (sk_mk S I) = some (some (.int (sj (tal v p o))), sk_mk S I) := by
  obtain ⟨n1, n2, n3, n4, n5, n6, n7, n8, n9, n10, n11, n12⟩ := hV.1
  obtain ⟨d, rfl⟩ : ∃ e, d = e + 1 := ⟨d - 1, by omega⟩; rw [sk_e152]
  obtain ⟨p1, p2, p3, p4, p5, p6, -⟩ := vo_p hV hp
  simp (disch := omega) only [g105_r0 hS, g105_r1 hS, g105_i2 hS, g105_u2 hS, g105_r3 hS, g105_i4 hS, g105_u4 hS, g105_r5 hS, g105_i6 hS, g105_u6 hS, g105_i7 hS, g105_u7 hS, g105_i8 hS, g105_u8 hS, g105_i9 hS, g105_u9 hS, g105_i10 hS, g105_u10 hS, g105_r11 hS, g105_r12 hS, g105_r13 hS, g105_r14 hS, g105_r15 hS, g105_r16 hS, g105_r17 hS, g105_r18 hS, g105_r19 hS, g105_r20 hS, g105_r21 hS, g105_r22 hS, g105_r23 hS, g105_o hS, g106_q hS, g119_q hS, g127_q hS, g107_a hS, g107_s hS, g107_n hS, g108_a hS, g108_s hS, g108_n hS, g109_a hS, g109_s hS, g109_n hS, Option.bind_some, sk_ci_some, sk_cv_some, sk_cf_some, if_true, eq_self, ite_self, rq0 hR, rq1 hR, rq2 hR, rq3 hR, rq4 hR, rq5 hR, rk_ hR, rw_ hR, rh_ hR, rf_ hR, rl_ hR, rx_ hR, ry_ hR, rt_ hR, ro_ hR, rs_ hR, Int.toNat_natCast, sj_add, sj_sub, sj_mul, sj_neg, sj_div, sj_ceq, sj_cne, sj_clt, sj_cge, sj_cgt, sj_cle, bi_ceq, bi_cne, bi_01, sk_e152_25]
  unfold tal
  grind
theorem m153 {d : Nat} (hd : 2 ≤ d) (hS : sk_G S) (hR : RP I 107 v) (hV : VO v) {p : Nat} (hp : (p : Int) < v 0 1) {x y ws : Int} (h5 : 0 ≤ x) (h6 : x ≤ 1000) (h7 : 0 ≤ y) (h8 : y ≤ 1000) (h9 : -100000 ≤ ws) (h10 : ws ≤ 100000) : sk_c d 153 [.ref 105, .int (sj p), .int (sj x), .int (sj y), .int (sj ws)] (sk_mk S I) = some (some (.int (sj (bi (mayl v p x y ws)))), sk_mk S I) := by
  obtain ⟨n1, n2, n3, n4, n5, n6, n7, n8, n9, n10, n11, n12⟩ := hV.1
  obtain ⟨d, rfl⟩ : ∃ e, d = e + 1 := ⟨d - 1, by omega⟩; rw [sk_e153]
  obtain ⟨p1, p2, p3, p4, p5, p6, p7, p8, -⟩ := vo_p hV hp
  have r1 : 0 ≤ x % v 4 p ∧ x % v 4 p < v 4 p := ⟨Int.emod_nonneg _ (by omega), Int.emod_lt_of_pos _ (by omega)⟩
  have r2 : 0 ≤ y % v 4 p ∧ y % v 4 p < v 4 p := ⟨Int.emod_nonneg _ (by omega), Int.emod_lt_of_pos _ (by omega)⟩
  have e4 : und (v 1 p) 4 = decide (v 1 p = 4) := by simp [und]
  have e5 : und (v 1 p) 5 = decide (v 1 p = 5) := by simp [und]
  have e : ∀ (o0 o1 o2 : Option Value), sk_D153 d 40 [o0, o1, o2, some (.int (sj y)), some (.int (sj ws)), some (.int (sj (v 1 p))), some (.int (sj (v 4 p)))] [] (sk_mk S I) = some (some (.int (sj (bi ((!(und (v 1 p) 4) || decide (y % v 4 p = 0)) && (!(und (v 1 p) 5) || decide (ws < v 4 p)))))), sk_mk S I) := by
    intro o0 o1 o2
    rw [sk_e153_40, e4, e5]
    simp (disch := omega) only [Option.bind_some, sk_ci_some, sk_cv_some, sk_cf_some, if_true, eq_self, ite_self, sj_add, sj_sub, sj_mul, sj_neg, sj_div, sj_ceq, sj_cne, sj_clt, sj_cge, sj_cgt, sj_cle, bi_ceq, bi_cne, bi_01, sj_v0, ie_rem]
    by_cases q4 : v 1 p = 4 <;> by_cases q5 : v 1 p = 5 <;> by_cases hy : y % v 4 p = 0 <;> by_cases hw : ws < v 4 p <;> simp [bi, q4, q5, hy, hw, show ¬ v 4 p = 0 by omega, show (v 4 p ≤ ws) ↔ ¬ ws < v 4 p by omega] <;> omega
  simp (disch := omega) only [g105_r0 hS, g105_r1 hS, g105_i2 hS, g105_u2 hS, g105_r3 hS, g105_i4 hS, g105_u4 hS, g105_r5 hS, g105_i6 hS, g105_u6 hS, g105_i7 hS, g105_u7 hS, g105_i8 hS, g105_u8 hS, g105_i9 hS, g105_u9 hS, g105_i10 hS, g105_u10 hS, g105_r11 hS, g105_r12 hS, g105_r13 hS, g105_r14 hS, g105_r15 hS, g105_r16 hS, g105_r17 hS, g105_r18 hS, g105_r19 hS, g105_r20 hS, g105_r21 hS, g105_r22 hS, g105_r23 hS, g105_o hS, g106_q hS, g119_q hS, g127_q hS, g107_a hS, g107_s hS, g107_n hS, g108_a hS, g108_s hS, g108_n hS, g109_a hS, g109_s hS, g109_n hS, Option.bind_some, sk_ci_some, sk_cv_some, sk_cf_some, if_true, eq_self, ite_self, rq0 hR, rq1 hR, rq2 hR, rq3 hR, rq4 hR, rq5 hR, rk_ hR, rw_ hR, rh_ hR, rf_ hR, rl_ hR, rx_ hR, ry_ hR, rt_ hR, ro_ hR, rs_ hR, Int.toNat_natCast, sj_add, sj_sub, sj_mul, sj_neg, sj_div, sj_ceq, sj_cne, sj_clt, sj_cge, sj_cgt, sj_cle, bi_ceq, bi_cne, bi_01, m149, sj_v0, ie_rem, e]
  unfold mayl
  cases h2 : und (v 1 p) 2 <;> by_cases hx : x % v 4 p = 0 <;> simp [bi, hx, show ¬ v 4 p = 0 by omega]
theorem m154 {d : Nat} (hd : 2 ≤ d) (hS : sk_G S) (hR : RP I 107 v) (hV : VO v) {p : Nat} (hp : (p : Int) < v 0 1) (hl : ¬ v 5 p = 0) : sk_c d 154 [.ref 105, .int (sj p)] (sk_mk S I) = some (some (.int (sj (v 15 p))), sk_mk S I) := by
  obtain ⟨n1, n2, n3, n4, n5, n6, n7, n8, n9, n10, n11, n12⟩ := hV.1
  obtain ⟨d, rfl⟩ : ∃ e, d = e + 1 := ⟨d - 1, by omega⟩; rw [sk_e154]
  obtain ⟨p1, p2, p3, p4, p5, p6, p7, p8, p9, p10, p11, p12, p13⟩ := vo_p hV hp
  simp (disch := first | omega | (simp only [Int.toNat_natCast]; omega)) only [g105_r0 hS, g105_r1 hS, g105_i2 hS, g105_u2 hS, g105_r3 hS, g105_i4 hS, g105_u4 hS, g105_r5 hS, g105_i6 hS, g105_u6 hS, g105_i7 hS, g105_u7 hS, g105_i8 hS, g105_u8 hS, g105_i9 hS, g105_u9 hS, g105_i10 hS, g105_u10 hS, g105_r11 hS, g105_r12 hS, g105_r13 hS, g105_r14 hS, g105_r15 hS, g105_r16 hS, g105_r17 hS, g105_r18 hS, g105_r19 hS, g105_r20 hS, g105_r21 hS, g105_r22 hS, g105_r23 hS, g105_o hS, g106_q hS, g119_q hS, g127_q hS, g107_a hS, g107_s hS, g107_n hS, g108_a hS, g108_s hS, g108_n hS, g109_a hS, g109_s hS, g109_n hS, Option.bind_some, sk_ci_some, sk_cv_some, sk_cf_some, if_true, eq_self, ite_self, rq0 hR, rq1 hR, rq2 hR, rq3 hR, rq4 hR, rq5 hR, rk_ hR, rw_ hR, rh_ hR, rf_ hR, rl_ hR, rx_ hR, ry_ hR, rt_ hR, ro_ hR, rs_ hR, Int.toNat_natCast, sj_add, sj_sub, sj_mul, sj_neg, sj_div, sj_ceq, sj_cne, sj_clt, sj_cge, sj_cgt, sj_cle, bi_ceq, bi_cne, bi_01, m151 (v := v)]
  rw [(p12 hl).2.2.2.2.1]
theorem m155 {d : Nat} (hd : 2 ≤ d) (hS : sk_G S) (hR : RP I 107 v) (hV : VO v) {p : Nat} (hp : (p : Int) < v 0 1) (hl : ¬ v 5 p = 0) : sk_c d 155 [.ref 105, .int (sj p)] (sk_mk S I) = some (some (.int (sj (v 16 p))), sk_mk S I) := by
  obtain ⟨n1, n2, n3, n4, n5, n6, n7, n8, n9, n10, n11, n12⟩ := hV.1
  obtain ⟨d, rfl⟩ : ∃ e, d = e + 1 := ⟨d - 1, by omega⟩; rw [sk_e155]
  obtain ⟨p1, p2, p3, p4, p5, p6, p7, p8, p9, p10, p11, p12, p13⟩ := vo_p hV hp
  simp (disch := first | omega | (simp only [Int.toNat_natCast]; omega)) only [g105_r0 hS, g105_r1 hS, g105_i2 hS, g105_u2 hS, g105_r3 hS, g105_i4 hS, g105_u4 hS, g105_r5 hS, g105_i6 hS, g105_u6 hS, g105_i7 hS, g105_u7 hS, g105_i8 hS, g105_u8 hS, g105_i9 hS, g105_u9 hS, g105_i10 hS, g105_u10 hS, g105_r11 hS, g105_r12 hS, g105_r13 hS, g105_r14 hS, g105_r15 hS, g105_r16 hS, g105_r17 hS, g105_r18 hS, g105_r19 hS, g105_r20 hS, g105_r21 hS, g105_r22 hS, g105_r23 hS, g105_o hS, g106_q hS, g119_q hS, g127_q hS, g107_a hS, g107_s hS, g107_n hS, g108_a hS, g108_s hS, g108_n hS, g109_a hS, g109_s hS, g109_n hS, Option.bind_some, sk_ci_some, sk_cv_some, sk_cf_some, if_true, eq_self, ite_self, rq0 hR, rq1 hR, rq2 hR, rq3 hR, rq4 hR, rq5 hR, rk_ hR, rw_ hR, rh_ hR, rf_ hR, rl_ hR, rx_ hR, ry_ hR, rt_ hR, ro_ hR, rs_ hR, Int.toNat_natCast, sj_add, sj_sub, sj_mul, sj_neg, sj_div, sj_ceq, sj_cne, sj_clt, sj_cge, sj_cgt, sj_cle, bi_ceq, bi_cne, bi_01, m152 (v := v)]
  rw [(p12 hl).2.2.2.2.2]
theorem m156 {d : Nat} (hd : 1 ≤ d) {x y w t x2 y2 w2 t2 : Int} (h1 : 0 ≤ x) (h2 : x ≤ 1000) (h3 : 0 ≤ y) (h4 : y ≤ 1000) (h5 : 0 ≤ w) (h6 : w ≤ 1000) (h7 : 0 ≤ t) (h8 : t ≤ 1000) (i1 : 0 ≤ x2) (i2 : x2 ≤ 1000) (i3 : 0 ≤ y2) (i4 : y2 ≤ 1000) (i5 : 0 ≤ w2) (i6 : w2 ≤ 1000) (i7 : 0 ≤ t2) (i8 : t2 ≤ 1000) {W : sk_W} : sk_c d 156 [.int (sj x), .int (sj y), .int (sj w), .int (sj t), .int (sj x2), .int (sj y2), .int (sj w2), .int (sj t2)] W = some (some (.int (sj (bi (decide (x < x2 + w2 ∧ x2 < x + w ∧ y < y2 + t2 ∧ y2 < y + t))))), W) := by
  obtain ⟨d, rfl⟩ : ∃ e, d = e + 1 := ⟨d - 1, by omega⟩; rw [sk_e156]
  simp (disch := omega) only [sj_add, sj_sub, sj_mul, sj_neg, sj_div, sj_ceq, sj_cne, sj_clt, sj_cge, sj_cgt, sj_cle, bi_ceq, bi_cne, bi_01]
  grind [bi]
def overV (v : sk_H) (x y w t : Int) : Bool := anyTo (v 0 1).toNat (hit v x y w t)
theorem m157 {d : Nat} (hd : 3 ≤ d) (hS : sk_G S) (hR : RP I 107 v) (hV : VO v) {x y w t : Int} (h1 : 0 ≤ x) (h2 : x ≤ 1000) (h3 : 0 ≤ y) (h4 : y ≤ 1000) (h5 : 0 ≤ w) (h6 : w ≤ 1000) (h7 : 0 ≤ t) (h8 : t ≤ 1000) : sk_c d 157 [.ref 105, .int (sj x), .int (sj y), .int (sj w), .int (sj t)] (sk_mk S I) = some (some (.int (sj (bi (overV v x y w t)))), sk_mk S I) := by
  obtain ⟨n1, n2, n3, n4, n5, n6, n7, n8, n9, n10, n11, n12⟩ := hV.1
  obtain ⟨d, rfl⟩ : ∃ e, d = e + 1 := ⟨d - 1, by omega⟩; rw [sk_e157]
  refine (lp_any0 (fun k => sk_D157 d 3 [some (.ref 105), some (.int (sj x)), some (.int (sj y)), some (.int (sj w)), some (.int (sj t)), some (.int (sj (k : Int)))] [] (sk_mk S I)) (hit v x y w t) (v 0 1).toNat (some (some (.int (sj 1)), sk_mk S I)) (some (some (.int (sj 0)), sk_mk S I)) ?_ ?_).trans ?_
  · intro k hk
    have hl := fun h => vly hV (p := k) (by omega) h
    obtain ⟨p1, p2, p3, p4, p5, p6, p7, p8, p9, p10, -⟩ := vo_p hV (p := k) (by omega)
    rw [sk_e157_3]
    by_cases hf : v 5 k = 1
    · obtain ⟨l1, l2, l3, l4, l5, l6, l7, l8⟩ := hl (by omega)
      simp (disch := first | omega | (simp only [Int.toNat_natCast]; omega)) only [g105_r0 hS, g105_r1 hS, g105_i2 hS, g105_u2 hS, g105_r3 hS, g105_i4 hS, g105_u4 hS, g105_r5 hS, g105_i6 hS, g105_u6 hS, g105_i7 hS, g105_u7 hS, g105_i8 hS, g105_u8 hS, g105_i9 hS, g105_u9 hS, g105_i10 hS, g105_u10 hS, g105_r11 hS, g105_r12 hS, g105_r13 hS, g105_r14 hS, g105_r15 hS, g105_r16 hS, g105_r17 hS, g105_r18 hS, g105_r19 hS, g105_r20 hS, g105_r21 hS, g105_r22 hS, g105_r23 hS, g105_o hS, g106_q hS, g119_q hS, g127_q hS, g107_a hS, g107_s hS, g107_n hS, g108_a hS, g108_s hS, g108_n hS, g109_a hS, g109_s hS, g109_n hS, Option.bind_some, sk_ci_some, sk_cv_some, sk_cf_some, if_true, eq_self, ite_self, rq0 hR, rq1 hR, rq2 hR, rq3 hR, rq4 hR, rq5 hR, rk_ hR, rw_ hR, rh_ hR, rf_ hR, rl_ hR, rx_ hR, ry_ hR, rt_ hR, ro_ hR, rs_ hR, Int.toNat_natCast, sj_add, sj_sub, sj_mul, sj_neg, sj_div, sj_ceq, sj_cne, sj_clt, sj_cge, sj_cgt, sj_cle, bi_ceq, bi_cne, bi_01, Int.natCast_add, Int.cast_ofNat_Int, ← Int.add_assoc, m154 (v := v), m155 (v := v), m156]
      unfold hit
      grind
    · simp (disch := omega) only [g105_r0 hS, g105_r1 hS, g105_i2 hS, g105_u2 hS, g105_r3 hS, g105_i4 hS, g105_u4 hS, g105_r5 hS, g105_i6 hS, g105_u6 hS, g105_i7 hS, g105_u7 hS, g105_i8 hS, g105_u8 hS, g105_i9 hS, g105_u9 hS, g105_i10 hS, g105_u10 hS, g105_r11 hS, g105_r12 hS, g105_r13 hS, g105_r14 hS, g105_r15 hS, g105_r16 hS, g105_r17 hS, g105_r18 hS, g105_r19 hS, g105_r20 hS, g105_r21 hS, g105_r22 hS, g105_r23 hS, g105_o hS, g106_q hS, g119_q hS, g127_q hS, g107_a hS, g107_s hS, g107_n hS, g108_a hS, g108_s hS, g108_n hS, g109_a hS, g109_s hS, g109_n hS, Option.bind_some, sk_ci_some, sk_cv_some, sk_cf_some, if_true, eq_self, ite_self, rq0 hR, rq1 hR, rq2 hR, rq3 hR, rq4 hR, rq5 hR, rk_ hR, rw_ hR, rh_ hR, rf_ hR, rl_ hR, rx_ hR, ry_ hR, rt_ hR, ro_ hR, rs_ hR, Int.toNat_natCast, sj_add, sj_sub, sj_mul, sj_neg, sj_div, sj_ceq, sj_cne, sj_clt, sj_cge, sj_cgt, sj_cle, bi_ceq, bi_cne, bi_01, Int.natCast_add, Int.cast_ofNat_Int, ← Int.add_assoc]
      have hh : hit v x y w t k = false := by simp [hit, hf]
      rw [if_neg (by omega), if_pos hf, hh]
      rfl
  · rw [sk_e157_3]
    simp (disch := omega) only [g105_r0 hS, g105_r1 hS, g105_i2 hS, g105_u2 hS, g105_r3 hS, g105_i4 hS, g105_u4 hS, g105_r5 hS, g105_i6 hS, g105_u6 hS, g105_i7 hS, g105_u7 hS, g105_i8 hS, g105_u8 hS, g105_i9 hS, g105_u9 hS, g105_i10 hS, g105_u10 hS, g105_r11 hS, g105_r12 hS, g105_r13 hS, g105_r14 hS, g105_r15 hS, g105_r16 hS, g105_r17 hS, g105_r18 hS, g105_r19 hS, g105_r20 hS, g105_r21 hS, g105_r22 hS, g105_r23 hS, g105_o hS, g106_q hS, g119_q hS, g127_q hS, g107_a hS, g107_s hS, g107_n hS, g108_a hS, g108_s hS, g108_n hS, g109_a hS, g109_s hS, g109_n hS, Option.bind_some, sk_ci_some, sk_cv_some, sk_cf_some, if_true, eq_self, ite_self, rq0 hR, rq1 hR, rq2 hR, rq3 hR, rq4 hR, rq5 hR, rk_ hR, rw_ hR, rh_ hR, rf_ hR, rl_ hR, rx_ hR, ry_ hR, rt_ hR, ro_ hR, rs_ hR, Int.toNat_natCast, sj_add, sj_sub, sj_mul, sj_neg, sj_div, sj_ceq, sj_cne, sj_clt, sj_cge, sj_cgt, sj_cle, bi_ceq, bi_cne, bi_01]
    grind
  · exact some_ite _ Iff.rfl
theorem m167 {d : Nat} (hd : 1 ≤ d) (hS : sk_G S) (hR : RP I 107 v) (hV : VO v) : sk_c d 167 [.ref 105] (sk_mk S I) = some (some (.int (sj (bi (hasL v)))), sk_mk S I) := by
  obtain ⟨n1, n2, n3, n4, n5, n6, n7, n8, n9, n10, n11, n12⟩ := hV.1
  obtain ⟨d, rfl⟩ : ∃ e, d = e + 1 := ⟨d - 1, by omega⟩; rw [sk_e167]
  refine (lp_any0 (fun k => sk_D167 d 2 [some (.ref 105), some (.int (sj (k : Int)))] [] (sk_mk S I)) (fun p => decide (2 ≤ v 5 p)) (v 0 1).toNat (some (some (.int (sj 1)), sk_mk S I)) (some (some (.int (sj 0)), sk_mk S I)) ?_ ?_).trans ?_
  · intro k hk
    obtain ⟨p1, p2, p3, p4, p5, p6, p7, p8, p9, p10, -⟩ := vo_p hV (p := k) (by omega)
    rw [sk_e167_2]
    simp (disch := omega) only [g105_r0 hS, g105_r1 hS, g105_i2 hS, g105_u2 hS, g105_r3 hS, g105_i4 hS, g105_u4 hS, g105_r5 hS, g105_i6 hS, g105_u6 hS, g105_i7 hS, g105_u7 hS, g105_i8 hS, g105_u8 hS, g105_i9 hS, g105_u9 hS, g105_i10 hS, g105_u10 hS, g105_r11 hS, g105_r12 hS, g105_r13 hS, g105_r14 hS, g105_r15 hS, g105_r16 hS, g105_r17 hS, g105_r18 hS, g105_r19 hS, g105_r20 hS, g105_r21 hS, g105_r22 hS, g105_r23 hS, g105_o hS, g106_q hS, g119_q hS, g127_q hS, g107_a hS, g107_s hS, g107_n hS, g108_a hS, g108_s hS, g108_n hS, g109_a hS, g109_s hS, g109_n hS, Option.bind_some, sk_ci_some, sk_cv_some, sk_cf_some, if_true, eq_self, ite_self, rq0 hR, rq1 hR, rq2 hR, rq3 hR, rq4 hR, rq5 hR, rk_ hR, rw_ hR, rh_ hR, rf_ hR, rl_ hR, rx_ hR, ry_ hR, rt_ hR, ro_ hR, rs_ hR, Int.toNat_natCast, sj_add, sj_sub, sj_mul, sj_neg, sj_div, sj_ceq, sj_cne, sj_clt, sj_cge, sj_cgt, sj_cle, bi_ceq, bi_cne, bi_01, Int.natCast_add, Int.cast_ofNat_Int, ← Int.add_assoc]
    grind
  · rw [sk_e167_2]
    simp (disch := omega) only [g105_r0 hS, g105_r1 hS, g105_i2 hS, g105_u2 hS, g105_r3 hS, g105_i4 hS, g105_u4 hS, g105_r5 hS, g105_i6 hS, g105_u6 hS, g105_i7 hS, g105_u7 hS, g105_i8 hS, g105_u8 hS, g105_i9 hS, g105_u9 hS, g105_i10 hS, g105_u10 hS, g105_r11 hS, g105_r12 hS, g105_r13 hS, g105_r14 hS, g105_r15 hS, g105_r16 hS, g105_r17 hS, g105_r18 hS, g105_r19 hS, g105_r20 hS, g105_r21 hS, g105_r22 hS, g105_r23 hS, g105_o hS, g106_q hS, g119_q hS, g127_q hS, g107_a hS, g107_s hS, g107_n hS, g108_a hS, g108_s hS, g108_n hS, g109_a hS, g109_s hS, g109_n hS, Option.bind_some, sk_ci_some, sk_cv_some, sk_cf_some, if_true, eq_self, ite_self, rq0 hR, rq1 hR, rq2 hR, rq3 hR, rq4 hR, rq5 hR, rk_ hR, rw_ hR, rh_ hR, rf_ hR, rl_ hR, rx_ hR, ry_ hR, rt_ hR, ro_ hR, rs_ hR, Int.toNat_natCast, sj_add, sj_sub, sj_mul, sj_neg, sj_div, sj_ceq, sj_cne, sj_clt, sj_cge, sj_cgt, sj_cle, bi_ceq, bi_cne, bi_01]
    grind
  · exact some_ite _ Iff.rfl
theorem m168 {d : Nat} (hd : 1 ≤ d) (hS : sk_G S) (hR : RP I 107 v) (hV : VO v) {p : Int} (h1 : -2147483648 ≤ p) (h2 : p < 2147483648) : sk_c d 168 [.ref 105, .int (sj p)] (sk_mk S I) = some (some (.int (sj (bi (inOrd v p)))), sk_mk S I) := by
  obtain ⟨n1, n2, n3, n4, n5, n6, n7, n8, n9, n10, n11, n12⟩ := hV.1
  obtain ⟨d, rfl⟩ : ∃ e, d = e + 1 := ⟨d - 1, by omega⟩; rw [sk_e168]
  refine (lp_any0 (fun k => sk_D168 d 2 [some (.ref 105), some (.int (sj p)), some (.int (sj (k : Int)))] [] (sk_mk S I)) (fun k => decide (v 9 k = p)) (v 0 2).toNat (some (some (.int (sj 1)), sk_mk S I)) (some (some (.int (sj 0)), sk_mk S I)) ?_ ?_).trans ?_
  · intro k hk
    have hD := hV.2.2.1.1 k (by omega)
    rw [sk_e168_2]
    simp (disch := omega) only [g105_r0 hS, g105_r1 hS, g105_i2 hS, g105_u2 hS, g105_r3 hS, g105_i4 hS, g105_u4 hS, g105_r5 hS, g105_i6 hS, g105_u6 hS, g105_i7 hS, g105_u7 hS, g105_i8 hS, g105_u8 hS, g105_i9 hS, g105_u9 hS, g105_i10 hS, g105_u10 hS, g105_r11 hS, g105_r12 hS, g105_r13 hS, g105_r14 hS, g105_r15 hS, g105_r16 hS, g105_r17 hS, g105_r18 hS, g105_r19 hS, g105_r20 hS, g105_r21 hS, g105_r22 hS, g105_r23 hS, g105_o hS, g106_q hS, g119_q hS, g127_q hS, g107_a hS, g107_s hS, g107_n hS, g108_a hS, g108_s hS, g108_n hS, g109_a hS, g109_s hS, g109_n hS, Option.bind_some, sk_ci_some, sk_cv_some, sk_cf_some, if_true, eq_self, ite_self, rq0 hR, rq1 hR, rq2 hR, rq3 hR, rq4 hR, rq5 hR, rk_ hR, rw_ hR, rh_ hR, rf_ hR, rl_ hR, rx_ hR, ry_ hR, rt_ hR, ro_ hR, rs_ hR, Int.toNat_natCast, sj_add, sj_sub, sj_mul, sj_neg, sj_div, sj_ceq, sj_cne, sj_clt, sj_cge, sj_cgt, sj_cle, bi_ceq, bi_cne, bi_01, Int.natCast_add, Int.cast_ofNat_Int, ← Int.add_assoc]
    grind
  · rw [sk_e168_2]
    simp (disch := omega) only [g105_r0 hS, g105_r1 hS, g105_i2 hS, g105_u2 hS, g105_r3 hS, g105_i4 hS, g105_u4 hS, g105_r5 hS, g105_i6 hS, g105_u6 hS, g105_i7 hS, g105_u7 hS, g105_i8 hS, g105_u8 hS, g105_i9 hS, g105_u9 hS, g105_i10 hS, g105_u10 hS, g105_r11 hS, g105_r12 hS, g105_r13 hS, g105_r14 hS, g105_r15 hS, g105_r16 hS, g105_r17 hS, g105_r18 hS, g105_r19 hS, g105_r20 hS, g105_r21 hS, g105_r22 hS, g105_r23 hS, g105_o hS, g106_q hS, g119_q hS, g127_q hS, g107_a hS, g107_s hS, g107_n hS, g108_a hS, g108_s hS, g108_n hS, g109_a hS, g109_s hS, g109_n hS, Option.bind_some, sk_ci_some, sk_cv_some, sk_cf_some, if_true, eq_self, ite_self, rq0 hR, rq1 hR, rq2 hR, rq3 hR, rq4 hR, rq5 hR, rk_ hR, rw_ hR, rh_ hR, rf_ hR, rl_ hR, rx_ hR, ry_ hR, rt_ hR, ro_ hR, rs_ hR, Int.toNat_natCast, sj_add, sj_sub, sj_mul, sj_neg, sj_div, sj_ceq, sj_cne, sj_clt, sj_cge, sj_cgt, sj_cle, bi_ceq, bi_cne, bi_01]
    grind
  · exact some_ite _ Iff.rfl
theorem m174 {d : Nat} (hd : 1 ≤ d) (hS : sk_G S) (hR : RP I 107 v) (hV : VO v) {x w : Nat} {y : Int} (h : (x : Int) + w ≤ v 0 0) (h1 : 0 ≤ y) (h2 : y ≤ 400) : sk_c d 174 [.ref 105, .int (sj x), .int (sj y), .int (sj w)] (sk_mk S I) = some (some (.int (sj (wstV v x w y))), sk_mk S I) := by
  obtain ⟨n1, n2, n3, n4, n5, n6, n7, n8, n9, n10, n11, n12⟩ := hV.1
  obtain ⟨d, rfl⟩ : ∃ e, d = e + 1 := ⟨d - 1, by omega⟩; rw [sk_e174]
  obtain ⟨hi, e⟩ := lp_fold0 (fun k s => sk_D174 d 6 [some (.ref 105), some (.int (sj x)), some (.int (sj y)), some (.int (sj w)), some (.int (sj s)), some (.int (sj ((x : Int) + (k : Int))))] [] (sk_mk S I)) (fun j s => s + (y - v 10 (x + j))) w (fun k s => True) (fun k s hk hs => by
    have hE := hV.2.2.2.1 (x + k) (by omega)
    refine ⟨trivial, ?_⟩
    rw [sk_e174_6]
    simp (disch := omega) only [g105_r0 hS, g105_r1 hS, g105_i2 hS, g105_u2 hS, g105_r3 hS, g105_i4 hS, g105_u4 hS, g105_r5 hS, g105_i6 hS, g105_u6 hS, g105_i7 hS, g105_u7 hS, g105_i8 hS, g105_u8 hS, g105_i9 hS, g105_u9 hS, g105_i10 hS, g105_u10 hS, g105_r11 hS, g105_r12 hS, g105_r13 hS, g105_r14 hS, g105_r15 hS, g105_r16 hS, g105_r17 hS, g105_r18 hS, g105_r19 hS, g105_r20 hS, g105_r21 hS, g105_r22 hS, g105_r23 hS, g105_o hS, g106_q hS, g119_q hS, g127_q hS, g107_a hS, g107_s hS, g107_n hS, g108_a hS, g108_s hS, g108_n hS, g109_a hS, g109_s hS, g109_n hS, Option.bind_some, sk_ci_some, sk_cv_some, sk_cf_some, if_true, eq_self, ite_self, rq0 hR, rq1 hR, rq2 hR, rq3 hR, rq4 hR, rq5 hR, rk_ hR, rw_ hR, rh_ hR, rf_ hR, rl_ hR, rx_ hR, ry_ hR, rt_ hR, ro_ hR, rs_ hR, Int.toNat_natCast, sj_add, sj_sub, sj_mul, sj_neg, sj_div, sj_ceq, sj_cne, sj_clt, sj_cge, sj_cgt, sj_cle, bi_ceq, bi_cne, bi_01, Int.natCast_add, Int.cast_ofNat_Int, ← Int.add_assoc]
    have t1 : ((x : Int) + (k : Int)).toNat = x + k := by omega
    have t2 : (97 + (x : Int) + (k : Int)).toNat = 97 + (x + k) := by omega
    rw [t2, hR.2.2.2.1 (x + k) (by omega)]
    rw [if_neg (by omega)]) 0 trivial
  have e0 : (x : Int) = (x : Int) + ((0 : Nat) : Int) := by simp
  have e : sk_D174 d 6 [some (.ref 105), some (.int (sj x)), some (.int (sj y)), some (.int (sj w)), some (.int (sj 0)), some (.int (sj ((x : Int) + ((0 : Nat) : Int))))] [] (sk_mk S I) = sk_D174 d 6 [some (.ref 105), some (.int (sj x)), some (.int (sj y)), some (.int (sj w)), some (.int (sj (wstV v x w y))), some (.int (sj ((x : Int) + (w : Int))))] [] (sk_mk S I) := e
  rw [← e0] at e
  refine e.trans ?_
  rw [sk_e174_6]
  simp (disch := omega) only [g105_r0 hS, g105_r1 hS, g105_i2 hS, g105_u2 hS, g105_r3 hS, g105_i4 hS, g105_u4 hS, g105_r5 hS, g105_i6 hS, g105_u6 hS, g105_i7 hS, g105_u7 hS, g105_i8 hS, g105_u8 hS, g105_i9 hS, g105_u9 hS, g105_i10 hS, g105_u10 hS, g105_r11 hS, g105_r12 hS, g105_r13 hS, g105_r14 hS, g105_r15 hS, g105_r16 hS, g105_r17 hS, g105_r18 hS, g105_r19 hS, g105_r20 hS, g105_r21 hS, g105_r22 hS, g105_r23 hS, g105_o hS, g106_q hS, g119_q hS, g127_q hS, g107_a hS, g107_s hS, g107_n hS, g108_a hS, g108_s hS, g108_n hS, g109_a hS, g109_s hS, g109_n hS, Option.bind_some, sk_ci_some, sk_cv_some, sk_cf_some, if_true, eq_self, ite_self, rq0 hR, rq1 hR, rq2 hR, rq3 hR, rq4 hR, rq5 hR, rk_ hR, rw_ hR, rh_ hR, rf_ hR, rl_ hR, rx_ hR, ry_ hR, rt_ hR, ro_ hR, rs_ hR, Int.toNat_natCast, sj_add, sj_sub, sj_mul, sj_neg, sj_div, sj_ceq, sj_cne, sj_clt, sj_cge, sj_cgt, sj_cle, bi_ceq, bi_cne, bi_01]
  rw [if_pos (by omega)]
end REF
