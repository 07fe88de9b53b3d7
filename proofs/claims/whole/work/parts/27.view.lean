/-! ===== a plan's view, and what holds of it ===== -/
def vC (I : sk_H) (a : Nat) : sk_H := fun s k => match s with
  | 0 => if k = 5 then I (a + 4) 4 else I a (4 + k)
  | 1 => if k < 10 then I (a + 9 + k) 0 else 0
  | 2 => if k < 10 then I (a + 9 + k) 1 else 0
  | 3 => if k < 10 then I (a + 9 + k) 2 else 0
  | 4 => if k < 10 then I (a + 9 + k) 3 else 0
  | 5 => if k < 10 then I (a + 9 + k) 4 else 0
  | 6 => if k < 10 then I (a + 9 + k) 5 else 0
  | 7 => if k < 10 then I (a + 9 + k) 6 else 0
  | 8 => if k < 10 then I (a + 9 + k) 7 else 0
  | 9 => I (a + 2) k
  | 10 => I (a + 3) k
  | 11 => I (a + 5) k
  | 12 => I (a + 6) k
  | 13 => I (a + 7) k
  | 14 => I (a + 8) k
  | 15 => if k < 10 then I (a + 9 + k) 8 else 0
  | 16 => if k < 10 then I (a + 9 + k) 9 else 0
  | _ => 0
theorem vc4 {I v : sk_H} {a : Nat} (hv : vC I a = v) : I a 4 = v 0 0 := by rw [← hv]; rfl
theorem vc5 {I v : sk_H} {a : Nat} (hv : vC I a = v) : I a 5 = v 0 1 := by rw [← hv]; rfl
theorem vc6 {I v : sk_H} {a : Nat} (hv : vC I a = v) : I a 6 = v 0 2 := by rw [← hv]; rfl
theorem vc7 {I v : sk_H} {a : Nat} (hv : vC I a = v) : I a 7 = v 0 3 := by rw [← hv]; rfl
theorem vc8 {I v : sk_H} {a : Nat} (hv : vC I a = v) : I a 8 = v 0 4 := by rw [← hv]; rfl
theorem vcz {I v : sk_H} {a : Nat} (hv : vC I a = v) : I (a + 4) 4 = v 0 5 := by rw [← hv]; rfl
theorem vp0 {I v : sk_H} {a : Nat} (hv : vC I a = v) {n : Nat} (hn : n < 10) : I (a + 9 + n) 0 = v 1 n := by rw [← hv]; exact (if_pos hn).symm
theorem vp1 {I v : sk_H} {a : Nat} (hv : vC I a = v) {n : Nat} (hn : n < 10) : I (a + 9 + n) 1 = v 2 n := by rw [← hv]; exact (if_pos hn).symm
theorem vp2 {I v : sk_H} {a : Nat} (hv : vC I a = v) {n : Nat} (hn : n < 10) : I (a + 9 + n) 2 = v 3 n := by rw [← hv]; exact (if_pos hn).symm
theorem vp3 {I v : sk_H} {a : Nat} (hv : vC I a = v) {n : Nat} (hn : n < 10) : I (a + 9 + n) 3 = v 4 n := by rw [← hv]; exact (if_pos hn).symm
theorem vp4 {I v : sk_H} {a : Nat} (hv : vC I a = v) {n : Nat} (hn : n < 10) : I (a + 9 + n) 4 = v 5 n := by rw [← hv]; exact (if_pos hn).symm
theorem vp5 {I v : sk_H} {a : Nat} (hv : vC I a = v) {n : Nat} (hn : n < 10) : I (a + 9 + n) 5 = v 6 n := by rw [← hv]; exact (if_pos hn).symm
theorem vp6 {I v : sk_H} {a : Nat} (hv : vC I a = v) {n : Nat} (hn : n < 10) : I (a + 9 + n) 6 = v 7 n := by rw [← hv]; exact (if_pos hn).symm
theorem vp7 {I v : sk_H} {a : Nat} (hv : vC I a = v) {n : Nat} (hn : n < 10) : I (a + 9 + n) 7 = v 8 n := by rw [← hv]; exact (if_pos hn).symm
theorem vp8 {I v : sk_H} {a : Nat} (hv : vC I a = v) {n : Nat} (hn : n < 10) : I (a + 9 + n) 8 = v 15 n := by rw [← hv]; exact (if_pos hn).symm
theorem vp9 {I v : sk_H} {a : Nat} (hv : vC I a = v) {n : Nat} (hn : n < 10) : I (a + 9 + n) 9 = v 16 n := by rw [← hv]; exact (if_pos hn).symm
theorem vo_ {I v : sk_H} {a : Nat} (hv : vC I a = v) {n : Nat} : I (a + 2) n = v 9 n := by rw [← hv]; rfl
theorem vs_ {I v : sk_H} {a : Nat} (hv : vC I a = v) {n : Nat} : I (a + 3) n = v 10 n := by rw [← hv]; rfl
theorem vx0 {I v : sk_H} {a : Nat} (hv : vC I a = v) {n : Nat} : I (a + 5) n = v 11 n := by rw [← hv]; rfl
theorem vx1 {I v : sk_H} {a : Nat} (hv : vC I a = v) {n : Nat} : I (a + 6) n = v 12 n := by rw [← hv]; rfl
theorem vx2 {I v : sk_H} {a : Nat} (hv : vC I a = v) {n : Nat} : I (a + 7) n = v 13 n := by rw [← hv]; rfl
theorem vx3 {I v : sk_H} {a : Nat} (hv : vC I a = v) {n : Nat} : I (a + 8) n = v 14 n := by rw [← hv]; rfl
def und (k b : Int) : Bool := decide (k = b ∨ b = 0 ∨ (k = 3 ∧ b = 1) ∨ (k = 4 ∧ b = 2))
def acr (v : sk_H) (p : Nat) (o : Int) : Int := if o = 0 then v 2 p else v 3 p
def tal (v : sk_H) (p : Nat) (o : Int) : Int := (if o = 0 then v 3 p else v 2 p) + (if v 1 p = 3 then 1 else 0)
def twoW (v : sk_H) (p : Nat) : Bool := und (v 1 p) 1 && decide (v 3 p ≤ v 0 0)
def mayl (v : sk_H) (p : Nat) (x y ws : Int) : Bool := (!(und (v 1 p) 2) || decide (x % v 4 p = 0)) && (!(und (v 1 p) 4) || decide (y % v 4 p = 0)) && (!(und (v 1 p) 5) || decide (ws < v 4 p))
/-- a part's rows -/
def VP (v : sk_H) (p : Nat) : Prop := 0 ≤ v 1 p ∧ v 1 p ≤ 5 ∧ 1 ≤ v 2 p ∧ v 2 p ≤ v 0 0 ∧ 1 ≤ v 3 p ∧ v 3 p ≤ 9 ∧ 1 ≤ v 4 p ∧ v 4 p ≤ 9 ∧ 0 ≤ v 5 p ∧ v 5 p ≤ 3 ∧ (v 8 p = 0 ∨ v 8 p = 1) ∧ (v 5 p ≠ 0 → 0 ≤ v 6 p ∧ v 6 p + v 15 p ≤ v 0 0 ∧ 0 ≤ v 7 p ∧ v 7 p ≤ 300 ∧ v 15 p = acr v p (v 8 p) ∧ v 16 p = tal v p (v 8 p)) ∧ (v 5 p = 1 → v 8 p = 0 ∧ v 7 p ≤ 60)
def VN (v : sk_H) : Prop := 1 ≤ v 0 0 ∧ v 0 0 ≤ 20 ∧ 0 ≤ v 0 1 ∧ v 0 1 ≤ 10 ∧ 0 ≤ v 0 2 ∧ v 0 2 ≤ 10 ∧ 0 ≤ v 0 3 ∧ v 0 3 ≤ 3 ∧ 0 ≤ v 0 4 ∧ v 0 4 ≤ 1 ∧ 0 ≤ v 0 5 ∧ v 0 5 ≤ 63
def VD (v : sk_H) : Prop := (∀ k : Nat, (k : Int) < v 0 2 → 0 ≤ v 9 k ∧ v 9 k < v 0 1 ∧ v 5 (v 9 k).toNat ≠ 1) ∧ ∀ j k : Nat, (j : Int) < v 0 2 → (k : Int) < v 0 2 → v 9 j = v 9 k → j = k
def VE (v : sk_H) : Prop := ∀ c : Nat, (c : Int) < v 0 0 → 0 ≤ v 10 c ∧ v 10 c ≤ 300
def VW (v : sk_H) : Prop := ∀ k : Nat, (k : Int) < v 0 5 → 0 ≤ v 11 k ∧ 1 ≤ v 13 k ∧ v 11 k + v 13 k ≤ v 0 0 ∧ 0 ≤ v 12 k ∧ 1 ≤ v 14 k ∧ v 12 k + v 14 k ≤ 300
def VO (v : sk_H) : Prop := VN v ∧ (∀ p : Nat, (p : Int) < v 0 1 → VP v p) ∧ VD v ∧ VE v ∧ VW v
theorem sk_under_nat : ∀ k b : Nat, k < 6 → b < 6 → sk_under 6 (sj (k : Int)) (sj (b : Int)) = some (sj (bi (und (k : Int) (b : Int)))) := by
  intro k b hk hb
  match k, hk, b, hb with
  | 0, _, 0, _ | 0, _, 1, _ | 0, _, 2, _ | 0, _, 3, _ | 0, _, 4, _ | 0, _, 5, _ => decide +kernel
  | 1, _, 0, _ | 1, _, 1, _ | 1, _, 2, _ | 1, _, 3, _ | 1, _, 4, _ | 1, _, 5, _ => decide +kernel
  | 2, _, 0, _ | 2, _, 1, _ | 2, _, 2, _ | 2, _, 3, _ | 2, _, 4, _ | 2, _, 5, _ => decide +kernel
  | 3, _, 0, _ | 3, _, 1, _ | 3, _, 2, _ | 3, _, 3, _ | 3, _, 4, _ | 3, _, 5, _ => decide +kernel
  | 4, _, 0, _ | 4, _, 1, _ | 4, _, 2, _ | 4, _, 3, _ | 4, _, 4, _ | 4, _, 5, _ => decide +kernel
  | 5, _, 0, _ | 5, _, 1, _ | 5, _, 2, _ | 5, _, 3, _ | 5, _, 4, _ | 5, _, 5, _ => decide +kernel
theorem m1 {d : Nat} (hd : 7 ≤ d) {k b : Int} (h1 : 0 ≤ k) (h2 : k ≤ 5) (h3 : 0 ≤ b) (h4 : b ≤ 5) {w : sk_W} : sk_c d 1 [.int (sj k), .int (sj b)] w = some (some (.int (sj (bi (und k b)))), w) := by
  obtain ⟨d, rfl⟩ : ∃ e, d = e + 1 := ⟨d - 1, by omega⟩
  have h := sk_under_nat k.toNat b.toNat (by omega) (by omega)
  rw [Int.toNat_of_nonneg h1, Int.toNat_of_nonneg h3] at h
  show (if 6 ≤ d then sk_prim1 [.int (sj k), .int (sj b)] w else none) = _
  rw [if_pos (by omega)]
  show (sk_under 6 (sj k) (sj b)).bind (fun v => some (some (Value.int v), w)) = _
  rw [h]
  rfl
theorem ie_rem (x f : Int) : x - x / f * f = x % f := by rw [Int.emod_def, Int.mul_comm]
theorem m239 {d : Nat} (hd : 1 ≤ d) {x y : Int} (h1 : -2147483648 ≤ x) (h2 : x < 2147483648) (h3 : -2147483648 ≤ y) (h4 : y < 2147483648) {w : sk_W} : sk_c d 239 [.int (sj x), .int (sj y)] w = some (some (.int (sj (if x < y then y else x))), w) := by
  obtain ⟨d, rfl⟩ : ∃ e, d = e + 1 := ⟨d - 1, by omega⟩; rw [sk_e239]
  simp (disch := omega) only [sj_ceq, sj_cne, sj_clt, sj_cge, sj_cgt, sj_cle, bi_ceq, bi_cne, bi_01]
  split <;> rfl
theorem m240 {d : Nat} (hd : 1 ≤ d) {x y : Int} (h1 : -2147483648 ≤ x) (h2 : x < 2147483648) (h3 : -2147483648 ≤ y) (h4 : y < 2147483648) {w : sk_W} : sk_c d 240 [.int (sj x), .int (sj y)] w = some (some (.int (sj (if y < x then y else x))), w) := by
  obtain ⟨d, rfl⟩ : ∃ e, d = e + 1 := ⟨d - 1, by omega⟩; rw [sk_e240]
  simp (disch := omega) only [sj_ceq, sj_cne, sj_clt, sj_cge, sj_cgt, sj_cle, bi_ceq, bi_cne, bi_01]
  split <;> rfl
/-! ===== a part's methods ===== -/
section PRT
variable {S : List sk_Sh} {I : sk_H} {b : Nat}
theorem m27 {d : Nat} (hd : 1 ≤ d) (hb : pt S b) (h1 : 0 ≤ I b 4) (h2 : I b 4 ≤ 3) : sk_c d 27 [.ref b] (sk_mk S I) = some (some (.int (sj (bi (decide (I b 4 ≠ 0))))), sk_mk S I) := by
  obtain ⟨d, rfl⟩ : ∃ e, d = e + 1 := ⟨d - 1, by omega⟩; rw [sk_e27]
  simp (disch := omega) only [pt_i0 hb, pt_u0 hb, pt_i1 hb, pt_u1 hb, pt_i2 hb, pt_u2 hb, pt_i3 hb, pt_u3 hb, pt_i4 hb, pt_u4 hb, pt_i5 hb, pt_u5 hb, pt_i6 hb, pt_u6 hb, pt_i7 hb, pt_u7 hb, pt_i8 hb, pt_u8 hb, pt_i9 hb, pt_u9 hb, pt_o hb, Option.bind_some, sk_ci_some, sk_cv_some, sk_cf_some, if_true, eq_self, ite_self, sj_add, sj_sub, sj_mul, sj_neg, sj_div, sj_ceq, sj_cne, sj_clt, sj_cge, sj_cgt, sj_cle, bi_ceq, bi_cne, bi_01]
  split <;> simp [bi, *]
theorem m28 {d : Nat} (hd : 1 ≤ d) (hb : pt S b) (h1 : 0 ≤ I b 4) (h2 : I b 4 ≤ 3) : sk_c d 28 [.ref b] (sk_mk S I) = some (some (.int (sj (bi (decide (2 ≤ I b 4))))), sk_mk S I) := by
  obtain ⟨d, rfl⟩ : ∃ e, d = e + 1 := ⟨d - 1, by omega⟩; rw [sk_e28]
  simp (disch := omega) only [pt_i0 hb, pt_u0 hb, pt_i1 hb, pt_u1 hb, pt_i2 hb, pt_u2 hb, pt_i3 hb, pt_u3 hb, pt_i4 hb, pt_u4 hb, pt_i5 hb, pt_u5 hb, pt_i6 hb, pt_u6 hb, pt_i7 hb, pt_u7 hb, pt_i8 hb, pt_u8 hb, pt_i9 hb, pt_u9 hb, pt_o hb, Option.bind_some, sk_ci_some, sk_cv_some, sk_cf_some, if_true, eq_self, ite_self, sj_add, sj_sub, sj_mul, sj_neg, sj_div, sj_ceq, sj_cne, sj_clt, sj_cge, sj_cgt, sj_cle, bi_ceq, bi_cne, bi_01]
  grind [bi]
theorem m31 {d : Nat} (hd : 1 ≤ d) (hb : pt S b) {o : Int} (ho : o = 0 ∨ o = 1) : sk_c d 31 [.ref b, .int (sj o)] (sk_mk S I) = some (some (.int (sj (if o = 0 then I b 1 else I b 2))), sk_mk S I) := by
  obtain ⟨d, rfl⟩ : ∃ e, d = e + 1 := ⟨d - 1, by omega⟩; rw [sk_e31]
  simp (disch := omega) only [pt_i0 hb, pt_u0 hb, pt_i1 hb, pt_u1 hb, pt_i2 hb, pt_u2 hb, pt_i3 hb, pt_u3 hb, pt_i4 hb, pt_u4 hb, pt_i5 hb, pt_u5 hb, pt_i6 hb, pt_u6 hb, pt_i7 hb, pt_u7 hb, pt_i8 hb, pt_u8 hb, pt_i9 hb, pt_u9 hb, pt_o hb, Option.bind_some, sk_ci_some, sk_cv_some, sk_cf_some, if_true, eq_self, ite_self, sj_add, sj_sub, sj_mul, sj_neg, sj_div, sj_ceq, sj_cne, sj_clt, sj_cge, sj_cgt, sj_cle, bi_ceq, bi_cne, bi_01]
  split <;> rfl
theorem m32 {d : Nat} (hd : 8 ≤ d) (hb : pt S b) {o : Int} (ho : o = 0 ∨ o = 1) (h1 : 0 ≤ I b 0) (h2 : I b 0 ≤ 5) : sk_c d 32 [.ref b, .int (sj o)] (sk_mk S I) = some (some (.int (sj ((if o = 0 then I b 2 else I b 1) + if I b 0 = 3 then 1 else 0))), sk_mk S I) := by
  obtain ⟨d, rfl⟩ : ∃ e, d = e + 1 := ⟨d - 1, by omega⟩; rw [sk_e32]
  simp (disch := omega) only [pt_i0 hb, pt_u0 hb, pt_i1 hb, pt_u1 hb, pt_i2 hb, pt_u2 hb, pt_i3 hb, pt_u3 hb, pt_i4 hb, pt_u4 hb, pt_i5 hb, pt_u5 hb, pt_i6 hb, pt_u6 hb, pt_i7 hb, pt_u7 hb, pt_i8 hb, pt_u8 hb, pt_i9 hb, pt_u9 hb, pt_o hb, Option.bind_some, sk_ci_some, sk_cv_some, sk_cf_some, if_true, eq_self, ite_self, sj_add, sj_sub, sj_mul, sj_neg, sj_div, sj_ceq, sj_cne, sj_clt, sj_cge, sj_cgt, sj_cle, bi_ceq, bi_cne, bi_01, m1]
  grind [bi, und]
theorem m30 {d : Nat} (hd : 8 ≤ d) (hb : pt S b) {wd : Int} (h1 : 0 ≤ I b 0) (h2 : I b 0 ≤ 5) (h3 : 0 ≤ I b 2) (h4 : I b 2 ≤ 9) (h5 : 0 ≤ wd) (h6 : wd ≤ 20) : sk_c d 30 [.ref b, .int (sj wd)] (sk_mk S I) = some (some (.int (sj (if (und (I b 0) 1 && decide (I b 2 ≤ wd)) = true then 2 else 1))), sk_mk S I) := by
  obtain ⟨d, rfl⟩ : ∃ e, d = e + 1 := ⟨d - 1, by omega⟩; rw [sk_e30]
  simp (disch := omega) only [pt_i0 hb, pt_u0 hb, pt_i1 hb, pt_u1 hb, pt_i2 hb, pt_u2 hb, pt_i3 hb, pt_u3 hb, pt_i4 hb, pt_u4 hb, pt_i5 hb, pt_u5 hb, pt_i6 hb, pt_u6 hb, pt_i7 hb, pt_u7 hb, pt_i8 hb, pt_u8 hb, pt_i9 hb, pt_u9 hb, pt_o hb, Option.bind_some, sk_ci_some, sk_cv_some, sk_cf_some, if_true, eq_self, ite_self, sj_add, sj_sub, sj_mul, sj_neg, sj_div, sj_ceq, sj_cne, sj_clt, sj_cge, sj_cgt, sj_cle, bi_ceq, bi_cne, bi_01, m1]
  grind [bi, und]
theorem m33 {d : Nat} (hd : 8 ≤ d) (hb : pt S b) {x y ws : Int} (h1 : 0 ≤ I b 0) (h2 : I b 0 ≤ 5) (h3 : 1 ≤ I b 3) (h4 : I b 3 ≤ 9) (h5 : 0 ≤ x) (h6 : x ≤ 1000) (h7 : 0 ≤ y) (h8 : y ≤ 1000) (h9 : -100000 ≤ ws) (h10 : ws ≤ 100000) : sk_c d 33 [.ref b, .int (sj x), .int (sj y), .int (sj ws)] (sk_mk S I) = some (some (.int (sj (bi ((!(und (I b 0) 2) || decide (x % I b 3 = 0)) && (!(und (I b 0) 4) || decide (y % I b 3 = 0)) && (!(und (I b 0) 5) || decide (ws < I b 3)))))), sk_mk S I) := by
  obtain ⟨d, rfl⟩ : ∃ e, d = e + 1 := ⟨d - 1, by omega⟩; rw [sk_e33]
  have e : sk_D33 d 54 [some (.ref b), some (.int (sj x)), some (.int (sj y)), some (.int (sj ws))] [] (sk_mk S I) = some (some (.int (sj (bi (!(und (I b 0) 5) || decide (ws < I b 3))))), sk_mk S I) := by
    rw [sk_e33_54]
    simp (disch := omega) only [pt_i0 hb, pt_u0 hb, pt_i1 hb, pt_u1 hb, pt_i2 hb, pt_u2 hb, pt_i3 hb, pt_u3 hb, pt_i4 hb, pt_u4 hb, pt_i5 hb, pt_u5 hb, pt_i6 hb, pt_u6 hb, pt_i7 hb, pt_u7 hb, pt_i8 hb, pt_u8 hb, pt_i9 hb, pt_u9 hb, pt_o hb, Option.bind_some, sk_ci_some, sk_cv_some, sk_cf_some, if_true, eq_self, ite_self, sj_add, sj_sub, sj_mul, sj_neg, sj_div, sj_ceq, sj_cne, sj_clt, sj_cge, sj_cgt, sj_cle, bi_ceq, bi_cne, bi_01, m1]
    grind [bi, und]
  have r1 : 0 ≤ x % I b 3 ∧ x % I b 3 < I b 3 := ⟨Int.emod_nonneg _ (by omega), Int.emod_lt_of_pos _ (by omega)⟩
  have r2 : 0 ≤ y % I b 3 ∧ y % I b 3 < I b 3 := ⟨Int.emod_nonneg _ (by omega), Int.emod_lt_of_pos _ (by omega)⟩
  simp (disch := omega) only [pt_i0 hb, pt_u0 hb, pt_i1 hb, pt_u1 hb, pt_i2 hb, pt_u2 hb, pt_i3 hb, pt_u3 hb, pt_i4 hb, pt_u4 hb, pt_i5 hb, pt_u5 hb, pt_i6 hb, pt_u6 hb, pt_i7 hb, pt_u7 hb, pt_i8 hb, pt_u8 hb, pt_i9 hb, pt_u9 hb, pt_o hb, Option.bind_some, sk_ci_some, sk_cv_some, sk_cf_some, if_true, eq_self, ite_self, sj_add, sj_sub, sj_mul, sj_neg, sj_div, sj_ceq, sj_cne, sj_clt, sj_cge, sj_cgt, sj_cle, bi_ceq, bi_cne, bi_01, m1, sj_v0, e, ie_rem]
  cases h2 : und (I b 0) 2 <;> cases h4 : und (I b 0) 4 <;> by_cases hx : x % I b 3 = 0 <;> by_cases hy : y % I b 3 = 0 <;> simp [bi, hx, hy, show ¬ I b 3 = 0 by omega, h3]
theorem m34 {d : Nat} (hd : 1 ≤ d) {c : Nat} (hb : pt S b) (hc : pt S c) (h : ∀ k, k < 4 → 0 ≤ I b k ∧ I b k ≤ 20 ∧ 0 ≤ I c k ∧ I c k ≤ 20) : sk_c d 34 [.ref b, .ref c] (sk_mk S I) = some (some (.int (sj (bi (decide (I b 0 = I c 0 ∧ I b 1 = I c 1 ∧ I b 2 = I c 2 ∧ I b 3 = I c 3))))), sk_mk S I) := by
  obtain ⟨d, rfl⟩ : ∃ e, d = e + 1 := ⟨d - 1, by omega⟩; rw [sk_e34]
  have h0 := h 0 (by omega)
  have h1 := h 1 (by omega)
  have h2 := h 2 (by omega)
  have h3 := h 3 (by omega)
  simp (disch := omega) only [pt_i0 hb, pt_u0 hb, pt_i1 hb, pt_u1 hb, pt_i2 hb, pt_u2 hb, pt_i3 hb, pt_u3 hb, pt_i4 hb, pt_u4 hb, pt_i5 hb, pt_u5 hb, pt_i6 hb, pt_u6 hb, pt_i7 hb, pt_u7 hb, pt_i8 hb, pt_u8 hb, pt_i9 hb, pt_u9 hb, pt_o hb, Option.bind_some, sk_ci_some, sk_cv_some, sk_cf_some, if_true, eq_self, ite_self, sj_add, sj_sub, sj_mul, sj_neg, sj_div, sj_ceq, sj_cne, sj_clt, sj_cge, sj_cgt, sj_cle, bi_ceq, bi_cne, bi_01, pt_i0 hc, pt_i1 hc, pt_i2 hc, pt_i3 hc]
  grind [bi]
end PRT
