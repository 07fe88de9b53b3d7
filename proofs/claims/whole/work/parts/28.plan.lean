/-! ===== a plan's methods that only look ===== -/
theorem lp_any0 {α : Type} (F : Nat → α) (P : Nat → Bool) (n : Nat) (yes no : α) (h : ∀ k, k < n → F k = if P k = true then yes else F (k + 1)) (h3 : F n = no) : F 0 = if anyTo n P = true then yes else no :=
  lp_any (γ := Unit) (fun k _ => F k) P n yes no (fun k _ hk hp => by rw [h k hk, if_pos hp]) (fun k _ hk hp => ⟨(), by rw [h k hk, if_neg (by simp [hp])]⟩) (fun _ => h3) ()
theorem some_ite {c : Prop} [Decidable c] {w : sk_W} (b : Bool) (h : b = true ↔ c) : (if c then some (some (Value.int (sj 1)), w) else some (some (Value.int (sj 0)), w)) = some (some (Value.int (sj (bi b))), w) := by
  cases b <;> simp_all [bi]
section PLN
variable {S : List sk_Sh} {I v : sk_H} {a : Nat}
theorem vo_p (hV : VO v) {p : Nat} (hp : (p : Int) < v 0 1) : VP v p := hV.2.1 p hp
theorem p30 {d : Nat} (hd : 8 ≤ d) (hS : sk_G S) (ha : sk_isP a) (hv : vC I a = v) (hV : VO v) {p : Nat} (hp : (p : Int) < v 0 1) : sk_c d 30 [.ref (a + 9 + p), .int (sj (v 0 0))] (sk_mk S I) = some (some (.int (sj (if twoW v p = true then 2 else 1))), sk_mk S I) := by
  obtain ⟨n1, n2, n3, n4, n5, n6, n7, n8, n9, n10, n11, n12⟩ := hV.1
  obtain ⟨p1, p2, p3, p4, p5, p6, -⟩ := vo_p hV hp
  have e := m30 (I := I) hd (sh_pt hS ha (n := p) (by omega)) (wd := v 0 0)
  simp (disch := omega) only [vc4 hv, vc5 hv, vc6 hv, vc7 hv, vc8 hv, vcz hv, vp0 hv, vp1 hv, vp2 hv, vp3 hv, vp4 hv, vp5 hv, vp6 hv, vp7 hv, vp8 hv, vp9 hv, vo_ hv, vs_ hv, vx0 hv, vx1 hv, vx2 hv, vx3 hv] at e
  exact e p1 p2 (by omega) (by omega) (by omega) (by omega)
theorem p31 {d : Nat} (hd : 1 ≤ d) (hS : sk_G S) (ha : sk_isP a) (hv : vC I a = v) (hV : VO v) {p : Nat} (hp : (p : Int) < v 0 1) {o : Int} (ho : o = 0 ∨ o = 1) : sk_c d 31 [.ref (a + 9 + p), .int (sj o)] (sk_mk S I) = some (some (.int (sj (acr v p o))), sk_mk S I) := by
  obtain ⟨n1, n2, n3, n4, n5, n6, n7, n8, n9, n10, n11, n12⟩ := hV.1
  have e := m31 (I := I) hd (sh_pt hS ha (n := p) (by omega)) ho
  simp (disch := omega) only [vc4 hv, vc5 hv, vc6 hv, vc7 hv, vc8 hv, vcz hv, vp0 hv, vp1 hv, vp2 hv, vp3 hv, vp4 hv, vp5 hv, vp6 hv, vp7 hv, vp8 hv, vp9 hv, vo_ hv, vs_ hv, vx0 hv, vx1 hv, vx2 hv, vx3 hv] at e
  exact e
theorem p32 {d : Nat} (hd : 8 ≤ d) (hS : sk_G S) (ha : sk_isP a) (hv : vC I a = v) (hV : VO v) {p : Nat} (hp : (p : Int) < v 0 1) {o : Int} (ho : o = 0 ∨ o = 1) : sk_c d 32 [.ref (a + 9 + p), .int (sj o)] (sk_mk S I) = some (some (.int (sj (tal v p o))), sk_mk S I) := by
  obtain ⟨n1, n2, n3, n4, n5, n6, n7, n8, n9, n10, n11, n12⟩ := hV.1
  obtain ⟨p1, p2, p3, p4, p5, p6, -⟩ := vo_p hV hp
  have e := m32 (I := I) hd (sh_pt hS ha (n := p) (by omega)) ho
  simp (disch := omega) only [vc4 hv, vc5 hv, vc6 hv, vc7 hv, vc8 hv, vcz hv, vp0 hv, vp1 hv, vp2 hv, vp3 hv, vp4 hv, vp5 hv, vp6 hv, vp7 hv, vp8 hv, vp9 hv, vo_ hv, vs_ hv, vx0 hv, vx1 hv, vx2 hv, vx3 hv] at e
  exact e p1 p2
theorem p33 {d : Nat} (hd : 8 ≤ d) (hS : sk_G S) (ha : sk_isP a) (hv : vC I a = v) (hV : VO v) {p : Nat} (hp : (p : Int) < v 0 1) {x y ws : Int} (h5 : 0 ≤ x) (h6 : x ≤ 1000) (h7 : 0 ≤ y) (h8 : y ≤ 1000) (h9 : -100000 ≤ ws) (h10 : ws ≤ 100000) : sk_c d 33 [.ref (a + 9 + p), .int (sj x), .int (sj y), .int (sj ws)] (sk_mk S I) = some (some (.int (sj (bi (mayl v p x y ws)))), sk_mk S I) := by
  obtain ⟨n1, n2, n3, n4, n5, n6, n7, n8, n9, n10, n11, n12⟩ := hV.1
  obtain ⟨p1, p2, p3, p4, p5, p6, p7, p8, -⟩ := vo_p hV hp
  have e := m33 (I := I) hd (sh_pt hS ha (n := p) (by omega)) (x := x) (y := y) (ws := ws)
  simp (disch := omega) only [vc4 hv, vc5 hv, vc6 hv, vc7 hv, vc8 hv, vcz hv, vp0 hv, vp1 hv, vp2 hv, vp3 hv, vp4 hv, vp5 hv, vp6 hv, vp7 hv, vp8 hv, vp9 hv, vo_ hv, vs_ hv, vx0 hv, vx1 hv, vx2 hv, vx3 hv] at e
  exact e p1 p2 p7 p8 h5 h6 h7 h8 h9 h10
theorem p27 {d : Nat} (hd : 1 ≤ d) (hS : sk_G S) (ha : sk_isP a) (hv : vC I a = v) (hV : VO v) {p : Nat} (hp : (p : Int) < v 0 1) : sk_c d 27 [.ref (a + 9 + p)] (sk_mk S I) = some (some (.int (sj (bi (decide (v 5 p ≠ 0))))), sk_mk S I) := by
  obtain ⟨n1, n2, n3, n4, n5, n6, n7, n8, n9, n10, n11, n12⟩ := hV.1
  obtain ⟨p1, p2, p3, p4, p5, p6, p7, p8, p9, p10, -⟩ := vo_p hV hp
  have e := m27 (I := I) hd (sh_pt hS ha (n := p) (by omega))
  simp (disch := omega) only [vc4 hv, vc5 hv, vc6 hv, vc7 hv, vc8 hv, vcz hv, vp0 hv, vp1 hv, vp2 hv, vp3 hv, vp4 hv, vp5 hv, vp6 hv, vp7 hv, vp8 hv, vp9 hv, vo_ hv, vs_ hv, vx0 hv, vx1 hv, vx2 hv, vx3 hv] at e
  exact e p9 p10
theorem p28 {d : Nat} (hd : 1 ≤ d) (hS : sk_G S) (ha : sk_isP a) (hv : vC I a = v) (hV : VO v) {p : Nat} (hp : (p : Int) < v 0 1) : sk_c d 28 [.ref (a + 9 + p)] (sk_mk S I) = some (some (.int (sj (bi (decide (2 ≤ v 5 p))))), sk_mk S I) := by
  obtain ⟨n1, n2, n3, n4, n5, n6, n7, n8, n9, n10, n11, n12⟩ := hV.1
  obtain ⟨p1, p2, p3, p4, p5, p6, p7, p8, p9, p10, -⟩ := vo_p hV hp
  have e := m28 (I := I) hd (sh_pt hS ha (n := p) (by omega))
  simp (disch := omega) only [vc4 hv, vc5 hv, vc6 hv, vc7 hv, vc8 hv, vcz hv, vp0 hv, vp1 hv, vp2 hv, vp3 hv, vp4 hv, vp5 hv, vp6 hv, vp7 hv, vp8 hv, vp9 hv, vo_ hv, vs_ hv, vx0 hv, vx1 hv, vx2 hv, vx3 hv] at e
  exact e p9 p10
theorem m39 {d : Nat} (hd : 1 ≤ d) (hS : sk_G S) (ha : sk_isP a) (hv : vC I a = v) (hV : VO v) {p : Int} (h1 : -2147483648 ≤ p) (h2 : p < 2147483648) : sk_c d 39 [.ref a, .int (sj p)] (sk_mk S I) = some (some (.int (sj (bi (decide (0 ≤ p ∧ p < v 0 1))))), sk_mk S I) := by
  obtain ⟨n1, n2, n3, n4, n5, n6, n7, n8, n9, n10, n11, n12⟩ := hV.1
  obtain ⟨d, rfl⟩ : ∃ e, d = e + 1 := ⟨d - 1, by omega⟩; rw [sk_e39]
  simp (disch := omega) only [pl_r0 hS ha, pl_r1 hS ha, pl_r2 hS ha, pl_r3 hS ha, pl_i4 hS ha, pl_u4 hS ha, pl_i5 hS ha, pl_u5 hS ha, pl_i6 hS ha, pl_u6 hS ha, pl_i7 hS ha, pl_u7 hS ha, pl_i8 hS ha, pl_u8 hS ha, pl_o hS ha, pl_p hS ha, po_a hS ha, po_s hS ha, po_n hS ha, ps_a hS ha, ps_s hS ha, ps_n hS ha, pw_r0 hS ha, pw_r1 hS ha, pw_r2 hS ha, pw_r3 hS ha, pw_i4 hS ha, pw_u4 hS ha, pw_o hS ha, pw0_a hS ha, pw0_s hS ha, pw0_n hS ha, pw1_a hS ha, pw1_s hS ha, pw1_n hS ha, pw2_a hS ha, pw2_s hS ha, pw2_n hS ha, pw3_a hS ha, pw3_s hS ha, pw3_n hS ha, pq_i0 hS ha, pq_u0 hS ha, pq_i1 hS ha, pq_u1 hS ha, pq_i2 hS ha, pq_u2 hS ha, pq_i3 hS ha, pq_u3 hS ha, pq_i4 hS ha, pq_u4 hS ha, pq_i5 hS ha, pq_u5 hS ha, pq_i6 hS ha, pq_u6 hS ha, pq_i7 hS ha, pq_u7 hS ha, pq_i8 hS ha, pq_u8 hS ha, pq_i9 hS ha, pq_u9 hS ha, pq_o hS ha, Option.bind_some, sk_ci_some, sk_cv_some, sk_cf_some, if_true, eq_self, ite_self, vc4 hv, vc5 hv, vc6 hv, vc7 hv, vc8 hv, vcz hv, vp0 hv, vp1 hv, vp2 hv, vp3 hv, vp4 hv, vp5 hv, vp6 hv, vp7 hv, vp8 hv, vp9 hv, vo_ hv, vs_ hv, vx0 hv, vx1 hv, vx2 hv, vx3 hv, Int.toNat_natCast, sj_add, sj_sub, sj_mul, sj_neg, sj_div, sj_ceq, sj_cne, sj_clt, sj_cge, sj_cgt, sj_cle, bi_ceq, bi_cne, bi_01]
  grind [bi]
def inOrd (v : sk_H) (p : Int) : Bool := anyTo (v 0 2).toNat (fun k => decide (v 9 k = p))
theorem m40 {d : Nat} (hd : 1 ≤ d) (hS : sk_G S) (ha : sk_isP a) (hv : vC I a = v) (hV : VO v) {p : Int} (h1 : -2147483648 ≤ p) (h2 : p < 2147483648) : sk_c d 40 [.ref a, .int (sj p)] (sk_mk S I) = some (some (.int (sj (bi (inOrd v p)))), sk_mk S I) := by
  obtain ⟨n1, n2, n3, n4, n5, n6, n7, n8, n9, n10, n11, n12⟩ := hV.1
  obtain ⟨d, rfl⟩ : ∃ e, d = e + 1 := ⟨d - 1, by omega⟩; rw [sk_e40]
  refine (lp_any0 (fun k => sk_D40 d 2 [some (.ref a), some (.int (sj p)), some (.int (sj (k : Int)))] [] (sk_mk S I)) (fun k => decide (v 9 k = p)) (v 0 2).toNat (some (some (.int (sj 1)), sk_mk S I)) (some (some (.int (sj 0)), sk_mk S I)) ?_ ?_).trans ?_
  · intro k hk
    have hD := hV.2.2.1.1 k (by omega)
    rw [sk_e40_2]
    simp (disch := omega) only [pl_r0 hS ha, pl_r1 hS ha, pl_r2 hS ha, pl_r3 hS ha, pl_i4 hS ha, pl_u4 hS ha, pl_i5 hS ha, pl_u5 hS ha, pl_i6 hS ha, pl_u6 hS ha, pl_i7 hS ha, pl_u7 hS ha, pl_i8 hS ha, pl_u8 hS ha, pl_o hS ha, pl_p hS ha, po_a hS ha, po_s hS ha, po_n hS ha, ps_a hS ha, ps_s hS ha, ps_n hS ha, pw_r0 hS ha, pw_r1 hS ha, pw_r2 hS ha, pw_r3 hS ha, pw_i4 hS ha, pw_u4 hS ha, pw_o hS ha, pw0_a hS ha, pw0_s hS ha, pw0_n hS ha, pw1_a hS ha, pw1_s hS ha, pw1_n hS ha, pw2_a hS ha, pw2_s hS ha, pw2_n hS ha, pw3_a hS ha, pw3_s hS ha, pw3_n hS ha, pq_i0 hS ha, pq_u0 hS ha, pq_i1 hS ha, pq_u1 hS ha, pq_i2 hS ha, pq_u2 hS ha, pq_i3 hS ha, pq_u3 hS ha, pq_i4 hS ha, pq_u4 hS ha, pq_i5 hS ha, pq_u5 hS ha, pq_i6 hS ha, pq_u6 hS ha, pq_i7 hS ha, pq_u7 hS ha, pq_i8 hS ha, pq_u8 hS ha, pq_i9 hS ha, pq_u9 hS ha, pq_o hS ha, Option.bind_some, sk_ci_some, sk_cv_some, sk_cf_some, if_true, eq_self, ite_self, vc4 hv, vc5 hv, vc6 hv, vc7 hv, vc8 hv, vcz hv, vp0 hv, vp1 hv, vp2 hv, vp3 hv, vp4 hv, vp5 hv, vp6 hv, vp7 hv, vp8 hv, vp9 hv, vo_ hv, vs_ hv, vx0 hv, vx1 hv, vx2 hv, vx3 hv, Int.toNat_natCast, sj_add, sj_sub, sj_mul, sj_neg, sj_div, sj_ceq, sj_cne, sj_clt, sj_cge, sj_cgt, sj_cle, bi_ceq, bi_cne, bi_01, Int.natCast_add, Int.cast_ofNat_Int, ← Int.add_assoc]
    grind
  · rw [sk_e40_2]
    simp (disch := omega) only [pl_r0 hS ha, pl_r1 hS ha, pl_r2 hS ha, pl_r3 hS ha, pl_i4 hS ha, pl_u4 hS ha, pl_i5 hS ha, pl_u5 hS ha, pl_i6 hS ha, pl_u6 hS ha, pl_i7 hS ha, pl_u7 hS ha, pl_i8 hS ha, pl_u8 hS ha, pl_o hS ha, pl_p hS ha, po_a hS ha, po_s hS ha, po_n hS ha, ps_a hS ha, ps_s hS ha, ps_n hS ha, pw_r0 hS ha, pw_r1 hS ha, pw_r2 hS ha, pw_r3 hS ha, pw_i4 hS ha, pw_u4 hS ha, pw_o hS ha, pw0_a hS ha, pw0_s hS ha, pw0_n hS ha, pw1_a hS ha, pw1_s hS ha, pw1_n hS ha, pw2_a hS ha, pw2_s hS ha, pw2_n hS ha, pw3_a hS ha, pw3_s hS ha, pw3_n hS ha, pq_i0 hS ha, pq_u0 hS ha, pq_i1 hS ha, pq_u1 hS ha, pq_i2 hS ha, pq_u2 hS ha, pq_i3 hS ha, pq_u3 hS ha, pq_i4 hS ha, pq_u4 hS ha, pq_i5 hS ha, pq_u5 hS ha, pq_i6 hS ha, pq_u6 hS ha, pq_i7 hS ha, pq_u7 hS ha, pq_i8 hS ha, pq_u8 hS ha, pq_i9 hS ha, pq_u9 hS ha, pq_o hS ha, Option.bind_some, sk_ci_some, sk_cv_some, sk_cf_some, if_true, eq_self, ite_self, vc4 hv, vc5 hv, vc6 hv, vc7 hv, vc8 hv, vcz hv, vp0 hv, vp1 hv, vp2 hv, vp3 hv, vp4 hv, vp5 hv, vp6 hv, vp7 hv, vp8 hv, vp9 hv, vo_ hv, vs_ hv, vx0 hv, vx1 hv, vx2 hv, vx3 hv, Int.toNat_natCast, sj_add, sj_sub, sj_mul, sj_neg, sj_div, sj_ceq, sj_cne, sj_clt, sj_cge, sj_cgt, sj_cle, bi_ceq, bi_cne, bi_01]
    grind
  · exact some_ite _ Iff.rfl
def hasL (v : sk_H) : Bool := anyTo (v 0 1).toNat (fun p => decide (2 ≤ v 5 p))
theorem m41 {d : Nat} (hd : 2 ≤ d) (hS : sk_G S) (ha : sk_isP a) (hv : vC I a = v) (hV : VO v) : sk_c d 41 [.ref a] (sk_mk S I) = some (some (.int (sj (bi (hasL v)))), sk_mk S I) := by
  obtain ⟨n1, n2, n3, n4, n5, n6, n7, n8, n9, n10, n11, n12⟩ := hV.1
  obtain ⟨d, rfl⟩ : ∃ e, d = e + 1 := ⟨d - 1, by omega⟩; rw [sk_e41]
  refine (lp_any0 (fun k => sk_D41 d 2 [some (.ref a), some (.int (sj (k : Int)))] [] (sk_mk S I)) (fun p => decide (2 ≤ v 5 p)) (v 0 1).toNat (some (some (.int (sj 1)), sk_mk S I)) (some (some (.int (sj 0)), sk_mk S I)) ?_ ?_).trans ?_
  · intro k hk
    rw [sk_e41_2]
    simp (disch := omega) only [pl_r0 hS ha, pl_r1 hS ha, pl_r2 hS ha, pl_r3 hS ha, pl_i4 hS ha, pl_u4 hS ha, pl_i5 hS ha, pl_u5 hS ha, pl_i6 hS ha, pl_u6 hS ha, pl_i7 hS ha, pl_u7 hS ha, pl_i8 hS ha, pl_u8 hS ha, pl_o hS ha, pl_p hS ha, po_a hS ha, po_s hS ha, po_n hS ha, ps_a hS ha, ps_s hS ha, ps_n hS ha, pw_r0 hS ha, pw_r1 hS ha, pw_r2 hS ha, pw_r3 hS ha, pw_i4 hS ha, pw_u4 hS ha, pw_o hS ha, pw0_a hS ha, pw0_s hS ha, pw0_n hS ha, pw1_a hS ha, pw1_s hS ha, pw1_n hS ha, pw2_a hS ha, pw2_s hS ha, pw2_n hS ha, pw3_a hS ha, pw3_s hS ha, pw3_n hS ha, pq_i0 hS ha, pq_u0 hS ha, pq_i1 hS ha, pq_u1 hS ha, pq_i2 hS ha, pq_u2 hS ha, pq_i3 hS ha, pq_u3 hS ha, pq_i4 hS ha, pq_u4 hS ha, pq_i5 hS ha, pq_u5 hS ha, pq_i6 hS ha, pq_u6 hS ha, pq_i7 hS ha, pq_u7 hS ha, pq_i8 hS ha, pq_u8 hS ha, pq_i9 hS ha, pq_u9 hS ha, pq_o hS ha, Option.bind_some, sk_ci_some, sk_cv_some, sk_cf_some, if_true, eq_self, ite_self, vc4 hv, vc5 hv, vc6 hv, vc7 hv, vc8 hv, vcz hv, vp0 hv, vp1 hv, vp2 hv, vp3 hv, vp4 hv, vp5 hv, vp6 hv, vp7 hv, vp8 hv, vp9 hv, vo_ hv, vs_ hv, vx0 hv, vx1 hv, vx2 hv, vx3 hv, Int.toNat_natCast, sj_add, sj_sub, sj_mul, sj_neg, sj_div, sj_ceq, sj_cne, sj_clt, sj_cge, sj_cgt, sj_cle, bi_ceq, bi_cne, bi_01, Int.natCast_add, Int.cast_ofNat_Int, ← Int.add_assoc, p28 (v := v)]
    grind
  · rw [sk_e41_2]
    simp (disch := omega) only [pl_r0 hS ha, pl_r1 hS ha, pl_r2 hS ha, pl_r3 hS ha, pl_i4 hS ha, pl_u4 hS ha, pl_i5 hS ha, pl_u5 hS ha, pl_i6 hS ha, pl_u6 hS ha, pl_i7 hS ha, pl_u7 hS ha, pl_i8 hS ha, pl_u8 hS ha, pl_o hS ha, pl_p hS ha, po_a hS ha, po_s hS ha, po_n hS ha, ps_a hS ha, ps_s hS ha, ps_n hS ha, pw_r0 hS ha, pw_r1 hS ha, pw_r2 hS ha, pw_r3 hS ha, pw_i4 hS ha, pw_u4 hS ha, pw_o hS ha, pw0_a hS ha, pw0_s hS ha, pw0_n hS ha, pw1_a hS ha, pw1_s hS ha, pw1_n hS ha, pw2_a hS ha, pw2_s hS ha, pw2_n hS ha, pw3_a hS ha, pw3_s hS ha, pw3_n hS ha, pq_i0 hS ha, pq_u0 hS ha, pq_i1 hS ha, pq_u1 hS ha, pq_i2 hS ha, pq_u2 hS ha, pq_i3 hS ha, pq_u3 hS ha, pq_i4 hS ha, pq_u4 hS ha, pq_i5 hS ha, pq_u5 hS ha, pq_i6 hS ha, pq_u6 hS ha, pq_i7 hS ha, pq_u7 hS ha, pq_i8 hS ha, pq_u8 hS ha, pq_i9 hS ha, pq_u9 hS ha, pq_o hS ha, Option.bind_some, sk_ci_some, sk_cv_some, sk_cf_some, if_true, eq_self, ite_self, vc4 hv, vc5 hv, vc6 hv, vc7 hv, vc8 hv, vcz hv, vp0 hv, vp1 hv, vp2 hv, vp3 hv, vp4 hv, vp5 hv, vp6 hv, vp7 hv, vp8 hv, vp9 hv, vo_ hv, vs_ hv, vx0 hv, vx1 hv, vx2 hv, vx3 hv, Int.toNat_natCast, sj_add, sj_sub, sj_mul, sj_neg, sj_div, sj_ceq, sj_cne, sj_clt, sj_cge, sj_cgt, sj_cle, bi_ceq, bi_cne, bi_01]
    grind
  · exact some_ite _ Iff.rfl
end PLN
