/-! ===== bound ===== -/
section BND
variable {S : List sk_Sh} {I v : sk_H} {a : Nat}
def wgt (k j a W : Int) : Int := if k = 0 then a else if k = 2 then (if 2 * a ≤ W then 0 else 1) else if k = 7 then (if a ≤ W - j then (if a < j then 0 else a) else W) else if (k - 2 + 1) * a - (k - 2 + 1) * a / W * W ≠ 0 then (k - 2 + 1) * a / W * W else (k - 2) * a
theorem bd_X {k a : Int} (h1 : 3 ≤ k) (h2 : k ≤ 6) (a1 : 0 ≤ a) (a2 : a ≤ 20) : 0 ≤ (k - 2 + 1) * a ∧ (k - 2 + 1) * a ≤ 100 ∧ 0 ≤ (k - 2) * a ∧ (k - 2) * a ≤ 80 := by
  obtain rfl | rfl | rfl | rfl := (by omega : k = 3 ∨ k = 4 ∨ k = 5 ∨ k = 6) <;> omega
theorem bd_Y {k a : Int} (h1 : 3 ≤ k) (h2 : k ≤ 6) (a1 : 1 ≤ a) : 1 ≤ (k - 2) * a := by
  obtain rfl | rfl | rfl | rfl := (by omega : k = 3 ∨ k = 4 ∨ k = 5 ∨ k = 6) <;> omega
theorem bd_Z {X W : Int} (h : 0 ≤ X) (w : 1 ≤ W) : 0 ≤ X / W * W ∧ X / W * W ≤ X := ⟨Int.mul_nonneg (Int.ediv_nonneg h (by omega)) (by omega), Int.ediv_mul_le X (by omega)⟩
theorem wgt_rng {k j a W : Int} (k1 : 0 ≤ k) (k2 : k ≤ 7) (k3 : k ≠ 1) (a1 : 0 ≤ a) (a2 : a ≤ 20) (w1 : 1 ≤ W) (w2 : W ≤ 20) : 0 ≤ wgt k j a W ∧ wgt k j a W ≤ 100 := by
  unfold wgt
  by_cases c0 : k = 0
  · rw [if_pos c0]; omega
  rw [if_neg c0]
  by_cases c2 : k = 2
  · rw [if_pos c2]; split <;> omega
  rw [if_neg c2]
  by_cases c7 : k = 7
  · rw [if_pos c7]
    split
    · split <;> omega
    · omega
  rw [if_neg c7]
  obtain ⟨x1, x2, x3, x4⟩ := bd_X (k := k) (a := a) (by omega) (by omega) a1 a2
  obtain ⟨z1, z2⟩ := bd_Z (X := (k - 2 + 1) * a) (W := W) x1 w1
  split
  · exact ⟨z1, by omega⟩
  · exact ⟨x3, by omega⟩
theorem m7 {d : Nat} (hd : 1 ≤ d) {k : Int} (k1 : -2147483648 ≤ k) (k2 : k < 2147483648) {w : sk_W} : sk_c d 7 [.int (sj k)] w = some (some (.int (sj (bi (decide (3 ≤ k ∧ k ≤ 6))))), w) := by
  obtain ⟨d, rfl⟩ : ∃ e, d = e + 1 := ⟨d - 1, by omega⟩; rw [sk_e7]
  by_cases c : k ≤ 2
  · rw [if_pos (ky_le (by omega) (by omega) (by omega) (by omega) c), decide_eq_false (by omega)]; rfl
  · rw [if_neg (kn_le (by omega) (by omega) (by omega) (by omega) (by omega))]
    by_cases c6 : 6 < k
    · rw [if_pos (ky_gt (by omega) (by omega) (by omega) (by omega) c6), decide_eq_false (by omega)]; rfl
    · rw [if_neg (kn_gt (by omega) (by omega) (by omega) (by omega) (by omega)), decide_eq_true (by omega)]; rfl
theorem m8 {d : Nat} (hd : 1 ≤ d) {k : Int} {w : sk_W} : sk_c d 8 [.int (sj k)] w = some (some (.int (sj (k - 2))), w) := by
  obtain ⟨d, rfl⟩ : ∃ e, d = e + 1 := ⟨d - 1, by omega⟩; rw [sk_e8]
  rw [sj_sub]
theorem nz_ {W : Int} (w1 : 1 ≤ W) (w2 : W < 2147483648) : ¬ sj W = 0 := by
  rw [sj_v0 (by omega) (by omega)]; omega
theorem m9 {d : Nat} (hd : 2 ≤ d) {k j a W : Int} (k1 : 0 ≤ k) (k2 : k ≤ 7) (k3 : k ≠ 1) (j1 : 0 ≤ j) (j2 : j ≤ 20) (a1 : 0 ≤ a) (a2 : a ≤ 20) (w1 : 1 ≤ W) (w2 : W ≤ 20) {w : sk_W} : sk_c d 9 [.int (sj k), .int (sj j), .int (sj a), .int (sj W)] w = some (some (.int (sj (wgt k j a W))), w) := by
  obtain ⟨d, rfl⟩ : ∃ e, d = e + 1 := ⟨d - 1, by omega⟩; rw [sk_e9]
  unfold wgt
  by_cases c0 : k = 0
  · rw [if_neg (kn_ne c0), if_pos c0]
  rw [if_pos (ky_ne (by omega) (by omega) (by omega) (by omega) c0), if_neg c0]
  by_cases c2 : k = 2
  · rw [if_neg (kn_ne c2), if_pos c2, sj_mul]
    by_cases c : 2 * a ≤ W
    · rw [if_pos (ky_le (by omega) (by omega) (by omega) (by omega) c), if_pos c]
    · rw [if_neg (kn_le (by omega) (by omega) (by omega) (by omega) (by omega)), if_neg c]
  rw [if_pos (ky_ne (by omega) (by omega) (by omega) (by omega) c2), if_neg c2, m7 (by omega) (by omega) (by omega), sk_ci_some]
  by_cases c7 : k = 7
  · rw [decide_eq_false (by omega), if_pos cf_beq, if_pos c7, sj_sub]
    by_cases c : a ≤ W - j
    · rw [if_pos (ky_le (by omega) (by omega) (by omega) (by omega) c), if_pos c]
      by_cases e : a < j
      · rw [if_pos (ky_lt (by omega) (by omega) (by omega) (by omega) e), if_pos e]
      · rw [if_neg (kn_lt (by omega) (by omega) (by omega) (by omega) (by omega)), if_neg e]
    · rw [if_neg (kn_le (by omega) (by omega) (by omega) (by omega) (by omega)), if_neg c]
  rw [decide_eq_true (by omega), if_neg ct_beq, if_neg c7, m8 (by omega), sk_ci_some, if_neg (nz_ w1 (by omega))]
  obtain ⟨x1, x2, x3, x4⟩ := bd_X (k := k) (a := a) (by omega) (by omega) a1 a2
  obtain ⟨z1, z2⟩ := bd_Z (X := (k - 2 + 1) * a) (W := W) x1 w1
  rw [sj_add, sj_mul, sj_div x1 (by omega) (by omega) (by omega), sj_mul, sj_sub, sj_mul]
  generalize (k - 2 + 1) * a = X at *
  generalize X / W * W = Z at *
  by_cases c : X - Z = 0
  · rw [if_neg (kn_ne c), if_neg (fun h => h c)]
  · rw [if_pos (ky_ne (by omega) (by omega) (by omega) (by omega) c), if_neg (nz_ w1 (by omega)), if_pos c]
theorem m192 {d : Nat} (hd : 1 ≤ d) (hS : sk_G S) (hR : RP I 107 v) (hV : VO v) {k j x t : Int} (k1 : 0 ≤ k) (k2 : k ≤ 7) (k3 : k ≠ 1) (j1 : 0 ≤ j) (j2 : j ≤ 20) (a1 : 0 ≤ x) (a2 : x ≤ 20) : sk_c d 192 [.ref 105, .int (sj k), .int (sj j), .int (sj x), .int (sj t)] (sk_mk S I) = some (some (.int (sj (wgt k j x (v 0 0) * t))), sk_mk S I) := by
  obtain ⟨n1, n2, n3, n4, n5, n6, n7, n8, n9, n10, n11, n12⟩ := hV.1
  obtain ⟨d, rfl⟩ : ∃ e, d = e + 1 := ⟨d - 1, by omega⟩; rw [sk_e192]
  rw [g105_r1b hS, g107_ab hS (by omega) (by omega), rq0 hR]
  generalize v 0 0 = W at *
  unfold wgt
  by_cases c0 : k = 0
  · rw [if_neg (kn_ne c0), if_pos c0, sj_mul]
  rw [if_pos (ky_ne (by omega) (by omega) (by omega) (by omega) c0), if_neg c0]
  by_cases c2 : k = 2
  · rw [if_neg (kn_ne c2), if_pos c2, sj_mul]
    by_cases c : 2 * x ≤ W
    · rw [if_pos (ky_le (by omega) (by omega) (by omega) (by omega) c), if_pos c, Int.zero_mul]
    · rw [if_neg (kn_le (by omega) (by omega) (by omega) (by omega) (by omega)), if_neg c, Int.one_mul]
  rw [if_pos (ky_ne (by omega) (by omega) (by omega) (by omega) c2), if_neg c2]
  by_cases c7 : k = 7
  · rw [if_neg (kn_ne c7), if_pos c7, sj_sub]
    by_cases c : x ≤ W - j
    · rw [if_pos (ky_le (by omega) (by omega) (by omega) (by omega) c), if_pos c]
      by_cases e : x < j
      · rw [if_pos (ky_lt (by omega) (by omega) (by omega) (by omega) e), if_pos e, sj_mul]
      · rw [if_neg (kn_lt (by omega) (by omega) (by omega) (by omega) (by omega)), if_neg e, sj_mul]
    · rw [if_neg (kn_le (by omega) (by omega) (by omega) (by omega) (by omega)), if_neg c, sj_mul]
  rw [if_pos (ky_ne (by omega) (by omega) (by omega) (by omega) c7), if_neg c7, if_neg (nz_ (by omega) (by omega))]
  obtain ⟨x1, x2, x3, x4⟩ := bd_X (k := k) (a := x) (by omega) (by omega) a1 a2
  obtain ⟨z1, z2⟩ := bd_Z (X := (k - 2 + 1) * x) (W := W) x1 (by omega)
  rw [sj_sub, sj_add, sj_mul, sj_div x1 (by omega) (by omega) (by omega), sj_mul, sj_sub, sj_mul, sj_mul, sj_mul]
  generalize (k - 2 + 1) * x = X at *
  generalize X / W * W = Z at *
  by_cases c : X - Z = 0
  · rw [if_neg (kn_ne c), if_neg (fun h => h c)]
  · rw [if_pos (ky_ne (by omega) (by omega) (by omega) (by omega) c), if_neg (nz_ (by omega) (by omega)), if_pos c]
/-- what one piece brings in -/
def pwB (v : sk_H) (k j : Int) (p : Nat) : Int :=
  if v 5 p = 1 then wgt k j (acr v p 0) (v 0 0) * tal v p 0
  else if twoW v p = true then (if wgt k j (acr v p 1) (v 0 0) * tal v p 1 < wgt k j (acr v p 0) (v 0 0) * tal v p 0 then wgt k j (acr v p 1) (v 0 0) * tal v p 1 else wgt k j (acr v p 0) (v 0 0) * tal v p 0)
  else wgt k j (acr v p 0) (v 0 0) * tal v p 0
def inB (v : sk_H) (p : Nat) : Bool := decide (v 5 p = 1) || inOrd v p
theorem inB_1 {v : sk_H} {p : Nat} (c : v 5 p = 1) : inB v p = true := by unfold inB; rw [decide_eq_true c]; rfl
theorem inB_2 {v : sk_H} {p : Nat} (c : inOrd v p = true) : inB v p = true := by unfold inB; rw [c, Bool.or_true]
theorem inB_0 {v : sk_H} {p : Nat} (c : ¬ v 5 p = 1) (h : inOrd v p = false) : ¬ inB v p = true := by unfold inB; rw [decide_eq_false c, h]; decide
def smB (v : sk_H) (k j : Int) (n : Nat) : Int := sumTo n (fun p => if inB v p = true then pwB v k j p else 0)
theorem wt_rng {v : sk_H} (hV : VO v) {k j : Int} (k1 : 0 ≤ k) (k2 : k ≤ 7) (k3 : k ≠ 1) {p : Nat} (hp : (p : Int) < v 0 1) {o : Int} : 0 ≤ wgt k j (acr v p o) (v 0 0) * tal v p o ∧ wgt k j (acr v p o) (v 0 0) * tal v p o ≤ 2100 := by
  obtain ⟨n1, n2, n3, n4, n5, n6, n7, n8, n9, n10, n11, n12⟩ := hV.1
  have ac := acr_rng hV.1 (vo_p hV hp) o
  have tc := tal_rng hV.1 (vo_p hV hp) o
  have h := wgt_rng (j := j) k1 k2 k3 (a := acr v p o) (by omega) (by omega) n1 n2
  refine ⟨Int.mul_nonneg h.1 (by omega), ?_⟩
  have := Int.mul_le_mul h.2 tc.2 (by omega) (by omega)
  omega
theorem pwB_rng {v : sk_H} (hV : VO v) {k j : Int} (k1 : 0 ≤ k) (k2 : k ≤ 7) (k3 : k ≠ 1) {p : Nat} (hp : (p : Int) < v 0 1) : 0 ≤ pwB v k j p ∧ pwB v k j p ≤ 2100 := by
  unfold pwB
  have h0 := wt_rng hV (j := j) k1 k2 k3 hp (o := 0)
  have h1 := wt_rng hV (j := j) k1 k2 k3 hp (o := 1)
  split
  · exact h0
  · split
    · split
      · exact h1
      · exact h0
    · exact h0
theorem smB_rng {v : sk_H} (hV : VO v) {k j : Int} (k1 : 0 ≤ k) (k2 : k ≤ 7) (k3 : k ≠ 1) {n : Nat} (hn : (n : Int) ≤ v 0 1) : 0 ≤ smB v k j n ∧ smB v k j n ≤ 21000 := by
  obtain ⟨n1, n2, n3, n4, n5, n6, n7, n8, n9, n10, n11, n12⟩ := hV.1
  have h := sumTo_rng (n := n) (f := fun p => if inB v p = true then pwB v k j p else 0) (lo := 0) (hi := 2100) (by omega) (by omega) (fun p hp => by
    have := pwB_rng hV (j := j) k1 k2 k3 (p := p) (by omega)
    split <;> omega)
  unfold smB
  omega
def dvB (k W : Int) : Int := if k = 2 then 1 else if 3 ≤ k ∧ k ≤ 6 then (k - 2) * W else W
theorem dvB_rng {k W : Int} (w1 : 1 ≤ W) (w2 : W ≤ 20) : 1 ≤ dvB k W ∧ dvB k W ≤ 80 := by
  unfold dvB
  split
  · omega
  · split
    · obtain rfl | rfl | rfl | rfl := (by omega : k = 3 ∨ k = 4 ∨ k = 5 ∨ k = 6) <;> omega
    · omega
def tgB (v : sk_H) (k j : Int) : Int := (smB v k j (v 0 1).toNat + dvB k (v 0 0) - 1) / dvB k (v 0 0)
theorem tgB_rng {v : sk_H} (hV : VO v) {k j : Int} (k1 : 0 ≤ k) (k2 : k ≤ 7) (k3 : k ≠ 1) : 0 ≤ tgB v k j ∧ tgB v k j ≤ 30000 := by
  obtain ⟨n1, n2, n3, n4, n5, n6, n7, n8, n9, n10, n11, n12⟩ := hV.1
  have h := smB_rng hV (j := j) k1 k2 k3 (n := (v 0 1).toNat) (by omega)
  have hd := dvB_rng (k := k) n1 n2
  unfold tgB
  have h1 := Int.ediv_nonneg (a := smB v k j (v 0 1).toNat + dvB k (v 0 0) - 1) (b := dvB k (v 0 0)) (by omega) (by omega)
  have h2 := Int.ediv_le_self (a := smB v k j (v 0 1).toNat + dvB k (v 0 0) - 1) (dvB k (v 0 0)) (by omega)
  omega
theorem m6 {d : Nat} (hd : 9 ≤ d) (hS : sk_G S) (ha : sk_isP a) (hv : vC I a = v) (hV : VO v) {k j : Int} (k1 : 0 ≤ k) (k2 : k ≤ 7) (k3 : k ≠ 1) (j1 : 0 ≤ j) (j2 : j ≤ 20) : sk_c d 6 [.ref a, .int (sj k), .int (sj j)] (sk_mk S I) = some (some (.int (sj (tgB v k j))), sk_mk S I) := by
  obtain ⟨n1, n2, n3, n4, n5, n6, n7, n8, n9, n10, n11, n12⟩ := hV.1
  obtain ⟨d, rfl⟩ : ∃ e, d = e + 1 := ⟨d - 1, by omega⟩; rw [sk_e6]
  have key := lp_run (fun p (X : Option sk_R) => ∃ o5 o6, X = sk_D6 d 5 [some (.ref a), some (.int (sj k)), some (.int (sj j)), some (.int (sj (smB v k j p))), some (.int (sj (p : Int))), o5, o6] [] (sk_mk S I)) (v 0 1).toNat (fun p X hp hX => by
    obtain ⟨o5, o6, rfl⟩ := hX
    have hp2 : (p : Int) < v 0 1 := by omega
    have hp10 : p < 10 := by omega
    have t2 : (p : Int) + 1 = ((p + 1 : Nat) : Int) := rfl
    have v5 := vo_p hV hp2
    have ac0 := acr_rng hV.1 v5 0
    have ac1 := acr_rng hV.1 v5 1
    have w0 := wt_rng hV (j := j) k1 k2 k3 hp2 (o := 0)
    have w1 := wt_rng hV (j := j) k1 k2 k3 hp2 (o := 1)
    have e0 : v 2 p = acr v p 0 := (if_pos rfl).symm
    have e1 : v 3 p = acr v p 1 := (if_neg (by decide)).symm
    have h5 : 0 ≤ v 5 p ∧ v 5 p ≤ 3 := by obtain ⟨-, -, -, -, -, -, -, -, q1, q2, -⟩ := v5; exact ⟨q1, q2⟩
    rw [sk_e6_5, pl_i5b hS ha, vc5 hv, if_neg (kn_ge (by omega) (by omega) (by omega) (by omega) (by omega)), pl_r0b hS ha, pl_pb hS ha (by omega) (by omega), Int.toNat_natCast, pq_i4b hS ha hp10, vp4 hv hp10]
    have e44 : ∀ o6 : Option Value, inB v p = true → ∃ o5 o6', sk_D6 d 44 [some (.ref a), some (.int (sj k)), some (.int (sj j)), some (.int (sj (smB v k j p))), some (.int (sj (p : Int))), some (.ref (a + 9 + p)), o6] [] (sk_mk S I) = sk_D6 d 5 [some (.ref a), some (.int (sj k)), some (.int (sj j)), some (.int (sj (smB v k j (p + 1)))), some (.int (sj ((p + 1 : Nat) : Int))), o5, o6'] [] (sk_mk S I) := by
      intro o6 hin
      have es : smB v k j (p + 1) = smB v k j p + pwB v k j p := by
        unfold smB
        rw [sumTo_succ, if_pos hin]
      rw [es]
      unfold pwB
      rw [sk_e6_44, pq_i1b hS ha hp10, vp1 hv hp10, pl_i4b hS ha, vc4 hv, e0, m9 (by omega) k1 k2 k3 j1 j2 (by omega) (by omega) n1 n2, sk_ci_some, pq_ob hS ha hp10, p32 (by omega) hS ha hv hV hp2 (Or.inl rfl), sk_ci_some, pq_i4b hS ha hp10, vp4 hv hp10]
      by_cases c : v 5 p = 1
      · rw [if_pos (ky_eq c), if_pos c, sj_mul, sj_add, sj_add, t2]
        exact ⟨_, _, rfl⟩
      · rw [if_neg (kn_eq (by omega) (by omega) (by omega) (by omega) c), if_neg c, pl_i4b hS ha, vc4 hv, pq_ob hS ha hp10, p30 (by omega) hS ha hv hV hp2, sk_ci_some]
        cases htw : twoW v p with
        | false =>
          rw [if_neg (show ¬ (false = true) by simp), if_neg (show ¬ (false = true) by simp), if_pos (by decide), sj_mul, sj_add, sj_add, t2]
          exact ⟨_, _, rfl⟩
        | true =>
          rw [if_pos (show (true = true) from rfl), if_pos (show (true = true) from rfl), if_neg (by decide), pq_i2b hS ha hp10, vp2 hv hp10, pl_i4b hS ha, vc4 hv, e1, m9 (by omega) k1 k2 k3 j1 j2 (by omega) (by omega) n1 n2, sk_ci_some, pq_ob hS ha hp10, p32 (by omega) hS ha hv hV hp2 (Or.inr rfl), sk_ci_some, sj_mul, sj_mul, m240 (by omega) (by omega) (by omega) (by omega) (by omega), sk_ci_some, sj_add, sj_add, t2]
          exact ⟨_, _, rfl⟩
    by_cases c : v 5 p = 1
    · rw [if_pos (ky_eq c)]
      exact e44 _ (inB_1 c)
    · rw [if_neg (kn_eq (by omega) (by omega) (by omega) (by omega) c), pl_ob hS ha, m40 (by omega) hS ha hv hV (by omega) (by omega), sk_ci_some]
      cases ho : inOrd v p with
      | true =>
        rw [if_pos ct_bne]
        exact e44 _ (inB_2 ho)
      | false =>
        have es : smB v k j (p + 1) = smB v k j p := by
          unfold smB
          rw [sumTo_succ, if_neg (inB_0 c ho), Int.add_zero]
        rw [if_neg cf_bne, sj_add, t2, es]
        exact ⟨_, _, rfl⟩) ⟨none, none, rfl⟩
  obtain ⟨o5, o6, e⟩ := key
  have sr := smB_rng hV (j := j) k1 k2 k3 (n := (v 0 1).toNat) (by omega)
  refine e.trans ?_
  rw [sk_e6_5, pl_i5b hS ha, vc5 hv, if_pos (ky_ge (by omega) (by omega) (by omega) (by omega) (by omega))]
  unfold tgB dvB
  generalize smB v k j (v 0 1).toNat = T at *
  by_cases c2 : k = 2
  · rw [if_neg (kn_ne c2), if_pos c2, sk_e6_141, m7 (by omega) (by omega) (by omega), decide_eq_false (by omega), sk_ci_some, if_pos cf_beq, if_neg (nz_ (by omega) (by omega)), sj_add, sj_sub, sj_div (by omega) (by omega) (by omega) (by omega)]
  · rw [if_pos (ky_ne (by omega) (by omega) (by omega) (by omega) c2), if_neg c2, pl_i4b hS ha, vc4 hv, sk_e6_141, m7 (by omega) (by omega) (by omega), sk_ci_some]
    by_cases c3 : 3 ≤ k ∧ k ≤ 6
    · have x := bd_X (k := k) (a := v 0 0) c3.1 c3.2 (by omega) n2
      have y : 1 ≤ (k - 2) * v 0 0 := bd_Y c3.1 c3.2 n1
      rw [decide_eq_true c3, if_neg ct_beq, if_pos c3, m8 (by omega), sk_ci_some, pl_i4b hS ha, vc4 hv, sj_mul, if_neg (nz_ y (by omega)), sj_add, sj_sub, sj_div (by omega) (by omega) (by omega) (by omega)]
    · rw [decide_eq_false c3, if_pos cf_beq, if_neg c3, if_neg (nz_ n1 (by omega)), sj_add, sj_sub, sj_div (by omega) (by omega) (by omega) (by omega)]
theorem m193 {d : Nat} (hd : 3 ≤ d) (hS : sk_G S) (hR : RP I 107 v) (hV : VO v) {k j : Int} (k1 : 0 ≤ k) (k2 : k ≤ 7) (k3 : k ≠ 1) (j1 : 0 ≤ j) (j2 : j ≤ 20) : sk_c d 193 [.ref 105, .int (sj k), .int (sj j)] (sk_mk S I) = some (some (.int (sj (smB v k j (v 0 1).toNat))), sk_mk S I) := by
  obtain ⟨n1, n2, n3, n4, n5, n6, n7, n8, n9, n10, n11, n12⟩ := hV.1
  obtain ⟨d, rfl⟩ : ∃ e, d = e + 1 := ⟨d - 1, by omega⟩; rw [sk_e193]
  have key := lp_run (fun p (X : Option sk_R) => ∃ o5 o6, X = sk_D193 d 5 [some (.ref 105), some (.int (sj k)), some (.int (sj j)), some (.int (sj (smB v k j p))), some (.int (sj (p : Int))), o5, o6] [] (sk_mk S I)) (v 0 1).toNat (fun p X hp hX => by
    obtain ⟨o5, o6, rfl⟩ := hX
    have hp2 : (p : Int) < v 0 1 := by omega
    have t2 : (p : Int) + 1 = ((p + 1 : Nat) : Int) := rfl
    have v5 := vo_p hV hp2
    have ac0 := acr_rng hV.1 v5 0
    have ac1 := acr_rng hV.1 v5 1
    have w0 := wt_rng hV (j := j) k1 k2 k3 hp2 (o := 0)
    have w1 := wt_rng hV (j := j) k1 k2 k3 hp2 (o := 1)
    have h5 : 0 ≤ v 5 p ∧ v 5 p ≤ 3 := by obtain ⟨-, -, -, -, -, -, -, -, q1, q2, -⟩ := v5; exact ⟨q1, q2⟩
    have z1 : (1 : Int).toNat = 1 := rfl
    have q1 : I 107 1 = v 0 1 := hR.1 1 (by omega)
    have q77 : I 107 (77 + (p : Int)).toNat = v 5 p := by
      rw [show (77 + (p : Int)).toNat = 77 + p by omega]; exact (hR.2.1 p hp2).2.2.2.2.1
    rw [sk_e193_5, g105_r1b hS, g107_ab hS (by omega) (by omega), z1, q1, if_neg (kn_ge (by omega) (by omega) (by omega) (by omega) (by omega)), g105_r1b hS, sj_add, g107_ab hS (by omega) (by omega), q77]
    have e54 : ∀ (x : Int) (o6 : Option Value), (x ≠ 0 ↔ v 5 p = 1) → (x = 0 ∨ x = 1) → inB v p = true → ∃ o5 o6', sk_D193 d 54 [some (.ref 105), some (.int (sj k)), some (.int (sj j)), some (.int (sj (smB v k j p))), some (.int (sj (p : Int))), some (.int (sj x)), o6] [] (sk_mk S I) = sk_D193 d 5 [some (.ref 105), some (.int (sj k)), some (.int (sj j)), some (.int (sj (smB v k j (p + 1)))), some (.int (sj ((p + 1 : Nat) : Int))), o5, o6'] [] (sk_mk S I) := by
      intro x o6 hx hx2 hin
      have es : smB v k j (p + 1) = smB v k j p + pwB v k j p := by
        unfold smB
        rw [sumTo_succ, if_pos hin]
      rw [es]
      unfold pwB
      rw [sk_e193_54, g105_ob hS, m151 (by omega) hS hR hV hp2 (Or.inl rfl), sk_ci_some, g105_ob hS, m152 (by omega) hS hR hV hp2 (Or.inl rfl), sk_ci_some, g105_ob hS, m192 (by omega) hS hR hV k1 k2 k3 j1 j2 (by omega) (by omega), sk_ci_some]
      by_cases c : v 5 p = 1
      · rw [if_pos (ky_ne (by omega) (by omega) (by omega) (by omega) (hx.mpr c)), if_pos c, sj_add, sj_add, t2]
        exact ⟨_, _, rfl⟩
      · have x0 : x = 0 := by
          by_cases h : x = 0
          · exact h
          · exact absurd (hx.mp h) c
        rw [if_neg (kn_ne x0), if_neg c, g105_ob hS, m150 (by omega) hS hR hV hp2, sk_ci_some]
        cases htw : twoW v p with
        | false =>
          rw [if_pos cf_beq, if_neg (show ¬ (false = true) by simp), sj_add, sj_add, t2]
          exact ⟨_, _, rfl⟩
        | true =>
          rw [if_neg ct_beq, if_pos (show (true = true) from rfl), g105_ob hS, m151 (by omega) hS hR hV hp2 (Or.inr rfl), sk_ci_some, g105_ob hS, m152 (by omega) hS hR hV hp2 (Or.inr rfl), sk_ci_some, g105_ob hS, m192 (by omega) hS hR hV k1 k2 k3 j1 j2 (by omega) (by omega), sk_ci_some, m240 (by omega) (by omega) (by omega) (by omega) (by omega), sk_ci_some, sj_add, sj_add, t2]
          exact ⟨_, _, rfl⟩
    by_cases c : v 5 p = 1
    · rw [if_neg (kn_ne c), if_pos (by decide)]
      exact e54 1 _ ⟨fun _ => c, fun _ => by decide⟩ (Or.inr rfl) (inB_1 c)
    · rw [if_pos (ky_ne (by omega) (by omega) (by omega) (by omega) c), if_neg (by decide), g105_ob hS, m168 (by omega) hS hR hV (by omega) (by omega), sk_ci_some]
      cases ho : inOrd v p with
      | true =>
        rw [if_pos ct_bne]
        exact e54 0 _ ⟨fun h => absurd rfl h, fun h => absurd h c⟩ (Or.inl rfl) (inB_2 ho)
      | false =>
        have es : smB v k j (p + 1) = smB v k j p := by
          unfold smB
          rw [sumTo_succ, if_neg (inB_0 c ho), Int.add_zero]
        rw [if_neg cf_bne, sj_add, t2, es]
        exact ⟨_, _, rfl⟩) ⟨none, none, rfl⟩
  obtain ⟨o5, o6, e⟩ := key
  have z1 : (1 : Int).toNat = 1 := rfl
  have q1 : I 107 1 = v 0 1 := hR.1 1 (by omega)
  refine e.trans ?_
  rw [sk_e193_5, g105_r1b hS, g107_ab hS (by omega) (by omega), z1, q1, if_pos (ky_ge (by omega) (by omega) (by omega) (by omega) (by omega))]
/-- the tallest of all that stand and wait -/
def mxB (v : sk_H) (n : Nat) : Int := fld n (fun p s => if v 5 p = 1 then (if s < v 7 p + tal v p 0 then v 7 p + tal v p 0 else s) else if inOrd v p = true then (if twoW v p = true then (if s < (if tal v p 1 < tal v p 0 then tal v p 1 else tal v p 0) then (if tal v p 1 < tal v p 0 then tal v p 1 else tal v p 0) else s) else (if s < tal v p 0 then tal v p 0 else s)) else s) 0
theorem mxB_rng {v : sk_H} (hV : VO v) {n : Nat} (hn : (n : Int) ≤ v 0 1) : 0 ≤ mxB v n ∧ mxB v n ≤ 400 := by
  unfold mxB
  refine fld_inv (fun _ (s : Int) => 0 ≤ s ∧ s ≤ 400) (fun p s hp hs => ?_) ⟨by omega, by omega⟩
  have t0 := tal_rng hV.1 (vo_p hV (p := p) (by omega)) 0
  have t1 := tal_rng hV.1 (vo_p hV (p := p) (by omega)) 1
  obtain ⟨-, -, -, -, -, -, -, -, q1, q2, -, q3, -⟩ := vo_p hV (p := p) (by omega)
  by_cases c : v 5 p = 1
  · have := q3 (by omega)
    rw [if_pos c]
    split <;> omega
  · rw [if_neg c]
    split
    · split
      · split
        · split <;> omega
        · omega
      · split <;> omega
    · exact hs
theorem mxB_succ (v : sk_H) (n : Nat) : mxB v (n + 1) = if v 5 n = 1 then (if mxB v n < v 7 n + tal v n 0 then v 7 n + tal v n 0 else mxB v n) else if inOrd v n = true then (if twoW v n = true then (if mxB v n < (if tal v n 1 < tal v n 0 then tal v n 1 else tal v n 0) then (if tal v n 1 < tal v n 0 then tal v n 1 else tal v n 0) else mxB v n) else (if mxB v n < tal v n 0 then tal v n 0 else mxB v n)) else mxB v n := rfl
theorem m5 {d : Nat} (hd : 9 ≤ d) (hS : sk_G S) (ha : sk_isP a) (hv : vC I a = v) (hV : VO v) : sk_c d 5 [.ref a] (sk_mk S I) = some (some (.int (sj (mxB v (v 0 1).toNat))), sk_mk S I) := by
  obtain ⟨n1, n2, n3, n4, n5, n6, n7, n8, n9, n10, n11, n12⟩ := hV.1
  obtain ⟨d, rfl⟩ : ∃ e, d = e + 1 := ⟨d - 1, by omega⟩; rw [sk_e5]
  have key := lp_run (fun p (X : Option sk_R) => ∃ o5 o6, X = sk_D5 d 4 [some (.ref a), some (.int (sj (mxB v p))), some (.int (sj (p : Int))), o5, o6] [] (sk_mk S I)) (v 0 1).toNat (fun p X hp hX => by
    obtain ⟨o5, o6, rfl⟩ := hX
    have hp2 : (p : Int) < v 0 1 := by omega
    have hp10 : p < 10 := by omega
    have t2 : (p : Int) + 1 = ((p + 1 : Nat) : Int) := rfl
    have v5 := vo_p hV hp2
    have t0 := tal_rng hV.1 v5 0
    have t1 := tal_rng hV.1 v5 1
    have mr := mxB_rng hV (n := p) (by omega)
    obtain ⟨-, -, -, -, -, -, -, -, q1, q2, -, q3, q4⟩ := v5
    rw [sk_e5_4, pl_i5b hS ha, vc5 hv, if_neg (kn_ge (by omega) (by omega) (by omega) (by omega) (by omega)), pl_r0b hS ha, pl_pb hS ha (by omega) (by omega), Int.toNat_natCast, pq_i4b hS ha hp10, vp4 hv hp10, mxB_succ]
    by_cases c : v 5 p = 1
    · obtain ⟨g1, g2, g3, g4, g5, g6⟩ := q3 (by omega)
      have g8 := (q4 c).1
      rw [g8] at g6
      rw [if_neg (kn_ne c), if_pos c, pq_i6b hS ha hp10, vp6 hv hp10, pq_i9b hS ha hp10, vp9 hv hp10, g6, sj_add, m239 (by omega) (by omega) (by omega) (by omega) (by omega), sk_ci_some, sj_add, t2]
      exact ⟨_, _, rfl⟩
    · rw [if_pos (ky_ne (by omega) (by omega) (by omega) (by omega) c), if_neg c, pl_ob hS ha, m40 (by omega) hS ha hv hV (by omega) (by omega), sk_ci_some]
      cases ho : inOrd v p with
      | false =>
        rw [if_pos cf_beq, if_neg (show ¬ (false = true) by simp), sj_add, t2]
        exact ⟨_, _, rfl⟩
      | true =>
        rw [if_neg ct_beq, if_pos (show (true = true) from rfl), pq_ob hS ha hp10, p32 (by omega) hS ha hv hV hp2 (Or.inl rfl), sk_ci_some, pl_i4b hS ha, vc4 hv, pq_ob hS ha hp10, p30 (by omega) hS ha hv hV hp2, sk_ci_some]
        cases htw : twoW v p with
        | false =>
          rw [if_neg (show ¬ (false = true) by simp), if_neg (show ¬ (false = true) by simp), if_pos (by decide), m239 (by omega) (by omega) (by omega) (by omega) (by omega), sk_ci_some, sj_add, t2]
          exact ⟨_, _, rfl⟩
        | true =>
          rw [if_pos (show (true = true) from rfl), if_pos (show (true = true) from rfl), if_neg (by decide), pq_ob hS ha hp10, p32 (by omega) hS ha hv hV hp2 (Or.inr rfl), sk_ci_some, m240 (by omega) (by omega) (by omega) (by omega) (by omega), sk_ci_some, m239 (by omega) (by omega) (by omega) (by split <;> omega) (by split <;> omega), sk_ci_some, sj_add, t2]
          exact ⟨_, _, rfl⟩) ⟨none, none, rfl⟩
  obtain ⟨o5, o6, e⟩ := key
  refine e.trans ?_
  rw [sk_e5_4, pl_i5b hS ha, vc5 hv, if_pos (ky_ge (by omega) (by omega) (by omega) (by omega) (by omega))]
theorem m194 {d : Nat} (hd : 3 ≤ d) (hS : sk_G S) (hR : RP I 107 v) (hV : VO v) : sk_c d 194 [.ref 105] (sk_mk S I) = some (some (.int (sj (mxB v (v 0 1).toNat))), sk_mk S I) := by
  obtain ⟨n1, n2, n3, n4, n5, n6, n7, n8, n9, n10, n11, n12⟩ := hV.1
  obtain ⟨d, rfl⟩ : ∃ e, d = e + 1 := ⟨d - 1, by omega⟩; rw [sk_e194]
  have z1 : (1 : Int).toNat = 1 := rfl
  have q1 : I 107 1 = v 0 1 := hR.1 1 (by omega)
  have key := lp_run (fun p (X : Option sk_R) => X = sk_D194 d 4 [some (.ref 105), some (.int (sj (mxB v p))), some (.int (sj (p : Int)))] [] (sk_mk S I)) (v 0 1).toNat (fun p X hp hX => by
    subst hX
    have hp2 : (p : Int) < v 0 1 := by omega
    have t2 : (p : Int) + 1 = ((p + 1 : Nat) : Int) := rfl
    have v5 := vo_p hV hp2
    have t0 := tal_rng hV.1 v5 0
    have t1 := tal_rng hV.1 v5 1
    have mr := mxB_rng hV (n := p) (by omega)
    obtain ⟨-, -, -, -, -, -, -, -, h1, h2, -, q3, q4⟩ := v5
    have q77 : I 107 (77 + (p : Int)).toNat = v 5 p := by
      rw [show (77 + (p : Int)).toNat = 77 + p by omega]; exact (hR.2.1 p hp2).2.2.2.2.1
    rw [sk_e194_4, g105_r1b hS, g107_ab hS (by omega) (by omega), z1, q1, if_neg (kn_ge (by omega) (by omega) (by omega) (by omega) (by omega)), g105_r1b hS, sj_add, g107_ab hS (by omega) (by omega), q77, mxB_succ]
    by_cases c : v 5 p = 1
    · obtain ⟨g1, g2, g3, g4, g5, g6⟩ := q3 (by omega)
      have q57 : I 107 (57 + (p : Int)).toNat = v 7 p := by
        have h := ry_ hR (p := p) (by omega) hp2 (by rw [Int.toNat_natCast]; omega)
        rwa [Int.toNat_natCast] at h
      rw [if_neg (kn_ne c), if_pos c, g105_r1b hS, sj_add, g107_ab hS (by omega) (by omega), q57, g105_ob hS, m152 (by omega) hS hR hV hp2 (Or.inl rfl), sk_ci_some, sj_add, m239 (by omega) (by omega) (by omega) (by omega) (by omega), sk_ci_some, sj_add, t2]
    · rw [if_pos (ky_ne (by omega) (by omega) (by omega) (by omega) c), if_neg c, g105_ob hS, m168 (by omega) hS hR hV (by omega) (by omega), sk_ci_some]
      cases ho : inOrd v p with
      | false =>
        rw [if_pos cf_beq, if_neg (show ¬ (false = true) by simp), sj_add, t2]
      | true =>
        rw [if_neg ct_beq, if_pos (show (true = true) from rfl), g105_ob hS, m150 (by omega) hS hR hV hp2, sk_ci_some]
        cases htw : twoW v p with
        | false =>
          rw [if_pos cf_beq, if_neg (show ¬ (false = true) by simp), g105_ob hS, m152 (by omega) hS hR hV hp2 (Or.inl rfl), sk_ci_some, m239 (by omega) (by omega) (by omega) (by omega) (by omega), sk_ci_some, sj_add, t2]
        | true =>
          rw [if_neg ct_beq, if_pos (show (true = true) from rfl), g105_ob hS, m152 (by omega) hS hR hV hp2 (Or.inl rfl), sk_ci_some, g105_ob hS, m152 (by omega) hS hR hV hp2 (Or.inr rfl), sk_ci_some, m240 (by omega) (by omega) (by omega) (by omega) (by omega), sk_ci_some, m239 (by omega) (by omega) (by omega) (by split <;> omega) (by split <;> omega), sk_ci_some, sj_add, t2]) rfl
  refine key.trans ?_
  rw [sk_e194_4, g105_r1b hS, g107_ab hS (by omega) (by omega), z1, q1, if_pos (ky_ge (by omega) (by omega) (by omega) (by omega) (by omega))]
def b7B (v : sk_H) (n : Nat) : Int := maxTo n (fun i => tgB v 7 ((i : Int) + 1)) 0
def b1B (v : sk_H) (k : Int) : Int := if k = 1 then mxB v (v 0 1).toNat else if k = 7 then b7B v (v 0 0 / 2).toNat else tgB v k 0
def b8B (v : sk_H) (n : Nat) : Int := maxTo n (fun i => b1B v i) 0
theorem mxT_rng {n : Nat} {f : Nat → Int} {s lo hi : Int} (hs : lo ≤ s ∧ s ≤ hi) (h : ∀ k, k < n → lo ≤ f k ∧ f k ≤ hi) : lo ≤ maxTo n f s ∧ maxTo n f s ≤ hi :=
  fld_inv (fun _ (x : Int) => lo ≤ x ∧ x ≤ hi) (fun k x hk hx => by
    have := h k hk
    split <;> omega) hs
theorem b7B_rng {v : sk_H} (hV : VO v) (n : Nat) : 0 ≤ b7B v n ∧ b7B v n ≤ 30000 := mxT_rng ⟨by omega, by omega⟩ (fun _ _ => tgB_rng hV (by omega) (by omega) (by omega))
theorem b1B_rng {v : sk_H} (hV : VO v) {k : Int} (k1 : 0 ≤ k) (k2 : k ≤ 7) : 0 ≤ b1B v k ∧ b1B v k ≤ 30000 := by
  obtain ⟨n1, n2, n3, n4, n5, n6, n7, n8, n9, n10, n11, n12⟩ := hV.1
  unfold b1B
  split
  · have := mxB_rng hV (n := (v 0 1).toNat) (by omega); omega
  · split
    · exact b7B_rng hV _
    · exact tgB_rng hV k1 k2 (by assumption)
theorem b8B_rng {v : sk_H} (hV : VO v) {n : Nat} (hn : n ≤ 8) : 0 ≤ b8B v n ∧ b8B v n ≤ 30000 := mxT_rng ⟨by omega, by omega⟩ (fun i hi => b1B_rng hV (by omega) (by omega))
theorem m4 {d : Nat} (hd : 10 ≤ d) (hS : sk_G S) (ha : sk_isP a) (hv : vC I a = v) (hV : VO v) {k : Int} (k1 : 0 ≤ k) (k2 : k ≤ 7) : sk_c d 4 [.ref a, .int (sj k)] (sk_mk S I) = some (some (.int (sj (b1B v k))), sk_mk S I) := by
  obtain ⟨n1, n2, n3, n4, n5, n6, n7, n8, n9, n10, n11, n12⟩ := hV.1
  obtain ⟨d, rfl⟩ : ∃ e, d = e + 1 := ⟨d - 1, by omega⟩; rw [sk_e4]
  unfold b1B
  by_cases c1 : k = 1
  · rw [if_neg (kn_ne c1), if_pos c1, m5 (by omega) hS ha hv hV, sk_ci_some]
  rw [if_pos (ky_ne (by omega) (by omega) (by omega) (by omega) c1), if_neg c1]
  by_cases c7 : k = 7
  rotate_left
  · rw [if_neg (kn_eq (by omega) (by omega) (by omega) (by omega) c7), if_neg c7, m6 (by omega) hS ha hv hV k1 k2 c1 (by omega) (by omega), sk_ci_some]
  rw [if_pos (ky_eq c7), if_pos c7]
  subst c7
  have key := lp_run (fun i (X : Option sk_R) => X = sk_D4 d 27 [some (.ref a), some (.int (sj 7)), some (.int (sj (b7B v i))), some (.int (sj ((i : Int) + 1)))] [] (sk_mk S I)) (v 0 0 / 2).toNat (fun i X hi hX => by
    subst hX
    have t2 : (i : Int) + 1 + 1 = ((i + 1 : Nat) : Int) + 1 := rfl
    have r := b7B_rng hV i
    have r2 := tgB_rng hV (k := 7) (j := (i : Int) + 1) (by omega) (by omega) (by omega)
    rw [sk_e4_27, pl_i4b hS ha, vc4 hv, sj_div (by omega) (by omega) (by omega) (by omega), if_neg (kn_gt (by omega) (by omega) (by omega) (by omega) (by omega)), m6 (by omega) hS ha hv hV (by omega) (by omega) (by omega) (by omega) (by omega), sk_ci_some, m239 (by omega) (by omega) (by omega) (by omega) (by omega), sk_ci_some, sj_add, t2]
    rfl) rfl
  refine key.trans ?_
  rw [sk_e4_27, pl_i4b hS ha, vc4 hv, sj_div (by omega) (by omega) (by omega) (by omega), if_pos (ky_gt (by omega) (by omega) (by omega) (by omega) (by omega))]
theorem m191 {d : Nat} (hd : 1 ≤ d) {x y : Int} (x1 : 0 ≤ x) (x2 : x ≤ 100000) (y1 : 1 ≤ y) (y2 : y ≤ 1000) {w : sk_W} : sk_c d 191 [.int (sj x), .int (sj y)] w = some (some (.int (sj ((x + y - 1) / y))), w) := by
  obtain ⟨d, rfl⟩ : ∃ e, d = e + 1 := ⟨d - 1, by omega⟩; rw [sk_e191]
  rw [if_neg (nz_ y1 (by omega)), sj_add, sj_sub, sj_div (by omega) (by omega) (by omega) (by omega)]
theorem r195 {d : Nat} (hd : 5 ≤ d + 1) (hS : sk_G S) (hR : RP I 107 v) (hV : VO v) {k : Int} (k1 : 0 ≤ k) (k2 : k ≤ 7) : sk_c d 195 [.ref 105, .int (sj k)] (sk_mk S I) = some (some (.int (sj (b1B v k))), sk_mk S I) := by
  obtain ⟨n1, n2, n3, n4, n5, n6, n7, n8, n9, n10, n11, n12⟩ := hV.1
  obtain ⟨d, rfl⟩ : ∃ e, d = e + 1 := ⟨d - 1, by omega⟩; rw [sk_e195]
  have z0 : (0 : Int).toNat = 0 := rfl
  have q0 : I 107 0 = v 0 0 := hR.1 0 (by omega)
  unfold b1B
  by_cases c1 : k = 1
  · rw [if_neg (kn_ne c1), if_pos c1, g105_ob hS, m194 (by omega) hS hR hV, sk_ci_some]
  have sr := fun j : Int => smB_rng hV (j := j) k1 k2 c1 (n := (v 0 1).toNat) (by omega)
  rw [if_pos (ky_ne (by omega) (by omega) (by omega) (by omega) c1), if_neg c1]
  by_cases c0 : k = 0
  · subst c0
    have s0 := sr 0
    rw [if_neg (kn_ne rfl), if_neg (show ¬ (0 : Int) = 7 by decide), g105_ob hS, m193 (by omega) hS hR hV (by omega) (by omega) (by omega) (by omega) (by omega), sk_ci_some, g105_r1b hS, g107_ab hS (by omega) (by omega), z0, q0, m191 (by omega) s0.1 (by omega) n1 (by omega), sk_ci_some]
    rfl
  rw [if_pos (ky_ne (by omega) (by omega) (by omega) (by omega) c0)]
  by_cases c2 : k = 2
  · subst c2
    rw [if_neg (kn_ne rfl), if_neg (show ¬ (2 : Int) = 7 by decide), g105_ob hS, m193 (by omega) hS hR hV (by omega) (by omega) (by omega) (by omega) (by omega), sk_ci_some]
    have e : tgB v 2 0 = smB v 2 0 (v 0 1).toNat := by
      unfold tgB dvB
      rw [if_pos rfl, Int.ediv_one]
      omega
    rw [e]
  rw [if_pos (ky_ne (by omega) (by omega) (by omega) (by omega) c2)]
  by_cases c7 : k = 7
  rotate_left
  · have s0 := sr 0
    have c3 : 3 ≤ k ∧ k ≤ 6 := by omega
    have x := bd_X (k := k) (a := v 0 0) c3.1 c3.2 (by omega) n2
    have y : 1 ≤ (k - 2) * v 0 0 := bd_Y c3.1 c3.2 n1
    rw [if_neg (kn_ge (by omega) (by omega) (by omega) (by omega) (by omega)), if_neg c7, g105_ob hS, m193 (by omega) hS hR hV (by omega) (by omega) (by omega) (by omega) (by omega), sk_ci_some, g105_r1b hS, g107_ab hS (by omega) (by omega), z0, q0, sj_sub, sj_mul, m191 (by omega) s0.1 (by omega) y (by omega), sk_ci_some]
    unfold tgB dvB
    rw [if_neg c2, if_pos c3]
  rw [if_pos (ky_ge (by omega) (by omega) (by omega) (by omega) (by omega)), if_neg (kn_ne c7), if_pos c7]
  subst c7
  have key := lp_run (fun i (X : Option sk_R) => X = sk_D195 d 78 [some (.ref 105), some (.int (sj 7)), some (.int (sj (b7B v i))), some (.int (sj ((i : Int) + 1)))] [] (sk_mk S I)) (v 0 0 / 2).toNat (fun i X hi hX => by
    subst hX
    have t2 : (i : Int) + 1 + 1 = ((i + 1 : Nat) : Int) + 1 := rfl
    have r := b7B_rng hV i
    have r2 := tgB_rng hV (k := 7) (j := (i : Int) + 1) (by omega) (by omega) (by omega)
    have s0 := sr ((i : Int) + 1)
    have e : tgB v 7 ((i : Int) + 1) = (smB v 7 ((i : Int) + 1) (v 0 1).toNat + v 0 0 - 1) / v 0 0 := rfl
    rw [sk_e195_78, g105_r1b hS, g107_ab hS (by omega) (by omega), z0, q0, sj_div (by omega) (by omega) (by omega) (by omega), if_neg (kn_gt (by omega) (by omega) (by omega) (by omega) (by omega)), g105_ob hS, m193 (by omega) hS hR hV (by omega) (by omega) (by omega) (by omega) (by omega), sk_ci_some, g105_r1b hS, g107_ab hS (by omega) (by omega), z0, q0, m191 (by omega) s0.1 (by omega) n1 (by omega), sk_ci_some, ← e, m239 (by omega) (by omega) (by omega) (by omega) (by omega), sk_ci_some, sj_add, t2]
    rfl) rfl
  refine key.trans ?_
  rw [sk_e195_78, g105_r1b hS, g107_ab hS (by omega) (by omega), z0, q0, sj_div (by omega) (by omega) (by omega) (by omega), if_pos (ky_gt (by omega) (by omega) (by omega) (by omega) (by omega))]
theorem f_bound (hS : sk_G S) (hG : GI I v) {k : Int} (k1 : -2147483648 ≤ k) (k2 : k < 2147483648) : FC S I 116 196 [.int (sj k)] := by
  have hG0 := hG
  obtain ⟨hv, hT, hR, hTp, hM, hRk, hSh⟩ := hG; have hV := hT.1; have ha : sk_isP 15 := Or.inl rfl; obtain ⟨n1, n2, n3, n4, n5, n6, n7, n8, n9, n10, n11, n12⟩ := hV.1
  have cc := sk_e116 19 1 (sj k) (sk_mk S I)
  have rr := sk_e196 19 105 (sj k) (sk_mk S I)
  rw [m144 (by omega) k1 k2 (by omega) (by omega) (by omega) (by omega), sk_ci_some] at rr
  by_cases hk : 0 ≤ k ∧ k ≤ 8
  rotate_left
  · rw [decide_eq_false hk, if_pos cf_beq] at rr
    refine FC_same hG0 (-2) ?_ rr
    rw [cc]
    by_cases c : k < 0
    · rw [if_pos (ky_lt (by omega) (by omega) (by omega) (by omega) c)]
    · rw [if_neg (kn_lt (by omega) (by omega) (by omega) (by omega) (by omega)), if_neg (kn_lt (by omega) (by omega) (by omega) (by omega) (by omega))]
  rw [decide_eq_true hk, if_neg ct_beq, g105_ob hS] at rr
  rw [if_neg (kn_lt (by omega) (by omega) (by omega) (by omega) (by omega)), if_pos (ky_lt (by omega) (by omega) (by omega) (by omega) (by omega)), g1_r1b hS] at cc
  have c3 := sk_e3 18 15 (sj k) (sk_mk S I)
  have r3 := sk_e195 18 105 (sj k) (sk_mk S I)
  by_cases c8 : k = 8
  rotate_left
  · rw [if_neg (kn_eq (by omega) (by omega) (by omega) (by omega) c8), m4 (by omega) hS ha hv hV (by omega) (by omega), sk_ci_some] at c3
    rw [c3, sk_ci_some] at cc
    rw [r195 (by omega) hS hR hV (by omega) (by omega), sk_ci_some] at rr
    exact FC_same hG0 _ cc rr
  rw [if_pos (ky_eq c8)] at c3
  rw [if_pos (ky_ne (by omega) (by omega) (by omega) (by omega) (by omega)), if_pos (ky_ne (by omega) (by omega) (by omega) (by omega) (by omega)), if_pos (ky_ne (by omega) (by omega) (by omega) (by omega) (by omega)), if_pos (ky_ge (by omega) (by omega) (by omega) (by omega) (by omega)), if_pos (ky_ne (by omega) (by omega) (by omega) (by omega) (by omega))] at r3
  have kc := lp_run (fun i (X : Option sk_R) => X = sk_D3 18 16 [some (.ref 15), some (.int (sj k)), some (.int (sj (b8B v i))), some (.int (sj (i : Int)))] [] (sk_mk S I)) 8 (fun i X hi hX => by
    subst hX
    have t2 : (i : Int) + 1 = ((i + 1 : Nat) : Int) := rfl
    have r := b8B_rng hV (n := i) (by omega)
    have r2 := b1B_rng hV (k := i) (by omega) (by omega)
    rw [sk_e3_16, if_neg (kn_ge (by omega) (by omega) (by omega) (by omega) (by omega)), m4 (by omega) hS ha hv hV (by omega) (by omega), sk_ci_some, m239 (by omega) (by omega) (by omega) (by omega) (by omega), sk_ci_some, sj_add, t2]
    rfl) rfl
  have kr := lp_run (fun i (X : Option sk_R) => X = sk_D195 18 122 [some (.ref 105), some (.int (sj k)), some (.int (sj (b8B v i))), some (.int (sj (i : Int)))] [] (sk_mk S I)) 8 (fun i X hi hX => by
    subst hX
    have t2 : (i : Int) + 1 = ((i + 1 : Nat) : Int) := rfl
    have r := b8B_rng hV (n := i) (by omega)
    have r2 := b1B_rng hV (k := i) (by omega) (by omega)
    rw [sk_e195_122, if_neg (kn_ge (by omega) (by omega) (by omega) (by omega) (by omega)), g105_ob hS, r195 (by omega) hS hR hV (by omega) (by omega), sk_ci_some, m239 (by omega) (by omega) (by omega) (by omega) (by omega), sk_ci_some, sj_add, t2]
    rfl) rfl
  refine FC_same hG0 (b8B v 8) ?_ ?_
  · rw [cc, c3]
    refine (congrArg (fun X => sk_ci X fun v3 w2 => some (some (.int v3), w2)) kc).trans ?_
    rw [sk_e3_16, if_pos (ky_ge (by omega) (by omega) (by omega) (by omega) (by omega)), sk_ci_some]
  · rw [rr, r3]
    refine (congrArg (fun X => sk_ci X fun v3 w2 => some (some (.int v3), w2)) kr).trans ?_
    rw [sk_e195_122, if_pos (ky_ge (by omega) (by omega) (by omega) (by omega) (by omega)), sk_ci_some]
end BND
