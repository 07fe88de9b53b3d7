/-! ===== a plan becomes like another; a row of the reference is laid aside and back; the order's places are exchanged ===== -/
/-- alike where it counts -/
def VA (v v' : sk_H) : Prop := (∀ k, k < 6 → v' 0 k = v 0 k) ∧ (∀ p : Nat, (p : Int) < v 0 1 → ∀ s, (1 ≤ s ∧ s ≤ 8) ∨ s = 15 ∨ s = 16 → v' s p = v s p) ∧ (∀ k : Nat, (k : Int) < v 0 2 → v' 9 k = v 9 k) ∧ (∀ c : Nat, (c : Int) < v 0 0 → v' 10 c = v 10 c) ∧ ∀ k : Nat, (k : Int) < v 0 5 → ∀ s, 11 ≤ s → s ≤ 14 → v' s k = v s k
theorem VA.rfl' (v : sk_H) : VA v v := ⟨fun _ _ => rfl, fun _ _ _ _ => rfl, fun _ _ => rfl, fun _ _ => rfl, fun _ _ _ _ _ => rfl⟩
theorem VO_VA {v v' : sk_H} (hV : VO v) (hA : VA v v') : VO v' := by
  obtain ⟨hN, hP, hD, hE, hW⟩ := hV
  obtain ⟨a0, a1, a2, a3, a4⟩ := hA
  have hN0 := hN
  obtain ⟨n1, n2, n3, n4, n5, n6, -⟩ := hN0
  refine ⟨?_, ?_, ⟨?_, ?_⟩, ?_, ?_⟩
  · unfold VN at hN ⊢
    rw [a0 0 (by omega), a0 1 (by omega), a0 2 (by omega), a0 3 (by omega), a0 4 (by omega), a0 5 (by omega)]
    exact hN
  · intro p hp
    rw [a0 1 (by omega)] at hp
    have h := hP p hp
    have a := a1 p hp
    unfold VP acr tal at h ⊢
    rw [a0 0 (by omega), a 1 (by omega), a 2 (by omega), a 3 (by omega), a 4 (by omega), a 5 (by omega), a 6 (by omega), a 7 (by omega), a 8 (by omega), a 15 (by omega), a 16 (by omega)]
    exact h
  · intro k hk
    rw [a0 2 (by omega)] at hk
    obtain ⟨d1, d2, d3⟩ := hD.1 k hk
    rw [a2 k hk, a0 1 (by omega), a1 (v 9 k).toNat (by omega) 5 (by omega)]
    exact ⟨d1, d2, d3⟩
  · intro j k hj hk h
    rw [a0 2 (by omega)] at hj hk
    rw [a2 j hj, a2 k hk] at h
    exact hD.2 j k hj hk h
  · intro c hc
    rw [a0 0 (by omega)] at hc
    rw [a3 c hc]
    exact hE c hc
  · intro k hk
    rw [a0 5 (by omega)] at hk
    rw [a4 k hk 11 (by omega) (by omega), a4 k hk 12 (by omega) (by omega), a4 k hk 13 (by omega) (by omega), a4 k hk 14 (by omega) (by omega), a0 0 (by omega)]
    exact hW k hk
theorem RP_VA {I v v' : sk_H} {m : Nat} (hR : RP I m v) (hA : VA v v') : RP I m v' := by
  obtain ⟨a0, a1, a2, a3, a4⟩ := hA
  obtain ⟨r0, r1, r2, r3, r4⟩ := hR
  refine ⟨fun k hk => (r0 k hk).trans (a0 k hk).symm, fun p hp => ?_, fun k hk => ?_, fun c hc => ?_, fun k hk => ?_⟩
  · rw [a0 1 (by omega)] at hp
    have a := a1 p hp
    rw [a 1 (by omega), a 2 (by omega), a 3 (by omega), a 4 (by omega), a 5 (by omega), a 6 (by omega), a 7 (by omega), a 8 (by omega)]
    exact r1 p hp
  · rw [a0 2 (by omega)] at hk
    rw [a2 k hk]
    exact r2 k hk
  · rw [a0 0 (by omega)] at hc
    rw [a3 c hc]
    exact r3 c hc
  · rw [a0 5 (by omega)] at hk
    rw [a4 k hk 11 (by omega) (by omega), a4 k hk 12 (by omega) (by omega), a4 k hk 13 (by omega) (by omega), a4 k hk 14 (by omega) (by omega)]
    exact r4 k hk
theorem cntTo_congr {n : Nat} {P Q : Nat → Bool} (h : ∀ k, k < n → P k = Q k) : cntTo n P = cntTo n Q := by
  induction n with
  | zero => rfl
  | succ n ih => rw [cntTo_succ, cntTo_succ, ih (fun k hk => h k (by omega)), h n (by omega)]
theorem VT_VA {v v' : sk_H} (hT : VT v) (hA : VA v v') : VT v' := by
  obtain ⟨hV, h1, h2, h3⟩ := hT
  have hV' := VO_VA hV hA
  obtain ⟨a0, a1, a2, a3, a4⟩ := hA
  obtain ⟨n1, n2, n3, n4, n5, n6, n7, n8, n9, n10, n11, n12⟩ := hV.1
  have e1 : ldN v' = ldN v := by
    unfold ldN
    rw [a0 1 (by omega)]
    exact cntTo_congr (fun k hk => by rw [a1 k (by omega) 5 (by omega)])
  have e2 : segN v' = segN v := by
    unfold segN
    rw [a0 0 (by omega)]
    congr 1
    exact cntTo_congr (fun k hk => by rw [a3 k (by omega), a3 (k + 1) (by omega)])
  refine ⟨hV', fun c hc => ?_, ?_, fun h => ?_⟩
  · rw [a0 0 (by omega)] at hc
    rw [a3 c hc, e1]
    exact h1 c hc
  · rw [a0 5 (by omega), e1, e2]
    exact h2
  · rw [e1] at h
    obtain ⟨c, d1, d2⟩ := h3 h
    exact ⟨c, by rw [a0 0 (by omega)]; exact d1, by rw [a3 c d1]; exact d2⟩
theorem RP_of {I J v : sk_H} {m m' : Nat} (hN : VN v) (hR : RP I m v) (h : ∀ k, k < 1141 → J m' k = I m k) : RP J m' v := by
  obtain ⟨n1, n2, n3, n4, n5, n6, n7, n8, n9, n10, n11, n12⟩ := hN
  obtain ⟨r0, r1, r2, r3, r4⟩ := hR
  refine ⟨fun k hk => ?_, fun p hp => ?_, fun k hk => ?_, fun c hc => ?_, fun k hk => ?_⟩
  · rw [h _ (by omega)]; exact r0 k hk
  · rw [h _ (by omega), h _ (by omega), h _ (by omega), h _ (by omega), h _ (by omega), h _ (by omega), h _ (by omega), h _ (by omega)]; exact r1 p hp
  · rw [h _ (by omega)]; exact r2 k hk
  · rw [h _ (by omega)]; exact r3 c hc
  · rw [h _ (by omega), h _ (by omega), h _ (by omega), h _ (by omega)]; exact r4 k hk
theorem cpy0_at {J : sk_H} {x y m k : Nat} (hk : k < m) : cpy2 J x 0 y 0 m y k = J x k := by
  unfold cpy2
  rw [if_pos ⟨rfl, by omega, by omega⟩, Nat.zero_add, Nat.sub_zero]
theorem cpy0_ne {J : sk_H} {x y m c : Nat} (hc : c ≠ y) : cpy2 J x 0 y 0 m c = J c := by
  funext k
  unfold cpy2
  rw [if_neg (by omega)]
section CPY
variable {S : List sk_Sh} {I v : sk_H}
theorem m26 {d : Nat} (hd : 1 ≤ d) {x y : Nat} (hx : pt S x) (hy : pt S y) (hxy : x ≠ y) (h7 : I y 7 = 0 ∨ I y 7 = 1) : ∃ I', sk_c d 26 [.ref x, .ref y] (sk_mk S I) = some (none, sk_mk S I') ∧ (∀ j, I' x j = if j < 10 then I y j else I x j) ∧ ∀ c, c ≠ x → I' c = I c := by
  obtain ⟨d, rfl⟩ : ∃ e, d = e + 1 := ⟨d - 1, by omega⟩; rw [sk_e26]
  have hb := hx
  refine ⟨u2 (u2 (u2 (u2 (u2 (u2 (u2 (u2 (u2 (u2 I x 0 (I y 0)) x 1 (I y 1)) x 2 (I y 2)) x 3 (I y 3)) x 4 (I y 4)) x 5 (I y 5)) x 6 (I y 6)) x 7 (I y 7)) x 8 (I y 8)) x 9 (I y 9), ?_, fun j => ?_, fun c hc => ?_⟩
  · simp (disch := omega) only [↓pt_i0b hb, ↓pt_u0b hb, ↓pt_i1b hb, ↓pt_u1b hb, ↓pt_i2b hb, ↓pt_u2b hb, ↓pt_i3b hb, ↓pt_u3b hb, ↓pt_i4b hb, ↓pt_u4b hb, ↓pt_i5b hb, ↓pt_u5b hb, ↓pt_i6b hb, ↓pt_u6b hb, ↓pt_i7b hb, ↓pt_u7b hb, ↓pt_i8b hb, ↓pt_u8b hb, ↓pt_i9b hb, ↓pt_u9b hb, ↓pt_ob hb, ↓pt_i0b hy, ↓pt_i1b hy, ↓pt_i2b hy, ↓pt_i3b hy, ↓pt_i4b hy, ↓pt_i5b hy, ↓pt_i6b hy, ↓pt_i7b hy, ↓pt_i8b hy, ↓pt_i9b hy, ↓Option.bind_some, ↓sk_ci_some, ↓sk_cv_some, ↓sk_cf_some, if_true, eq_self, ite_self, u2_ne, sj_v01, h7]
  · unfold u2
    by_cases c : j < 10
    · rw [if_pos c]
      match j, c with
      | 0, _ | 1, _ | 2, _ | 3, _ | 4, _ | 5, _ | 6, _ | 7, _ | 8, _ | 9, _ => simp
    · rw [if_neg c]
      simp (disch := omega) only [if_neg]
  · funext j
    simp (disch := omega) only [u2_ne]
theorem m96 {d : Nat} (hd : 1 ≤ d) (hS : sk_G S) {a b : Nat} (ha : sk_isP a) (hb : sk_isP b) (hab : a ≠ b) (h0 : 0 ≤ I (b + 4) 4) (h1 : I (b + 4) 4 ≤ 63) : ∃ I', sk_c d 96 [.ref (a + 4), .ref (b + 4)] (sk_mk S I) = some (none, sk_mk S I') ∧ I' (a + 4) 4 = I (b + 4) 4 ∧ (∀ k : Nat, (k : Int) < I (b + 4) 4 → I' (a + 5) k = I (b + 5) k ∧ I' (a + 6) k = I (b + 6) k ∧ I' (a + 7) k = I (b + 7) k ∧ I' (a + 8) k = I (b + 8) k) ∧ ∀ c, ¬ (a + 4 ≤ c ∧ c ≤ a + 8) → I' c = I c := by
  obtain ⟨d, rfl⟩ : ∃ e, d = e + 1 := ⟨d - 1, by omega⟩; rw [sk_e96]
  obtain ⟨n, hn⟩ : ∃ n : Nat, I (b + 4) 4 = n := ⟨(I (b + 4) 4).toNat, by omega⟩
  rw [hn] at h0 h1 ⊢
  have far : a + 19 ≤ b ∨ b + 19 ≤ a := by rcases ha with rfl | rfl | rfl <;> rcases hb with rfl | rfl | rfl <;> omega
  have z0 : (0 : Int).toNat = 0 := rfl
  have c5 := fun J : sk_H => mk_copy (S := S) (I := J) (a0 := b + 5) (a := a + 5) (n0 := 64) (n1 := 64) (sp := 0) (dp := 0) (n := n) (sh_pw0 hS hb) (sh_pw0 hS ha) (by omega) (by omega) (by omega) (by omega) (by omega) (by omega) (by omega) (by omega) (by omega)
  have c6 := fun J : sk_H => mk_copy (S := S) (I := J) (a0 := b + 6) (a := a + 6) (n0 := 64) (n1 := 64) (sp := 0) (dp := 0) (n := n) (sh_pw1 hS hb) (sh_pw1 hS ha) (by omega) (by omega) (by omega) (by omega) (by omega) (by omega) (by omega) (by omega) (by omega)
  have c7 := fun J : sk_H => mk_copy (S := S) (I := J) (a0 := b + 7) (a := a + 7) (n0 := 64) (n1 := 64) (sp := 0) (dp := 0) (n := n) (sh_pw2 hS hb) (sh_pw2 hS ha) (by omega) (by omega) (by omega) (by omega) (by omega) (by omega) (by omega) (by omega) (by omega)
  have c8 := fun J : sk_H => mk_copy (S := S) (I := J) (a0 := b + 8) (a := a + 8) (n0 := 64) (n1 := 64) (sp := 0) (dp := 0) (n := n) (sh_pw3 hS hb) (sh_pw3 hS ha) (by omega) (by omega) (by omega) (by omega) (by omega) (by omega) (by omega) (by omega) (by omega)
  rw [z0, Int.toNat_natCast] at c5 c6 c7 c8
  refine ⟨u2 (cpy2 (cpy2 (cpy2 (cpy2 I (b + 5) 0 (a + 5) 0 n) (b + 6) 0 (a + 6) 0 n) (b + 7) 0 (a + 7) 0 n) (b + 8) 0 (a + 8) 0 n) (a + 4) 4 n, ?_, u2_eq _ _ _ _, fun k hk => ?_, fun c hc => ?_⟩
  · simp (disch := omega) only [↓pw_r0b hS ha, ↓pw_r1b hS ha, ↓pw_r2b hS ha, ↓pw_r3b hS ha, ↓pw_r0b hS hb, ↓pw_r1b hS hb, ↓pw_r2b hS hb, ↓pw_r3b hS hb, ↓pw_i4b hS hb, ↓pw_u4b hS ha, ↓Option.bind_some, ↓sk_ci_some, ↓sk_cv_some, ↓sk_cf_some, if_true, eq_self, ite_self, hn, c5, c6, c7, c8, cpy0_ne]
  · have hk : k < n := by omega
    simp (disch := omega) only [u2_ne, cpy0_ne, cpy0_at hk]
    exact ⟨trivial, trivial, trivial, trivial⟩
  · funext k
    simp (disch := omega) only [u2_ne, cpy0_ne]
theorem m36 {d : Nat} (hd : 2 ≤ d) (hS : sk_G S) {a b : Nat} (ha : sk_isP a) (hb : sk_isP b) (hab : a ≠ b) (hv : vC I b = v) (hV : VO v) : ∃ I', sk_c d 36 [.ref a, .ref b] (sk_mk S I) = some (none, sk_mk S I') ∧ VA v (vC I' a) ∧ ∀ c, ¬ (a ≤ c ∧ c < a + 19) → I' c = I c := by
  obtain ⟨n1, n2, n3, n4, n5, n6, n7, n8, n9, n10, n11, n12⟩ := hV.1
  obtain ⟨d, rfl⟩ : ∃ e, d = e + 1 := ⟨d - 1, by omega⟩; rw [sk_e36]
  have far : a + 19 ≤ b ∨ b + 19 ≤ a := by rcases ha with rfl | rfl | rfl <;> rcases hb with rfl | rfl | rfl <;> omega
  have key := lp_run (fun k (X : Option sk_R) => ∃ I', X = sk_D36 d 2 [some (.ref a), some (.ref b), some (.int (sj (k : Int)))] [] (sk_mk S I') ∧ (∀ p, p < k → ∀ j, j < 10 → I' (a + 9 + p) j = I (b + 9 + p) j) ∧ ∀ c, ¬ (a ≤ c ∧ c < a + 19) → I' c = I c) (v 0 1).toNat (fun k X hk hX => by
    obtain ⟨I1, rfl, h1, f1⟩ := hX
    have hv1 : vC I1 b = v := (vC_fr (fun c g1 g2 => f1 c (by omega))).trans hv
    have h7 : I1 (b + 9 + k) 7 = 0 ∨ I1 (b + 9 + k) 7 = 1 := by
      rw [vp7 hv1 (by omega)]
      exact (vo_p hV (p := k) (by omega)).2.2.2.2.2.2.2.2.2.2.1
    obtain ⟨I2, e2, h2, f2⟩ := m26 (S := S) (I := I1) (d := d) (by omega) (sh_pt hS ha (n := k) (by omega)) (sh_pt hS hb (n := k) (by omega)) (by omega) h7
    have t1 : (k : Int) + 1 = ((k + 1 : Nat) : Int) := rfl
    refine ⟨I2, ?_, fun p hp j hj => ?_, fun c hc => (f2 c (by omega)).trans (f1 c hc)⟩
    · rw [sk_e36_2]
      simp (disch := omega) only [↓pl_i5b hS hb, ↓pl_r0b hS ha, ↓pl_r0b hS hb, ↓pl_pb hS ha, ↓pl_pb hS hb, ↓pq_ob hS ha, ↓Option.bind_some, ↓sk_ci_some, ↓sk_cv_some, ↓sk_cf_some, if_true, eq_self, ite_self, vc5 hv1, Int.toNat_natCast, e2, sj_add, t1, sj_ceq, sj_cne, sj_clt, sj_cge, sj_cgt, sj_cle, bi_ceq, bi_cne, bi_01]
      rw [if_neg (by omega)]
    · by_cases c : p = k
      · subst c
        rw [h2 j, if_pos hj, f1 (b + 9 + p) (by omega)]
      · rw [f2 (a + 9 + p) (by omega)]
        exact h1 p (by omega) j hj) ⟨I, rfl, fun p hp => by omega, fun _ _ => rfl⟩
  obtain ⟨I1, e1, h1, f1⟩ := key
  have hv1 : vC I1 b = v := (vC_fr (fun c g1 g2 => f1 c (by omega))).trans hv
  obtain ⟨no, hno⟩ : ∃ n : Nat, v 0 2 = n := ⟨(v 0 2).toNat, by omega⟩
  obtain ⟨nw, hnw⟩ : ∃ n : Nat, v 0 0 = n := ⟨(v 0 0).toNat, by omega⟩
  have z0 : (0 : Int).toNat = 0 := rfl
  have c2 := mk_copy (S := S) (I := I1) (a0 := b + 2) (a := a + 2) (n0 := 10) (n1 := 10) (sp := 0) (dp := 0) (n := no) (sh_po hS hb) (sh_po hS ha) (by omega) (by omega) (by omega) (by omega) (by omega) (by omega) (by omega) (by omega) (by omega)
  have c3 := mk_copy (S := S) (I := cpy2 I1 (b + 2) 0 (a + 2) 0 no) (a0 := b + 3) (a := a + 3) (n0 := 20) (n1 := 20) (sp := 0) (dp := 0) (n := nw) (sh_ps hS hb) (sh_ps hS ha) (by omega) (by omega) (by omega) (by omega) (by omega) (by omega) (by omega) (by omega) (by omega)
  rw [z0, Int.toNat_natCast] at c2 c3
  have hv2 : vC (cpy2 I1 (b + 2) 0 (a + 2) 0 no) b = v := (vC_fr (fun c g1 g2 => cpy0_ne (by omega))).trans hv1
  have hv3 : vC (cpy2 (cpy2 I1 (b + 2) 0 (a + 2) 0 no) (b + 3) 0 (a + 3) 0 nw) b = v := (vC_fr (fun c g1 g2 => cpy0_ne (by omega))).trans hv2
  have g2 : ∀ k, k < no → cpy2 (cpy2 I1 (b + 2) 0 (a + 2) 0 no) (b + 3) 0 (a + 3) 0 nw (a + 2) k = v 9 k := fun k hk => by
    rw [cpy0_ne (by omega), cpy0_at hk, vo_ hv1]
  have g3 : ∀ k, k < nw → cpy2 (cpy2 I1 (b + 2) 0 (a + 2) 0 no) (b + 3) 0 (a + 3) 0 nw (a + 3) k = v 10 k := fun k hk => by
    rw [cpy0_at hk, cpy0_ne (by omega), vs_ hv1]
  have gp : ∀ c, c ≠ a + 2 → c ≠ a + 3 → cpy2 (cpy2 I1 (b + 2) 0 (a + 2) 0 no) (b + 3) 0 (a + 3) 0 nw c = I1 c := fun c h h' => by
    rw [cpy0_ne h', cpy0_ne h]
  generalize hJ : cpy2 (cpy2 I1 (b + 2) 0 (a + 2) 0 no) (b + 3) 0 (a + 3) 0 nw = J at *
  obtain ⟨K, e4, k1, k2, k3⟩ := m96 (S := S) (I := J) (d := d) (by omega) hS ha hb hab (by rw [vcz hv3]; omega) (by rw [vcz hv3]; omega)
  rw [vcz hv3] at k1 k2
  have hvK : vC K b = v := (vC_fr (fun c g1 g2 => k3 c (by omega))).trans hv3
  have e04 : v 0 4 = 0 ∨ v 0 4 = 1 := by omega
  refine ⟨u2 (u2 (u2 (u2 (u2 K a 4 (v 0 0)) a 5 (v 0 1)) a 6 (v 0 2)) a 7 (v 0 3)) a 8 (v 0 4), ?_, ?_, fun c hc => ?_⟩
  · refine e1.trans ?_
    rw [sk_e36_2]
    have r5 : I1 b 5 = v 0 1 := vc5 hv1
    have r6 : I1 b 6 = no := (vc6 hv1).trans hno
    have r4 : cpy2 I1 (b + 2) 0 (a + 2) 0 no b 4 = nw := (vc4 hv2).trans hnw
    simp (maxSteps := 1000000) (disch := omega) only [↓pl_i5b hS hb, ↓Option.bind_some, ↓sk_ci_some, ↓sk_cv_some, ↓sk_cf_some, if_true, eq_self, ite_self, r5, sj_ceq, sj_cne, sj_clt, sj_cge, sj_cgt, sj_cle, bi_ceq, bi_cne, bi_01]
    rw [if_pos (by omega)]
    simp (maxSteps := 1000000) (disch := omega) only [↓pl_i4b hS hb, ↓pl_i5b hS hb, ↓pl_i6b hS hb, ↓pl_i7b hS hb, ↓pl_i8b hS hb, ↓pl_r1b hS ha, ↓pl_r1b hS hb, ↓pl_r2b hS ha, ↓pl_r2b hS hb, ↓pl_r3b hS ha, ↓pl_r3b hS hb, ↓pw_ob hS ha, ↓pl_u4b hS ha, ↓pl_u5b hS ha, ↓pl_u6b hS ha, ↓pl_u7b hS ha, ↓pl_u8b hS ha, ↓Option.bind_some, ↓sk_ci_some, ↓sk_cv_some, ↓sk_cf_some, if_true, eq_self, ite_self, r6, r4, c2, c3, hJ, e4, u2_ne, vc4 hvK, vc5 hvK, vc6 hvK, vc7 hvK, vc8 hvK, sj_v01, e04]
  · rw [w8, w7, w6, w5, w4]
    have hp : ∀ p : Nat, p < 10 → ∀ j : Nat, (p : Int) < v 0 1 → j < 10 → K (a + 9 + p) j = I (b + 9 + p) j := fun p hp j hp2 hj => by
      rw [k3 (a + 9 + p) (by omega), gp (a + 9 + p) (by omega) (by omega)]
      exact h1 p (by omega) j hj
    have sec : ∀ s k, s ≠ 0 → u2 (u2 (u2 (u2 (u2 (vC K a) 0 0 (v 0 0)) 0 1 (v 0 1)) 0 2 (v 0 2)) 0 3 (v 0 3)) 0 4 (v 0 4) s k = vC K a s k := fun s k hs => by simp (disch := omega) only [u2_ne]
    refine ⟨fun k hk => ?_, fun p hp2 s hs => ?_, fun k hk => ?_, fun c hc => ?_, fun k hk s s1 s2 => ?_⟩
    · match k, hk with
      | 0, _ | 1, _ | 2, _ | 3, _ | 4, _ => simp (disch := omega) only [u2_ne, u2_eq]
      | 5, _ =>
        simp (disch := omega) only [u2_ne]
        exact k1
    · rw [sec s p (by omega)]
      have q := hp p (by omega)
      rcases hs with hs | hs | hs
      · obtain ⟨h1, h2⟩ := hs
        have : s = 1 ∨ s = 2 ∨ s = 3 ∨ s = 4 ∨ s = 5 ∨ s = 6 ∨ s = 7 ∨ s = 8 := by omega
        rcases this with rfl | rfl | rfl | rfl | rfl | rfl | rfl | rfl
        · rw [← vp0 (I := K) (a := a) rfl (by omega), q 0 hp2 (by omega), vp0 hv (by omega)]
        · rw [← vp1 (I := K) (a := a) rfl (by omega), q 1 hp2 (by omega), vp1 hv (by omega)]
        · rw [← vp2 (I := K) (a := a) rfl (by omega), q 2 hp2 (by omega), vp2 hv (by omega)]
        · rw [← vp3 (I := K) (a := a) rfl (by omega), q 3 hp2 (by omega), vp3 hv (by omega)]
        · rw [← vp4 (I := K) (a := a) rfl (by omega), q 4 hp2 (by omega), vp4 hv (by omega)]
        · rw [← vp5 (I := K) (a := a) rfl (by omega), q 5 hp2 (by omega), vp5 hv (by omega)]
        · rw [← vp6 (I := K) (a := a) rfl (by omega), q 6 hp2 (by omega), vp6 hv (by omega)]
        · rw [← vp7 (I := K) (a := a) rfl (by omega), q 7 hp2 (by omega), vp7 hv (by omega)]
      · subst hs
        rw [← vp8 (I := K) (a := a) rfl (by omega), q 8 hp2 (by omega), vp8 hv (by omega)]
      · subst hs
        rw [← vp9 (I := K) (a := a) rfl (by omega), q 9 hp2 (by omega), vp9 hv (by omega)]
    · rw [sec 9 k (by omega), ← vo_ (I := K) (a := a) rfl, k3 (a + 2) (by omega)]
      exact g2 k (by omega)
    · rw [sec 10 c (by omega), ← vs_ (I := K) (a := a) rfl, k3 (a + 3) (by omega)]
      exact g3 c (by omega)
    · rw [sec s k (by omega)]
      obtain ⟨z1, z2, z3, z4⟩ := k2 k hk
      have : s = 11 ∨ s = 12 ∨ s = 13 ∨ s = 14 := by omega
      rcases this with rfl | rfl | rfl | rfl
      · rw [← vx0 (I := K) (a := a) rfl, z1, vx0 hv3]
      · rw [← vx1 (I := K) (a := a) rfl, z2, vx1 hv3]
      · rw [← vx2 (I := K) (a := a) rfl, z3, vx2 hv3]
      · rw [← vx3 (I := K) (a := a) rfl, z4, vx3 hv3]
  · rw [← f1 c hc, ← gp c (by omega) (by omega), ← k3 c (by omega)]
    funext j
    simp (disch := omega) only [u2_ne]
theorem m146 {d : Nat} (hd : 1 ≤ d) (hS : sk_G S) {m : Nat} (hm : m < 3) : ∃ I', sk_c d 146 [.ref 105, .int (sj m)] (sk_mk S I) = some (none, sk_mk S I') ∧ (∀ k, k < 1141 → I' (107 + m) k = I 107 k) ∧ ∀ c, c ≠ 107 + m → I' c = I c := by
  obtain ⟨d, rfl⟩ : ∃ e, d = e + 1 := ⟨d - 1, by omega⟩; rw [sk_e146]
  have hs : S[107 + m]? = some (.inl 1141) := by
    match m, hm with
    | 0, _ => exact sh_107 hS
    | 1, _ => exact sh_108 hS
    | 2, _ => exact sh_109 hS
  have c := mk_copy (S := S) (I := I) (a0 := 107) (a := 107 + m) (n0 := 1141) (n1 := 1141) (sp := 0) (dp := 0) (n := 1141) (sh_107 hS) hs (by omega) (by omega) (by omega) (by omega) (by omega) (by omega) (by omega) (by omega) (by omega)
  refine ⟨cpy2 I 107 (0 : Int).toNat (107 + m) (0 : Int).toNat (1141 : Int).toNat, ?_, ?_, ?_⟩
  · simp (disch := omega) only [↓g105_r0b hS, ↓g105_r1b hS, ↓g106_qb hS, ↓Option.bind_some, ↓sk_ci_some, ↓sk_cv_some, ↓sk_cf_some, if_true, eq_self, ite_self, Int.toNat_natCast, c]
  · intro k hk
    unfold cpy2
    rw [if_pos ⟨rfl, by omega, by show k < 0 + 1141; omega⟩]
    congr 1
    show 0 + (k - 0) = k
    omega
  · intro c hc
    funext k
    unfold cpy2
    rw [if_neg (by omega)]
theorem m147 {d : Nat} (hd : 1 ≤ d) (hS : sk_G S) {m : Nat} (hm : m < 3) : ∃ I', sk_c d 147 [.ref 105, .int (sj m)] (sk_mk S I) = some (none, sk_mk S I') ∧ (∀ k, k < 1141 → I' 107 k = I (107 + m) k) ∧ ∀ c, c ≠ 107 → I' c = I c := by
  obtain ⟨d, rfl⟩ : ∃ e, d = e + 1 := ⟨d - 1, by omega⟩; rw [sk_e147]
  have hs : S[107 + m]? = some (.inl 1141) := by
    match m, hm with
    | 0, _ => exact sh_107 hS
    | 1, _ => exact sh_108 hS
    | 2, _ => exact sh_109 hS
  have c := mk_copy (S := S) (I := I) (a0 := 107 + m) (a := 107) (n0 := 1141) (n1 := 1141) (sp := 0) (dp := 0) (n := 1141) hs (sh_107 hS) (by omega) (by omega) (by omega) (by omega) (by omega) (by omega) (by omega) (by omega) (by omega)
  refine ⟨cpy2 I (107 + m) (0 : Int).toNat 107 (0 : Int).toNat (1141 : Int).toNat, ?_, ?_, ?_⟩
  · simp (disch := omega) only [↓g105_r0b hS, ↓g105_r1b hS, ↓g106_qb hS, ↓Option.bind_some, ↓sk_ci_some, ↓sk_cv_some, ↓sk_cf_some, if_true, eq_self, ite_self, Int.toNat_natCast, c]
  · intro k hk
    unfold cpy2
    rw [if_pos ⟨rfl, by omega, by show k < 0 + 1141; omega⟩]
    congr 1
    show 0 + (k - 0) = k
    omega
  · intro c hc
    funext k
    unfold cpy2
    rw [if_neg (by omega)]
/-! the order's places -/
def exV (v : sk_H) (i j : Nat) : sk_H := u2 (u2 v 9 i (v 9 j)) 9 j (v 9 i)
theorem exV_ne (v : sk_H) (i j : Nat) {s k : Nat} (h : s ≠ 9) : exV v i j s k = v s k := by
  unfold exV
  rw [u2_ne _ _ (by omega), u2_ne _ _ (by omega)]
theorem exV_9 (v : sk_H) (i j k : Nat) : exV v i j 9 k = v 9 (if k = j then i else if k = i then j else k) := by
  unfold exV u2
  by_cases h1 : k = j
  · rw [if_pos ⟨rfl, h1⟩, if_pos h1]
  · rw [if_neg (by omega), if_neg h1]
    by_cases h2 : k = i
    · rw [if_pos ⟨rfl, h2⟩, if_pos h2]
    · rw [if_neg (by omega), if_neg h2]
theorem VT_exV {v : sk_H} (hT : VT v) {i j : Nat} (hi : (i : Int) < v 0 2) (hj : (j : Int) < v 0 2) : VT (exV v i j) := by
  obtain ⟨⟨hN, hP, hD, hE, hW⟩, h1, h2⟩ := hT
  have f := fun s (h : s ≠ 9) => (funext fun k => exV_ne v i j h : exV v i j s = v s)
  refine ⟨⟨?_, ?_, ⟨?_, ?_⟩, ?_, ?_⟩, ?_, ?_⟩
  · unfold VN at hN ⊢
    rw [f 0 (by omega)]
    exact hN
  · intro p hp
    rw [f 0 (by omega)] at hp
    have h := hP p hp
    unfold VP acr tal at h ⊢
    rw [f 0 (by omega), f 1 (by omega), f 2 (by omega), f 3 (by omega), f 4 (by omega), f 5 (by omega), f 6 (by omega), f 7 (by omega), f 8 (by omega), f 15 (by omega), f 16 (by omega)]
    exact h
  · intro k hk
    rw [f 0 (by omega)] at hk ⊢
    rw [f 5 (by omega), exV_9]
    exact hD.1 _ (by split <;> (try split) <;> omega)
  · intro x y hx hy h
    rw [f 0 (by omega)] at hx hy
    rw [exV_9, exV_9] at h
    have := hD.2 _ _ (by split <;> (try split) <;> omega) (by split <;> (try split) <;> omega) h
    split at this <;> split at this <;> (try split at this) <;> (try split at this) <;> omega
  · unfold VE at hE ⊢
    rw [f 0 (by omega), f 10 (by omega)]
    exact hE
  · unfold VW at hW ⊢
    rw [f 0 (by omega), f 11 (by omega), f 12 (by omega), f 13 (by omega), f 14 (by omega)]
    exact hW
  · unfold ldN at h1 ⊢
    rw [f 0 (by omega), f 10 (by omega), f 5 (by omega)]
    exact h1
  · unfold ldN segN at h2 ⊢
    rw [f 0 (by omega), f 10 (by omega), f 5 (by omega)]
    exact h2
theorem exV_rng {v : sk_H} (hV : VO v) {i : Nat} (hi : (i : Int) < v 0 2) : i < 10 := by
  obtain ⟨n1, n2, n3, n4, n5, n6, n7, n8, n9, n10, n11, n12⟩ := hV.1
  omega
variable {a : Nat}
theorem m47 {d : Nat} (hd : 1 ≤ d) (hS : sk_G S) (ha : sk_isP a) (hv : vC I a = v) {i j : Nat} (hi : i < 10) (hj : j < 10) : ∃ I', sk_c d 47 [.ref a, .int (sj i), .int (sj j)] (sk_mk S I) = some (none, sk_mk S I') ∧ vC I' a = exV v i j ∧ ∀ c, c ≠ a + 2 → I' c = I c := by
  obtain ⟨d, rfl⟩ : ∃ e, d = e + 1 := ⟨d - 1, by omega⟩; rw [sk_e47]
  refine ⟨u2 (u2 I (a + 2) i (v 9 j)) (a + 2) j (v 9 i), ?_, ?_, fun c hc => ?_⟩
  · simp (disch := omega) only [↓pl_r0b hS ha, ↓pl_r1b hS ha, ↓pl_r2b hS ha, ↓pl_r3b hS ha, ↓pl_i4b hS ha, ↓pl_u4b hS ha, ↓pl_i5b hS ha, ↓pl_u5b hS ha, ↓pl_i6b hS ha, ↓pl_u6b hS ha, ↓pl_i7b hS ha, ↓pl_u7b hS ha, ↓pl_i8b hS ha, ↓pl_u8b hS ha, ↓pl_ob hS ha, ↓pl_pb hS ha, ↓po_ab hS ha, ↓po_sb hS ha, ↓po_nb hS ha, ↓ps_ab hS ha, ↓ps_sb hS ha, ↓ps_nb hS ha, ↓Option.bind_some, ↓sk_ci_some, ↓sk_cv_some, ↓sk_cf_some, if_true, eq_self, ite_self, Int.toNat_natCast, vo_ hv]
  · rw [wo_, wo_, hv]
    rfl
  · funext k
    simp (disch := omega) only [u2_ne]
theorem m171 {d : Nat} (hd : 1 ≤ d) (hS : sk_G S) (hR : RP I 107 v) (hV : VO v) {i j : Nat} (hi : (i : Int) < v 0 2) (hj : (j : Int) < v 0 2) : ∃ I', sk_c d 171 [.ref 105, .int (sj i), .int (sj j)] (sk_mk S I) = some (none, sk_mk S I') ∧ RP I' 107 (exV v i j) ∧ ∀ c, c ≠ 107 → I' c = I c := by
  obtain ⟨n1, n2, n3, n4, n5, n6, n7, n8, n9, n10, n11, n12⟩ := hV.1
  obtain ⟨d, rfl⟩ : ∃ e, d = e + 1 := ⟨d - 1, by omega⟩; rw [sk_e171]
  have t1 : (87 + (i : Int)).toNat = 87 + i := by omega
  have t2 : (87 + (j : Int)).toNat = 87 + j := by omega
  have r1 := hR.2.2.1 i hi
  have r2 := hR.2.2.1 j hj
  refine ⟨u2 (u2 I 107 (87 + i) (v 9 j)) 107 (87 + j) (v 9 i), ?_, ?_, fun c hc => ?_⟩
  · simp (disch := omega) only [↓g105_r1b hS, ↓g107_ab hS, ↓g107_sb hS, ↓Option.bind_some, ↓sk_ci_some, ↓sk_cv_some, ↓sk_cf_some, if_true, eq_self, ite_self, sj_add, t1, t2, r1, r2]
  · obtain ⟨q0, q1, q2, q3, q4⟩ := hR
    have f := fun s k (h : s ≠ 9) => exV_ne v i j (s := s) (k := k) h
    refine ⟨fun k hk => ?_, fun p hp => ?_, fun k hk => ?_, fun c hc => ?_, fun k hk => ?_⟩
    · rw [f 0 k (by omega)]
      simp (disch := omega) only [u2_ne]
      exact q0 k hk
    · rw [f 0 1 (by omega)] at hp
      rw [f 1 p (by omega), f 2 p (by omega), f 3 p (by omega), f 4 p (by omega), f 5 p (by omega), f 6 p (by omega), f 7 p (by omega), f 8 p (by omega)]
      simp (disch := omega) only [u2_ne]
      exact q1 p hp
    · rw [f 0 2 (by omega)] at hk
      rw [exV_9]
      unfold u2
      by_cases h1 : k = j
      · rw [if_pos (by omega), if_pos h1]
      · rw [if_neg (by omega), if_neg h1]
        by_cases h2 : k = i
        · rw [if_pos (by omega), if_pos h2]
        · rw [if_neg (by omega), if_neg h2]
          exact q2 k hk
    · rw [f 0 0 (by omega)] at hc
      rw [f 10 c (by omega)]
      simp (disch := omega) only [u2_ne]
      exact q3 c hc
    · rw [f 0 5 (by omega)] at hk
      rw [f 11 k (by omega), f 12 k (by omega), f 13 k (by omega), f 14 k (by omega)]
      simp (disch := omega) only [u2_ne]
      exact q4 k hk
  · funext k
    simp (disch := omega) only [u2_ne]
/-- TOP, the reference's way -/
theorem m185 {d : Nat} (hd : 3 ≤ d) (hS : sk_G S) (hR : RP I 107 v) (hV : VO v) : sk_c d 185 [.ref 105] (sk_mk S I) = some (some (.int (sj (topV v))), sk_mk S I) := by
  obtain ⟨n1, n2, n3, n4, n5, n6, n7, n8, n9, n10, n11, n12⟩ := hV.1
  obtain ⟨d, rfl⟩ : ∃ e, d = e + 1 := ⟨d - 1, by omega⟩; rw [sk_e185]
  have r0 : I 107 0 = v 0 0 := hR.1 0 (by omega)
  have r1 : I 107 1 = v 0 1 := hR.1 1 (by omega)
  have z0 : (0 : Int).toNat = 0 := rfl
  have z1 : (1 : Int).toNat = 1 := rfl
  obtain ⟨hi, e⟩ := lp_fold0 (fun k s => sk_D185 d 4 [some (.ref 105), some (.int (sj s)), some (.int (sj (k : Int)))] [] (sk_mk S I)) (fun k s => if s < v 10 k then v 10 k else s) (v 0 0).toNat (fun k s => 0 ≤ s ∧ s ≤ 1000) (fun k s hk hs => by
    have hE := hV.2.2.2.1 k (by omega)
    have rk : I 107 (97 + k) = v 10 k := hR.2.2.2.1 k (by omega)
    have t1 : (97 + (k : Int)).toNat = 97 + k := by omega
    have t2 : (k : Int) + 1 = ((k + 1 : Nat) : Int) := rfl
    have e239 := m239 (d := d) (by omega) (x := s) (y := v 10 k) (by omega) (by omega) (by omega) (by omega) (w := sk_mk S I)
    refine ⟨by split <;> omega, ?_⟩
    rw [sk_e185_4]
    simp (disch := omega) only [↓g105_r1b hS, ↓g107_ab hS, ↓Option.bind_some, ↓sk_ci_some, ↓sk_cv_some, ↓sk_cf_some, if_true, eq_self, ite_self, sj_add, z0, r0, t1, t2, rk, e239, sj_ceq, sj_cne, sj_clt, sj_cge, sj_cgt, sj_cle, bi_ceq, bi_cne, bi_01]
    rw [if_neg (by omega)]) 0 ⟨by omega, by omega⟩
  refine e.trans ?_
  rw [sk_e185_4]
  simp (disch := omega) only [↓g105_r1b hS, ↓g107_ab hS, ↓Option.bind_some, ↓sk_ci_some, ↓sk_cv_some, ↓sk_cf_some, if_true, eq_self, ite_self, z0, r0, sj_ceq, sj_cne, sj_clt, sj_cge, sj_cgt, sj_cle, bi_ceq, bi_cne, bi_01]
  rw [if_pos (by omega)]
  obtain ⟨hi2, e2⟩ := lp_fold0 (fun k s => sk_D185 d 36 [some (.ref 105), some (.int (sj s)), some (.int (sj (k : Int)))] [] (sk_mk S I)) (fun p s => if v 5 p = 1 then (if s < v 7 p + v 16 p then v 7 p + v 16 p else s) else s) (v 0 1).toNat (fun k s => 0 ≤ s ∧ s ≤ 1000) (fun k s hk hs => by
    have hl := fun h => vly hV (p := k) (by omega) h
    obtain ⟨p1, p2, p3, p4, p5, p6, p7, p8, p9, p10, -⟩ := vo_p hV (p := k) (by omega)
    have rk : I 107 (77 + k) = v 5 k := (hR.2.1 k (by omega)).2.2.2.2.1
    have t1 : (77 + (k : Int)).toNat = 77 + k := by omega
    have t2 : (k : Int) + 1 = ((k + 1 : Nat) : Int) := rfl
    have t3 : (57 + (k : Int)).toNat = 57 + k := by omega
    refine ⟨by split; · { have := hl (by omega); split <;> omega }; · omega, ?_⟩
    rw [sk_e185_36]
    by_cases h1 : v 5 k = 1
    · have := hl (by omega)
      have ry : I 107 (57 + k) = v 7 k := ((hR.2.1 k (by omega)).2.2.2.2.2 (by omega)).2.1
      have e155 := m155 (S := S) (I := I) (d := d) (by omega) hS hR hV (p := k) (by omega) (by omega)
      have e239 := m239 (d := d) (by omega) (x := s) (y := v 7 k + v 16 k) (by omega) (by omega) (by omega) (by omega) (w := sk_mk S I)
      simp (disch := omega) only [↓g105_r1b hS, ↓g105_ob hS, ↓g107_ab hS, ↓Option.bind_some, ↓sk_ci_some, ↓sk_cv_some, ↓sk_cf_some, if_true, eq_self, ite_self, sj_add, z1, r1, t1, t2, t3, rk, ry, e155, e239, sj_ceq, sj_cne, sj_clt, sj_cge, sj_cgt, sj_cle, bi_ceq, bi_cne, bi_01]
      rw [if_neg (by omega), if_neg (fun h => h h1), if_pos h1]
    · simp (disch := omega) only [↓g105_r1b hS, ↓g105_ob hS, ↓g107_ab hS, ↓Option.bind_some, ↓sk_ci_some, ↓sk_cv_some, ↓sk_cf_some, if_true, eq_self, ite_self, sj_add, z1, r1, t1, t2, rk, sj_ceq, sj_cne, sj_clt, sj_cge, sj_cgt, sj_cle, bi_ceq, bi_cne, bi_01]
      rw [if_neg (by omega), if_pos h1, if_neg h1]) _ hi
  refine e2.trans ?_
  rw [sk_e185_36]
  simp (disch := omega) only [↓g105_r1b hS, ↓g107_ab hS, ↓Option.bind_some, ↓sk_ci_some, ↓sk_cv_some, ↓sk_cf_some, if_true, eq_self, ite_self, z1, r1, sj_ceq, sj_cne, sj_clt, sj_cge, sj_cgt, sj_cle, bi_ceq, bi_cne, bi_01]
  rw [if_pos (by omega)]
  rfl
end CPY
