/-! ===== rule, strip, fix ===== -/
theorem VT_rule {v : sk_H} (hT : VT v) {x w : Int} (x1 : 0 ≤ x) (x2 : x ≤ 3) (w1 : 0 ≤ w) (w2 : w ≤ 1) : VT (u2 (u2 v 0 3 x) 0 4 w) := by
  obtain ⟨⟨hN, hP, hD, hE, hW⟩, h1, h2⟩ := hT
  have f := fun s (h : s ≠ 0) => (funext fun k => by rw [u2_ne _ _ (by omega), u2_ne _ _ (by omega)] : u2 (u2 v 0 3 x) 0 4 w s = v s)
  have e0 : u2 (u2 v 0 3 x) 0 4 w 0 0 = v 0 0 := by rw [u2_ne _ _ (by omega), u2_ne _ _ (by omega)]
  have e1 : u2 (u2 v 0 3 x) 0 4 w 0 1 = v 0 1 := by rw [u2_ne _ _ (by omega), u2_ne _ _ (by omega)]
  have e2 : u2 (u2 v 0 3 x) 0 4 w 0 2 = v 0 2 := by rw [u2_ne _ _ (by omega), u2_ne _ _ (by omega)]
  have e3 : u2 (u2 v 0 3 x) 0 4 w 0 3 = x := by rw [u2_ne _ _ (by omega), u2_eq]
  have e4 : u2 (u2 v 0 3 x) 0 4 w 0 4 = w := u2_eq _ _ _ _
  have e5 : u2 (u2 v 0 3 x) 0 4 w 0 5 = v 0 5 := by rw [u2_ne _ _ (by omega), u2_ne _ _ (by omega)]
  refine ⟨⟨?_, ?_, ?_, ?_, ?_⟩, ?_, ?_⟩
  · unfold VN at hN ⊢
    rw [e0, e1, e2, e3, e4, e5]
    omega
  · intro p hp
    rw [e1] at hp
    have h := hP p hp
    unfold VP acr tal at h ⊢
    rw [e0, f 1 (by omega), f 2 (by omega), f 3 (by omega), f 4 (by omega), f 5 (by omega), f 6 (by omega), f 7 (by omega), f 8 (by omega), f 15 (by omega), f 16 (by omega)]
    exact h
  · unfold VD at hD ⊢
    rw [e1, e2, f 9 (by omega), f 5 (by omega)]
    exact hD
  · unfold VE at hE ⊢
    rw [e0, f 10 (by omega)]
    exact hE
  · unfold VW at hW ⊢
    rw [e0, e5, f 11 (by omega), f 12 (by omega), f 13 (by omega), f 14 (by omega)]
    exact hW
  · unfold ldN at h1 ⊢
    rw [e0, e1, f 10 (by omega), f 5 (by omega)]
    exact h1
  · unfold ldN segN at h2 ⊢
    rw [e0, e1, e5, f 10 (by omega), f 5 (by omega)]
    exact h2
/-- a new strip -/
def stpV (v : sk_H) (w : Int) : sk_H := clrV (u2 (u2 (u2 v 0 0 w) 0 1 0) 0 2 0)
theorem stp_0 (v : sk_H) (w : Int) : stpV v w 0 0 = w ∧ stpV v w 0 1 = 0 ∧ stpV v w 0 2 = 0 ∧ stpV v w 0 3 = v 0 3 ∧ stpV v w 0 4 = v 0 4 ∧ stpV v w 0 5 = 0 := by
  unfold stpV
  refine ⟨?_, ?_, ?_, ?_, ?_, clr_05 _⟩
  · rw [clr_ne _ (by omega) (by omega) (by omega)]; simp [u2]
  · rw [clr_ne _ (by omega) (by omega) (by omega)]; simp [u2]
  · rw [clr_ne _ (by omega) (by omega) (by omega)]; simp [u2]
  · rw [clr_ne _ (by omega) (by omega) (by omega)]; simp [u2]
  · rw [clr_ne _ (by omega) (by omega) (by omega)]; simp [u2]
theorem VT_stpV {v : sk_H} (hV : VO v) {w : Int} (w1 : 1 ≤ w) (w2 : w ≤ 20) : VT (stpV v w) := by
  obtain ⟨n1, n2, n3, n4, n5, n6, n7, n8, n9, n10, n11, n12⟩ := hV.1
  obtain ⟨s0, s1, s2, s3, s4, s5⟩ := stp_0 v w
  have hl : ldN (stpV v w) = 0 := by
    unfold ldN
    rw [s1]
    rfl
  have s10 : ∀ k, k < 20 → stpV v w 10 k = 0 := fun k hk => clr_10 _ hk
  refine ⟨⟨?_, ?_, ⟨?_, ?_⟩, ?_, ?_⟩, ?_, ?_, fun h => absurd h (by rw [hl]; decide)⟩
  · unfold VN
    rw [s0, s1, s2, s3, s4, s5]
    omega
  · intro p hp
    rw [s1] at hp
    omega
  · intro k hk
    rw [s2] at hk
    omega
  · intro j k hj
    rw [s2] at hj
    omega
  · intro c hc
    rw [s0] at hc
    rw [s10 c (by omega)]
    omega
  · intro k hk
    rw [s5] at hk
    omega
  · intro c hc
    rw [s0] at hc
    rw [s10 c (by omega), hl]
    omega
  · rw [s5, hl]
    unfold segN
    rw [s0, cntTo_zero (fun k hk => decide_eq_false (fun h => h (by rw [s10 k (by omega), s10 (k + 1) (by omega)])))]
    omega
theorem ldN_same {v v' : sk_H} (h1 : v' 0 1 = v 0 1) (h : ∀ p : Nat, (p : Int) < v 0 1 → (2 ≤ v' 5 p ↔ 2 ≤ v 5 p)) : ldN v' = ldN v := by
  unfold ldN
  rw [h1]
  exact cntTo_congr (fun p hp => by
    have := h p (by omega)
    by_cases c : 2 ≤ v 5 p
    · rw [decide_eq_true c, decide_eq_true (this.mpr c)]
    · rw [decide_eq_false c, decide_eq_false (fun q => c (this.mp q))])
theorem VT_fixV {v : sk_H} (hT : VT v) {p : Nat} (hp : (p : Int) < v 0 1) (h0 : v 5 p = 0) (ho : inOrd v p = false) {x y : Int} (h1 : 0 ≤ x) (h2 : x + acr v p 0 ≤ v 0 0) (h3 : 0 ≤ y) (h4 : y ≤ 60) : VT (lieV v p x y 0 1) := by
  have hV := hT.1
  obtain ⟨n1, n2, n3, n4, n5, n6, n7, n8, n9, n10, n11, n12⟩ := hV.1
  obtain ⟨l6, l7, l8, l5, l15, l16⟩ := lie_at v p x y 0 1
  have e0 := fun k => lie_ne v p x y 0 1 (s := 0) (k := k) (by omega)
  have e10 := fun k => lie_ne v p x y 0 1 (s := 10) (k := k) (by omega)
  have hl : ldN (lieV v p x y 0 1) = ldN v := ldN_same (e0 1) (fun q hq => by
    by_cases c : q = p
    · subst c; rw [l5, h0]; omega
    · rw [lie_ne v p x y 0 1 (s := 5) (k := q) (by omega)])
  refine ⟨VO_lieV hV hp h1 h2 h3 (by omega) (Or.inl rfl) (by omega) (by omega) (fun _ => ⟨rfl, h4, fun k hk hc => ?_⟩), fun c hc => ?_, ?_⟩
  · have : inOrd v p = true := (anyTo_iff _ _).mpr ⟨k, by omega, decide_eq_true (by
      have := hV.2.2.1.1 k hk
      omega)⟩
    rw [this] at ho
    cases ho
  · rw [e0] at hc
    rw [e10, hl]
    exact hT.2.1 c hc
  · unfold segN
    rw [e0, e0, hl, show lieV v p x y 0 1 10 = v 10 from funext e10]
    exact hT.2.2
theorem VT_unfix {v : sk_H} (hT : VT v) {p : Nat} (hp : (p : Int) < v 0 1) (h1 : v 5 p = 1) : VT (u2 v 5 p 0) := by
  obtain ⟨⟨hN, hP, hD, hE, hW⟩, t1, t2⟩ := hT
  have f := fun s (h : s ≠ 5) => (funext fun k => by rw [u2_ne _ _ (by omega)] : u2 v 5 p 0 s = v s)
  have hl : ldN (u2 v 5 p 0) = ldN v := ldN_same (by rw [f 0 (by omega)]) (fun q hq => by
    by_cases c : q = p
    · subst c; rw [u2_eq, h1]; omega
    · rw [u2_ne _ _ (by omega)])
  refine ⟨⟨?_, ?_, ⟨?_, ?_⟩, ?_, ?_⟩, ?_, ?_⟩
  · unfold VN at hN ⊢
    rw [f 0 (by omega)]
    exact hN
  · intro q hq
    rw [f 0 (by omega)] at hq
    have h := hP q hq
    unfold VP acr tal at h ⊢
    rw [f 0 (by omega), f 1 (by omega), f 2 (by omega), f 3 (by omega), f 4 (by omega), f 6 (by omega), f 7 (by omega), f 8 (by omega), f 15 (by omega), f 16 (by omega)]
    by_cases c : q = p
    · subst c
      rw [u2_eq]
      obtain ⟨q1, q2, q3, q4, q5, q6, q7, q8, q9, q10, q11, q12, q13⟩ := h
      exact ⟨q1, q2, q3, q4, q5, q6, q7, q8, by omega, by omega, q11, fun h => absurd rfl h, fun h => by omega⟩
    · rw [u2_ne _ _ (by omega)]
      exact h
  · intro k hk
    rw [f 0 (by omega)] at hk ⊢
    rw [f 9 (by omega)]
    obtain ⟨d1, d2, d3⟩ := hD.1 k hk
    refine ⟨d1, d2, ?_⟩
    by_cases c : (v 9 k).toNat = p
    · rw [c, u2_eq]; omega
    · rw [u2_ne _ _ (by omega)]; exact d3
  · rw [f 0 (by omega), f 9 (by omega)]
    exact hD.2
  · unfold VE at hE ⊢
    rw [f 0 (by omega), f 10 (by omega)]
    exact hE
  · unfold VW at hW ⊢
    rw [f 0 (by omega), f 11 (by omega), f 12 (by omega), f 13 (by omega), f 14 (by omega)]
    exact hW
  · rw [f 0 (by omega), f 10 (by omega), hl]
    exact t1
  · unfold segN at t2 ⊢
    rw [f 0 (by omega), f 10 (by omega), hl]
    exact t2
theorem RP_lie' {I J v : sk_H} (hV : VO v) (hR : RP I 107 v) {p : Nat} (hp : (p : Int) < v 0 1) {x y o how : Int} (h1 : J 107 (47 + p) = x) (h2 : J 107 (57 + p) = y) (h3 : J 107 (67 + p) = o) (h4 : J 107 (77 + p) = how) (h5 : ∀ q, q ≠ 47 + p → q ≠ 57 + p → q ≠ 67 + p → q ≠ 77 + p → J 107 q = I 107 q) : RP J 107 (lieV v p x y o how) := by
  refine (RP_lie hV hR hp x y o how).fr (funext fun q => ?_)
  unfold u2
  by_cases c4 : q = 77 + p
  · rw [if_pos ⟨rfl, c4⟩, c4, h4]
  rw [if_neg (fun h => c4 h.2)]
  by_cases c3 : q = 67 + p
  · rw [if_pos ⟨rfl, c3⟩, c3, h3]
  rw [if_neg (fun h => c3 h.2)]
  by_cases c2 : q = 57 + p
  · rw [if_pos ⟨rfl, c2⟩, c2, h2]
  rw [if_neg (fun h => c2 h.2)]
  by_cases c1 : q = 47 + p
  · rw [if_pos ⟨rfl, c1⟩, c1, h1]
  rw [if_neg (fun h => c1 h.2)]
  exact h5 q c1 c2 c3 c4
section FAC
variable {S : List sk_Sh} {I v : sk_H} {a : Nat}
theorem f_rule (hS : sk_G S) (hG : GI I v) {x w : Int} (p1 : -2147483648 ≤ x) (p2 : x < 2147483648) (w1 : -2147483648 ≤ w) (w2 : w < 2147483648) : FC S I 110 173 [.int (sj x), .int (sj w)] := by
  have hG0 := hG
  obtain ⟨hv, hT, hR, hTp, hM, hRk, hSh⟩ := hG; have hV := hT.1; have ha : sk_isP 15 := Or.inl rfl; obtain ⟨n1, n2, n3, n4, n5, n6, n7, n8, n9, n10, n11, n12⟩ := hV.1
  have e144 := fun J : sk_H => m144 (d := 19) (by omega) (x := x) (l := 0) (h := 3) p1 p2 (by omega) (by omega) (by omega) (by omega) (w := sk_mk S J)
  have e144' := fun J : sk_H => m144 (d := 19) (by omega) (x := w) (l := 0) (h := 1) w1 w2 (by omega) (by omega) (by omega) (by omega) (w := sk_mk S J)
  by_cases hp : (0 ≤ x ∧ x ≤ 3) ∧ 0 ≤ w ∧ w ≤ 1
  · have hc : w = 0 ∨ w = 1 := by omega
    have hu : v 0 4 = 0 ∨ v 0 4 = 1 := by omega
    have r3 : I 107 3 = v 0 3 := hR.1 3 (by omega)
    have r4 : I 107 4 = v 0 4 := hR.1 4 (by omega)
    have z3 : (3 : Int).toNat = 3 := rfl
    have z4 : (4 : Int).toNat = 4 := rfl
    have e45 : sk_D110 19 45 [some (.ref 1), some (.int (sj x)), some (.int (sj w)), none] [.int (sj (v 0 4)), .int (sj (2 * v 0 3))] (sk_mk S I) = some (some (.int (sj (2 * v 0 3 + v 0 4))), sk_mk S (u2 (u2 I 15 7 x) 15 8 w)) := by
      rw [sk_e110_45]
      simp (disch := omega) only [↓g1_r0b hS, ↓g1_r1b hS, ↓g1_r2b hS, ↓g1_r3b hS, ↓g1_r4b hS, ↓g1_r5b hS, ↓g1_r6b hS, ↓g1_r7b hS, ↓g1_r8b hS, ↓g1_i9b hS, ↓g1_u9b hS, ↓g1_ob hS, ↓pl_u7b hS ha, ↓pl_u8b hS ha, ↓Option.bind_some, ↓sk_ci_some, ↓sk_cv_some, ↓sk_cf_some, if_true, eq_self, ite_self, Bool.true_eq_false, Bool.false_eq_true, if_false, sj_add, sj_ceq, sj_cne, sj_clt, sj_cge, sj_cgt, sj_cle, bi_ceq, bi_cne, bi_01]
      rcases hc with rfl | rfl
      · rw [if_pos (by omega)]
      · rw [if_neg (by omega)]
    have hd3 : decide (0 ≤ x ∧ x ≤ 3) = true := decide_eq_true hp.1
    have hd1 : decide (0 ≤ w ∧ w ≤ 1) = true := decide_eq_true hp.2
    refine ⟨sj (2 * v 0 3 + v 0 4), u2 (u2 I 15 7 x) 15 8 w, u2 (u2 (u2 (u2 I 15 7 x) 15 8 w) 107 3 x) 107 4 w, u2 (u2 v 0 3 x) 0 4 w, ?_, ?_, ?_⟩
    · refine Eq.trans ?_ e45
      rw [sk_e110]
      simp (disch := omega) only [↓g1_r0b hS, ↓g1_r1b hS, ↓g1_r2b hS, ↓g1_r3b hS, ↓g1_r4b hS, ↓g1_r5b hS, ↓g1_r6b hS, ↓g1_r7b hS, ↓g1_r8b hS, ↓g1_i9b hS, ↓g1_u9b hS, ↓g1_ob hS, ↓pl_i7b hS ha, ↓pl_i8b hS ha, ↓Option.bind_some, ↓sk_ci_some, ↓sk_cv_some, ↓sk_cf_some, if_true, eq_self, ite_self, Bool.true_eq_false, Bool.false_eq_true, if_false, sj_mul, vc7 hv, vc8 hv, sj_ceq, sj_cne, sj_clt, sj_cge, sj_cgt, sj_cle, bi_ceq, bi_cne, bi_01]
      rw [if_neg (by omega), if_neg (by omega), if_neg (by omega), if_pos (by omega)]
      rcases hu with h | h
      · rw [if_pos h, h]
      · rw [if_neg (by omega), h]
    · rw [sk_e173]
      simp (disch := omega) only [↓g105_r1b hS, ↓g107_ab hS, ↓g107_sb hS, e144, e144', hd3, hd1, ↓Option.bind_some, ↓sk_ci_some, ↓sk_cv_some, ↓sk_cf_some, if_true, eq_self, ite_self, Bool.true_eq_false, Bool.false_eq_true, if_false, sj_add, sj_mul, z3, z4, u2_ne, r3, r4, sj_ceq, sj_cne, sj_clt, sj_cge, sj_cgt, sj_cle, bi_ceq, bi_cne, bi_01]
    · have h1 : vC (u2 (u2 I 15 7 x) 15 8 w) 15 = u2 (u2 v 0 3 x) 0 4 w := by rw [w8, w7, hv]
      refine GI_GP hG0 ((GP.ofC (J := u2 (u2 I 15 7 x) 15 8 w) (fun b hb => ?_)).trans (GP.ofR (I := u2 (u2 I 15 7 x) 15 8 w) (J := u2 (u2 (u2 (u2 I 15 7 x) 15 8 w) 107 3 x) 107 4 w) (fun b hb => ?_))) ?_ (VT_rule hT hp.1.1 hp.1.2 hp.2.1 hp.2.2) ?_ (by rw [u2_ne _ _ (by omega), u2_ne _ _ (by omega)]; exact Int.le_refl _)
      · funext k
        simp (disch := omega) only [u2_ne]
      · funext k
        simp (disch := omega) only [u2_ne]
      · rw [← h1]
        exact vC_fr (fun b b1 b2 => funext fun k => by simp (disch := omega) only [u2_ne])
      · obtain ⟨q0, q1, q2, q3, q4⟩ := hR
        have f := fun s (h : s ≠ 0) => (funext fun k => by rw [u2_ne _ _ (by omega), u2_ne _ _ (by omega)] : u2 (u2 v 0 3 x) 0 4 w s = v s)
        refine ⟨fun k hk => ?_, fun p hp => ?_, fun k hk => ?_, fun c hc => ?_, fun k hk => ?_⟩
        · match k, hk with
          | 0, _ | 1, _ | 2, _ | 5, _ =>
            simp (disch := omega) only [u2_ne]
            exact q0 _ (by omega)
          | 3, _ | 4, _ => simp [u2]
        · rw [u2_ne _ _ (by omega), u2_ne _ _ (by omega)] at hp
          rw [f 1 (by omega), f 2 (by omega), f 3 (by omega), f 4 (by omega), f 5 (by omega), f 6 (by omega), f 7 (by omega), f 8 (by omega)]
          simp (disch := omega) only [u2_ne]
          exact q1 p hp
        · rw [u2_ne _ _ (by omega), u2_ne _ _ (by omega)] at hk
          rw [f 9 (by omega)]
          simp (disch := omega) only [u2_ne]
          exact q2 k hk
        · rw [u2_ne _ _ (by omega), u2_ne _ _ (by omega)] at hc
          rw [f 10 (by omega)]
          simp (disch := omega) only [u2_ne]
          exact q3 c hc
        · rw [u2_ne _ _ (by omega), u2_ne _ _ (by omega)] at hk
          rw [f 11 (by omega), f 12 (by omega), f 13 (by omega), f 14 (by omega)]
          simp (disch := omega) only [u2_ne]
          exact q4 k hk
  · refine FC_same hG0 (-2) ?_ ?_
    · rw [sk_e110]
      simp (disch := omega) only [sj_ceq, sj_cne, sj_clt, sj_cge, sj_cgt, sj_cle, bi_ceq, bi_cne, bi_01]
      by_cases c1 : x < 0
      · rw [if_pos c1]
      rw [if_neg c1]
      by_cases c2 : 4 ≤ x
      · rw [if_pos c2]
      rw [if_neg c2]
      by_cases c3 : w < 0
      · rw [if_pos c3]
      rw [if_neg c3, if_neg (by omega)]
    · rw [sk_e173, e144, sk_ci_some]
      by_cases c1 : 0 ≤ x ∧ x ≤ 3
      · rw [decide_eq_true c1, if_neg (by rw [bi_ceq]; simp), e144', sk_ci_some, decide_eq_false (by omega), if_neg (by rw [bi_cne]; simp)]
      · rw [decide_eq_false c1, if_pos (by rw [bi_ceq])]
/-- a plan without parts is cleared -/
theorem m38z {d : Nat} (hd : 2 ≤ d) (hS : sk_G S) (ha : sk_isP a) (hv : vC I a = v) (h0 : v 0 1 = 0) : ∃ I', sk_c d 38 [.ref a] (sk_mk S I) = some (none, sk_mk S I') ∧ vC I' a = clrV v ∧ ∀ b, ¬ (a ≤ b ∧ b < a + 19) → I' b = I b := by
  obtain ⟨d, rfl⟩ : ∃ e, d = e + 1 := ⟨d - 1, by omega⟩; rw [sk_e38]
  obtain ⟨I1, e1, h1, f1⟩ := m242 (S := S) (I := I) (d := d) (by omega) (sh_ps hS ha) (by omega) (by omega) (h := 0)
  have hv1 : vC I1 a = skyS v 0 20 0 := by
    rw [← hv]
    exact vC_sky (x := 0) (w := 20) (h := 0) (fun k => by rw [h1 k]; by_cases c : k < 20; rw [if_pos c, if_pos (by omega)]; rw [if_neg c, if_neg (by omega)]) f1
  have hv2 : vC (u2 I1 (a + 4) 4 0) a = clrV v := by
    rw [wz, hv1]
    funext s k
    unfold u2 skyS clrV
    by_cases c1 : s = 10 ∧ k < 20
    · rw [if_pos c1, if_neg (by omega), if_pos (by omega)]
    · rw [if_neg c1]
      by_cases c2 : s = 0 ∧ k = 5
      · rw [if_pos c2, if_pos c2]
      · rw [if_neg c2, if_neg c2, if_neg (by omega), if_neg (by omega)]
  have c5 : u2 I1 (a + 4) 4 0 a 5 = 0 := by rw [vc5 hv2, clr_ne _ (by omega) (by omega) (by omega)]; exact h0
  refine ⟨u2 I1 (a + 4) 4 0, ?_, hv2, fun b hb => ?_⟩
  · simp (disch := omega) only [↓pl_r0b hS ha, ↓pl_r1b hS ha, ↓pl_r2b hS ha, ↓pl_r3b hS ha, ↓pl_i4b hS ha, ↓pl_u4b hS ha, ↓pl_i5b hS ha, ↓pl_u5b hS ha, ↓pl_i6b hS ha, ↓pl_u6b hS ha, ↓pl_i7b hS ha, ↓pl_u7b hS ha, ↓pl_i8b hS ha, ↓pl_u8b hS ha, ↓pl_ob hS ha, ↓pl_pb hS ha, ↓po_ab hS ha, ↓po_sb hS ha, ↓po_nb hS ha, ↓ps_ab hS ha, ↓ps_sb hS ha, ↓ps_nb hS ha, ↓pw_r0b hS ha, ↓pw_r1b hS ha, ↓pw_r2b hS ha, ↓pw_r3b hS ha, ↓pw_i4b hS ha, ↓pw_u4b hS ha, ↓pw_ob hS ha, ↓pw0_ab hS ha, ↓pw0_sb hS ha, ↓pw0_nb hS ha, ↓pw1_ab hS ha, ↓pw1_sb hS ha, ↓pw1_nb hS ha, ↓pw2_ab hS ha, ↓pw2_sb hS ha, ↓pw2_nb hS ha, ↓pw3_ab hS ha, ↓pw3_sb hS ha, ↓pw3_nb hS ha, ↓Option.bind_some, ↓sk_ci_some, ↓sk_cv_some, ↓sk_cf_some, if_true, eq_self, ite_self, Bool.true_eq_false, Bool.false_eq_true, if_false, e1]
    rw [sk_e38_18]
    simp (disch := omega) only [↓pl_r0b hS ha, ↓pl_r1b hS ha, ↓pl_r2b hS ha, ↓pl_r3b hS ha, ↓pl_i4b hS ha, ↓pl_u4b hS ha, ↓pl_i5b hS ha, ↓pl_u5b hS ha, ↓pl_i6b hS ha, ↓pl_u6b hS ha, ↓pl_i7b hS ha, ↓pl_u7b hS ha, ↓pl_i8b hS ha, ↓pl_u8b hS ha, ↓pl_ob hS ha, ↓pl_pb hS ha, ↓po_ab hS ha, ↓po_sb hS ha, ↓po_nb hS ha, ↓ps_ab hS ha, ↓ps_sb hS ha, ↓ps_nb hS ha, ↓Option.bind_some, ↓sk_ci_some, ↓sk_cv_some, ↓sk_cf_some, if_true, eq_self, ite_self, Bool.true_eq_false, Bool.false_eq_true, if_false, c5, sj_ceq, sj_cne, sj_clt, sj_cge, sj_cgt, sj_cle, bi_ceq, bi_cne, bi_01]
    rw [if_pos (by omega)]
  · rw [← f1 b (by omega)]
    funext j
    exact u2_ne _ _ (by omega)
theorem m65 {d : Nat} (hd : 2 ≤ d) (hS : sk_G S) {r : Nat} (hr : r < 4) : ∃ I', sk_c d 65 [.ref (87 + 2 + 4 * r)] (sk_mk S I) = some (none, sk_mk S I') ∧ (∀ i, i < 10 → I' (87 + 3 + 4 * r) i = -1) ∧ ∀ b, b ≠ 87 + 3 + 4 * r → I' b = I b := by
  obtain ⟨d, rfl⟩ : ∃ e, d = e + 1 := ⟨d - 1, by omega⟩; rw [sk_e65]
  obtain ⟨I1, e1, h1, f1⟩ := m242 (S := S) (I := I) (d := d) (by omega) (srk hS hr).2 (by omega) (by omega) (h := -1)
  refine ⟨I1, ?_, fun i hi => by rw [h1, if_pos hi], f1⟩
  rw [rk_r0b hS hr, e1, sk_cv_some]
theorem m140 {d : Nat} (hd : 3 ≤ d) (hS : sk_G S) : ∃ I', sk_c d 140 [.ref 1] (sk_mk S I) = some (none, sk_mk S I') ∧ (∀ r, r < 4 → ∀ i, i < 10 → I' (87 + 3 + 4 * r) i = -1) ∧ ∀ b, (∀ r, r < 4 → b ≠ 87 + 3 + 4 * r) → I' b = I b := by
  obtain ⟨d, rfl⟩ : ∃ e, d = e + 1 := ⟨d - 1, by omega⟩; rw [sk_e140]
  have key := lp_run (fun k (X : Option sk_R) => ∃ I', X = sk_D140 d 2 [some (.ref 1), some (.int (sj (k : Int)))] [] (sk_mk S I') ∧ (∀ r, r < k → ∀ i, i < 10 → I' (87 + 3 + 4 * r) i = -1) ∧ ∀ b, (∀ r, r < 4 → b ≠ 87 + 3 + 4 * r) → I' b = I b) 4 (fun k X hk hX => by
    obtain ⟨I1, rfl, h1, f1⟩ := hX
    obtain ⟨I2, e2, h2, f2⟩ := m65 (S := S) (I := I1) (d := d) (by omega) hS hk
    have t1 : (k : Int) + 1 = ((k + 1 : Nat) : Int) := rfl
    have hq : sk_aldr (sk_mk S I1) 87 (sj (k : Int)) = some (87 + 2 + 4 * k) := g87_q hS (by omega) (by omega)
    refine ⟨I2, ?_, fun r hr i hi => ?_, fun b hb => (f2 b (hb k hk)).trans (f1 b hb)⟩
    · rw [sk_e140_2, if_neg (by rw [sj_cge (by omega) (by omega) (by omega) (by omega)]; omega), g1_r7b hS, hq, Option.bind_some, rk_ob hS hk, e2, sk_cv_some, sj_add, t1]
    · by_cases c : r = k
      · subst c; exact h2 i hi
      · rw [f2 _ (by omega)]; exact h1 r (by omega) i hi) ⟨I, rfl, fun r hr => by omega, fun _ _ => rfl⟩
  obtain ⟨I1, e1, h1, f1⟩ := key
  refine ⟨I1, ?_, h1, f1⟩
  refine e1.trans ?_
  rw [sk_e140_2, if_pos (by rw [sj_cge (by omega) (by omega) (by omega) (by omega)]; omega)]
theorem m221 {d : Nat} (hd : 1 ≤ d) (hS : sk_G S) : ∃ I', sk_c d 221 [.ref 105] (sk_mk S I) = some (none, sk_mk S I') ∧ (∀ r, r < 4 → ∀ i, i < 10 → I' (120 + r) i = -1) ∧ ∀ b, ¬ (120 ≤ b ∧ b < 124) → I' b = I b := by
  obtain ⟨d, rfl⟩ : ∃ e, d = e + 1 := ⟨d - 1, by omega⟩; rw [sk_e221]
  have key := lp_run (fun k (X : Option sk_R) => ∃ I' o2, X = sk_D221 d 2 [some (.ref 105), some (.int (sj (k : Int))), o2] [] (sk_mk S I') ∧ (∀ r, r < k → ∀ i, i < 10 → I' (120 + r) i = -1) ∧ ∀ b, ¬ (120 ≤ b ∧ b < 124) → I' b = I b) 4 (fun k X hk hX => by
    obtain ⟨I1, o2, rfl, h1, f1⟩ := hX
    have t1 : (k : Int) + 1 = ((k + 1 : Nat) : Int) := rfl
    have inn := lp_run (fun j (X : Option sk_R) => ∃ I', X = sk_D221 d 9 [some (.ref 105), some (.int (sj (k : Int))), some (.int (sj (j : Int)))] [] (sk_mk S I') ∧ (∀ i, i < j → I' (120 + k) i = -1) ∧ ∀ b, b ≠ 120 + k → I' b = I1 b) 10 (fun j X hj hX => by
      obtain ⟨I2, rfl, h2, f2⟩ := hX
      have t2 : (j : Int) + 1 = ((j + 1 : Nat) : Int) := rfl
      have hq : sk_aldr (sk_mk S I2) 119 (sj (k : Int)) = some (120 + k) := g119_q hS (by omega) (by omega)
      refine ⟨u2 I2 (120 + k) j (-1), ?_, fun i hi => ?_, fun b hb => ?_⟩
      · rw [sk_e221_9, if_neg (by rw [sj_cge (by omega) (by omega) (by omega) (by omega)]; omega), g105_r18b hS, hq, Option.bind_some, mr_sb hS hk (by omega) (by omega), sj_add, t2, Int.toNat_natCast]
      · by_cases c : i = j
        · subst c; exact u2_eq _ _ _ _
        · rw [u2_ne _ _ (by omega)]; exact h2 i (by omega)
      · rw [← f2 b hb]
        funext q
        exact u2_ne _ _ (by omega)) ⟨I1, rfl, fun i hi => by omega, fun _ _ => rfl⟩
    obtain ⟨I2, e2, h2, f2⟩ := inn
    refine ⟨I2, some (.int (sj ((10 : Nat) : Int))), ?_, fun r hr i hi => ?_, fun b hb => (f2 b (by omega)).trans (f1 b hb)⟩
    · rw [sk_e221_2, if_neg (by rw [sj_cge (by omega) (by omega) (by omega) (by omega)]; omega)]
      refine e2.trans ?_
      rw [sk_e221_9, if_pos (by rw [sj_cge (by omega) (by omega) (by omega) (by omega)]; omega), sj_add, t1]
    · by_cases c : r = k
      · subst c; exact h2 i hi
      · rw [f2 _ (by omega)]; exact h1 r (by omega) i hi) ⟨I, none, rfl, fun r hr => by omega, fun _ _ => rfl⟩
  obtain ⟨I1, o2, e1, h1, f1⟩ := key
  refine ⟨I1, ?_, h1, f1⟩
  refine e1.trans ?_
  rw [sk_e221_2, if_pos (by rw [sj_cge (by omega) (by omega) (by omega) (by omega)]; omega)]
/-- the racks are empty then, and the plan is another -/
theorem GI_empty {I J v v' : sk_H} (hG : GI I v) (hv : vC J 15 = v') (hT : VT v') (hR : RP J 107 v') (h1 : ∀ b, ¬ (15 ≤ b ∧ b < 34) → b ≠ 107 → (∀ r, r < 4 → b ≠ 87 + 3 + 4 * r) → ¬ (120 ≤ b ∧ b < 124) → J b = I b) (h2 : ∀ r, r < 4 → ∀ i, i < 10 → J (87 + 3 + 4 * r) i = -1) (h3 : ∀ r, r < 4 → ∀ i, i < 10 → J (120 + r) i = -1) : GI J v' := by
  obtain ⟨-, -, -, g4, g5, g6, g7⟩ := hG
  have f := fun b (h : ¬ (15 ≤ b ∧ b < 34) ∧ b ≠ 107 ∧ (b < 87 ∨ 105 ≤ b) ∧ ¬ (120 ≤ b ∧ b < 124)) => h1 b h.1 h.2.1 (fun r hr => by omega) h.2.2.2
  have hn := hT.1.1
  refine ⟨hv, hT, hR, ?_, ?_, fun r hr => ?_, fun s hs => ?_⟩
  · exact GT_fr g4 (by rw [f 2 (by omega)]) (by rw [f 105 (by omega)]) (f 3 (by omega)) (f 110 (by omega)) (fun k hk => f _ (by omega))
  · exact GM_fr g5 (f 1 (by omega)) (by rw [f 105 (by omega)]) (fun b b1 b2 => f b (by omega)) (f 108 (by omega))
  · have e := h1 (87 + 2 + 4 * r) (by omega) (by omega) (fun q hq => by omega) (by omega)
    have q := (g6 r hr).2
    unfold GR1
    rw [e, f 117 (by omega), f 118 (by omega)]
    refine ⟨fun i hi => by rw [h2 r hr i hi, h3 r hr i hi], ?_⟩
    rcases q with q | ⟨b1, b2, b3, b4, b5, b6, b7⟩
    · exact Or.inl q
    · refine Or.inr ⟨b1, b2, b3, b4, b5, b6, fun i hi => ?_⟩
      rw [h3 r hr i hi]
      obtain ⟨n1, n2, n3, -⟩ := hn
      omega
  · exact GH1_fr (g7 s hs) (h1 _ (by omega) (by omega) (fun q hq => by omega) (by omega)) (h1 _ (by omega) (by omega) (fun q hq => by omega) (by omega)) (f _ (by omega)) (f 125 (by omega)) (f 126 (by omega))
theorem f_strip (hS : sk_G S) (hG : GI I v) {w : Int} (w1 : -2147483648 ≤ w) (w2 : w < 2147483648) : FC S I 103 159 [.int (sj w)] := by
  have hG0 := hG
  obtain ⟨hv, hT, hR, hTp, hM, hRk, hSh⟩ := hG; have hV := hT.1; have ha : sk_isP 15 := Or.inl rfl; obtain ⟨n1, n2, n3, n4, n5, n6, n7, n8, n9, n10, n11, n12⟩ := hV.1
  have e144 := fun J : sk_H => m144 (d := 19) (by omega) (x := w) (l := 1) (h := 20) w1 w2 (by omega) (by omega) (by omega) (by omega) (w := sk_mk S J)
  by_cases hw : 1 ≤ w ∧ w ≤ 20
  · -- the class
    have hvb : vC (u2 (u2 (u2 I 15 4 w) 15 5 0) 15 6 0) 15 = u2 (u2 (u2 v 0 0 w) 0 1 0) 0 2 0 := by rw [w6, w5, w4, hv]
    obtain ⟨I1, e1, h1, f1⟩ := m38z (S := S) (d := 18) (by omega) hS ha hvb (by simp [u2])
    have fb : ∀ b, ¬ (15 ≤ b ∧ b < 34) → u2 (u2 (u2 I 15 4 w) 15 5 0) 15 6 0 b = I b := fun b hb => funext fun k => by simp (disch := omega) only [u2_ne]
    have e37 : sk_c 19 37 [.ref 15, .int (sj w)] (sk_mk S I) = some (none, sk_mk S I1) := by
      rw [sk_e37, pl_u4b hS ha, pl_u5b hS ha, pl_u6b hS ha, pl_ob hS ha, e1, sk_cv_some]
    obtain ⟨I2, e2, h2, f2⟩ := m140 (S := S) (I := I1) (d := 19) (by omega) hS
    have hc : sk_c 20 103 [.ref 1, .int (sj w)] (sk_mk S I) = some (some (.int (sj (v 0 0))), sk_mk S I2) := by
      rw [sk_e103, if_neg (by rw [sj_clt (by omega) (by omega) (by omega) (by omega)]; omega), if_pos (by rw [sj_cle (by omega) (by omega) (by omega) (by omega)]; omega), g1_r1b hS, pl_i4b hS ha, g1_r1b hS, pl_ob hS ha, e37, sk_cv_some, g1_ob hS, e2, sk_cv_some, vc4 hv]
    -- the reference
    have hI2 : ∀ b, ¬ (15 ≤ b ∧ b < 34) → (∀ r, r < 4 → b ≠ 87 + 3 + 4 * r) → I2 b = I b := fun b hb hr => (f2 b hr).trans ((f1 b hb).trans (fb b hb))
    have e107 : I2 107 = I 107 := hI2 107 (by omega) (fun r hr => by omega)
    have r0 : I2 107 0 = v 0 0 := by rw [e107]; exact hR.1 0 (by omega)
    have r3 : I2 107 3 = v 0 3 := by rw [e107]; exact hR.1 3 (by omega)
    have r4 : I2 107 4 = v 0 4 := by rw [e107]; exact hR.1 4 (by omega)
    have z0 : (0 : Int).toNat = 0 := rfl
    have z3 : (3 : Int).toNat = 3 := rfl
    have z4 : (4 : Int).toNat = 4 := rfl
    have key := lp_run (fun k (X : Option sk_R) => ∃ I', X = sk_D159 19 38 [some (.ref 105), some (.int (sj w)), some (.int (sj (v 0 0))), some (.int (sj (v 0 3))), some (.int (sj (v 0 4))), some (.int (sj (k : Int)))] [] (sk_mk S I') ∧ (∀ q, q < k → I' 107 q = 0) ∧ ∀ b, b ≠ 107 → I' b = I2 b) 1141 (fun k X hk hX => by
      obtain ⟨I3, rfl, h3, f3⟩ := hX
      have t1 : (k : Int) + 1 = ((k + 1 : Nat) : Int) := rfl
      refine ⟨u2 I3 107 k 0, ?_, fun q hq => ?_, fun b hb => ?_⟩
      · rw [sk_e159_38, if_neg (by rw [sj_cge (by omega) (by omega) (by omega) (by omega)]; omega), g105_r1b hS, g107_sb hS (by omega) (by omega), sj_add, t1, Int.toNat_natCast]
      · by_cases c : q = k
        · subst c; exact u2_eq _ _ _ _
        · rw [u2_ne _ _ (by omega)]; exact h3 q (by omega)
      · rw [← f3 b hb]
        funext q
        exact u2_ne _ _ (by omega)) ⟨I2, rfl, fun q hq => by omega, fun _ _ => rfl⟩
    obtain ⟨I3, e3, h3, f3⟩ := key
    obtain ⟨I4, e4, h4, f4⟩ := m221 (S := S) (I := u2 (u2 (u2 I3 107 0 w) 107 3 (v 0 3)) 107 4 (v 0 4)) (d := 19) (by omega) hS
    have hr : sk_c 20 159 [.ref 105, .int (sj w)] (sk_mk S I2) = some (some (.int (sj (v 0 0))), sk_mk S I4) := by
      rw [sk_e159, e144, sk_ci_some, decide_eq_true hw, if_pos (by rw [bi_cne]), g105_r1b hS, g107_ab hS (by omega) (by omega), g105_r1b hS, g107_ab hS (by omega) (by omega), g105_r1b hS, g107_ab hS (by omega) (by omega), z0, z3, z4, r0, r3, r4]
      refine e3.trans ?_
      rw [sk_e159_38, if_pos (by rw [sj_cge (by omega) (by omega) (by omega) (by omega)]; omega), g105_r1b hS, g107_sb hS (by omega) (by omega), g105_r1b hS, g107_sb hS (by omega) (by omega), g105_r1b hS, g107_sb hS (by omega) (by omega), z0, z3, z4, g105_ob hS, e4, sk_cv_some]
    refine ⟨_, I2, I4, stpV v w, hc, hr, ?_⟩
    have hI4 : ∀ b, b ≠ 107 → ¬ (120 ≤ b ∧ b < 124) → I4 b = I2 b := fun b hb hc => by
      rw [f4 b hc, ← f3 b hb]
      funext q
      simp (disch := omega) only [u2_ne]
    refine GI_empty hG0 ?_ (VT_stpV hV hw.1 hw.2) ?_ (fun b b1 b2 b3 b4 => (hI4 b b2 b4).trans (hI2 b b1 b3)) (fun r hr i hi => ?_) h4
    · have e : vC I4 15 = vC I1 15 := vC_fr (fun b b1 b2 => (hI4 b (by omega) (by omega)).trans (f2 b (fun r hr => by omega)))
      rw [e, h1]
      rfl
    · obtain ⟨s0, s1, s2, s3, s4, s5⟩ := stp_0 v w
      have e4 : I4 107 = u2 (u2 (u2 I3 107 0 w) 107 3 (v 0 3)) 107 4 (v 0 4) 107 := f4 107 (by omega)
      refine ⟨fun k hk => ?_, fun p hp => ?_, fun k hk => ?_, fun c hc => ?_, fun k hk => ?_⟩
      · rw [e4]
        match k, hk with
        | 0, _ => rw [s0]; simp [u2]
        | 1, _ => rw [s1]; simp (disch := omega) only [u2_ne]; exact h3 1 (by omega)
        | 2, _ => rw [s2]; simp (disch := omega) only [u2_ne]; exact h3 2 (by omega)
        | 3, _ => rw [s3]; simp [u2]
        | 4, _ => rw [s4]; simp [u2]
        | 5, _ => rw [s5]; simp (disch := omega) only [u2_ne]; exact h3 5 (by omega)
      · rw [s1] at hp; omega
      · rw [s2] at hk; omega
      · rw [s0] at hc
        rw [e4, show stpV v w 10 c = 0 from clr_10 _ (by omega)]
        simp (disch := omega) only [u2_ne]
        exact h3 _ (by omega)
      · rw [s5] at hk; omega
    · rw [hI4 _ (by omega) (by omega)]
      exact h2 r hr i hi
  · refine FC_same hG0 (-2) ?_ ?_
    · rw [sk_e103]
      simp (disch := omega) only [sj_ceq, sj_cne, sj_clt, sj_cge, sj_cgt, sj_cle, bi_ceq, bi_cne, bi_01]
      by_cases c1 : w < 1
      · rw [if_pos c1]
      · rw [if_neg c1, if_neg (by omega)]
    · rw [sk_e159, e144, sk_ci_some, decide_eq_false hw, if_neg (by rw [bi_cne]; simp)]
end FAC
