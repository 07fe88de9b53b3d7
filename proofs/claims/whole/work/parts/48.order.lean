/-! ===== order ===== -/
def apS (f : Nat → Bool) (g : Nat → Int) (i : Nat) (s : sk_H) : sk_H := if f i = true then u2 (u2 s 9 (s 0 2).toNat (g i)) 0 2 (s 0 2 + 1) else s
def apV (v : sk_H) (f : Nat → Bool) (g : Nat → Int) (n : Nat) : sk_H := fld n (apS f g) (u2 v 0 2 0)
theorem apV_succ (v : sk_H) (f : Nat → Bool) (g : Nat → Int) (n : Nat) : apV v f g (n + 1) = apS f g n (apV v f g n) := rfl
theorem apV_0 (v : sk_H) (f : Nat → Bool) (g : Nat → Int) : apV v f g 0 0 2 = 0 := by
  show u2 v 0 2 0 0 2 = 0
  exact u2_eq v 0 2 0
theorem apV_inv {v : sk_H} {f : Nat → Bool} {g : Nat → Int} {N : Nat} (h : ∀ i, i < N → f i = true → 0 ≤ g i ∧ g i < v 0 1 ∧ v 5 (g i).toNat ≠ 1 ∧ ∀ k, k < i → f k = true → g k ≠ g i) : ∀ n, n ≤ N → (∀ t k, t ≠ 9 → ¬ (t = 0 ∧ k = 2) → apV v f g n t k = v t k) ∧ 0 ≤ apV v f g n 0 2 ∧ apV v f g n 0 2 ≤ n ∧ (∀ j : Nat, (j : Int) < apV v f g n 0 2 → ∃ i, i < n ∧ f i = true ∧ apV v f g n 9 j = g i) ∧ ∀ i j : Nat, i < j → (j : Int) < apV v f g n 0 2 → apV v f g n 9 i ≠ apV v f g n 9 j := by
  intro n
  induction n with
  | zero =>
    intro _
    have e : apV v f g 0 0 2 = 0 := apV_0 v f g
    refine ⟨fun t k h1 h2 => u2_ne _ _ (by omega), by omega, by omega, fun j hj => by omega, fun i j _ hj => by omega⟩
  | succ n ih =>
    intro hn
    obtain ⟨i1, i2, i3, i4, i5⟩ := ih (by omega)
    rw [apV_succ]
    unfold apS
    cases hf : f n with
    | false =>
      rw [if_neg (by simp)]
      exact ⟨i1, i2, by omega, fun j hj => by obtain ⟨i, a, b⟩ := i4 j hj; exact ⟨i, by omega, b⟩, i5⟩
    | true =>
      rw [if_pos rfl]
      obtain ⟨z, hz⟩ : ∃ z : Nat, apV v f g n 0 2 = z := ⟨(apV v f g n 0 2).toNat, by omega⟩
      rw [hz] at i2 i3 i4 i5 ⊢
      rw [Int.toNat_natCast]
      have e0 : u2 (u2 (apV v f g n) 9 z (g n)) 0 2 ((z : Int) + 1) 0 2 = z + 1 := u2_eq _ _ _ _
      have e9 : ∀ j : Nat, u2 (u2 (apV v f g n) 9 z (g n)) 0 2 ((z : Int) + 1) 9 j = if j = z then g n else apV v f g n 9 j := fun j => by
        rw [u2_ne _ _ (by omega)]
        unfold u2
        by_cases c : j = z
        · rw [if_pos ⟨rfl, c⟩, if_pos c]
        · rw [if_neg (by omega), if_neg c]
      rw [e0]
      refine ⟨fun t k h1 h2 => by rw [u2_ne _ _ (by omega), u2_ne _ _ (by omega)]; exact i1 t k h1 h2, by omega, by omega, fun j hj => ?_, fun i j hij hj => ?_⟩
      · rw [e9]
        by_cases c : j = z
        · rw [if_pos c]; exact ⟨n, by omega, hf, rfl⟩
        · rw [if_neg c]
          obtain ⟨i, a, b⟩ := i4 j (by omega)
          exact ⟨i, by omega, b⟩
      · rw [e9, e9, if_neg (show ¬ i = z by omega)]
        by_cases c : j = z
        · rw [if_pos c]
          obtain ⟨k, a, b, d⟩ := i4 i (by omega)
          rw [d]
          exact (h n (by omega) hf).2.2.2 k a b
        · rw [if_neg c]
          exact i5 i j hij (by omega)
theorem VT_apV {v : sk_H} (hT : VT v) {f : Nat → Bool} {g : Nat → Int} {N : Nat} (hN10 : N ≤ 10) (h : ∀ i, i < N → f i = true → 0 ≤ g i ∧ g i < v 0 1 ∧ v 5 (g i).toNat ≠ 1 ∧ ∀ k, k < i → f k = true → g k ≠ g i) : VT (apV v f g N) := by
  obtain ⟨i1, i2, i3, i4, i5⟩ := apV_inv h N (Nat.le_refl _)
  obtain ⟨⟨hN, hP, hD, hE, hW⟩, t1, t2⟩ := hT
  generalize apV v f g N = u at *
  have fs := fun s (hs : s ≠ 9 ∧ s ≠ 0) => (funext fun k => i1 s k hs.1 (by omega) : u s = v s)
  have e0 := fun k (hk : k ≠ 2) => i1 0 k (by omega) (by omega)
  refine ⟨⟨?_, ?_, ⟨?_, ?_⟩, ?_, ?_⟩, ?_, ?_⟩
  · unfold VN at hN ⊢
    rw [e0 0 (by omega), e0 1 (by omega), e0 3 (by omega), e0 4 (by omega), e0 5 (by omega)]
    omega
  · intro p hp
    rw [e0 1 (by omega)] at hp
    have h := hP p hp
    unfold VP acr tal at h ⊢
    rw [e0 0 (by omega), fs 1 (by omega), fs 2 (by omega), fs 3 (by omega), fs 4 (by omega), fs 5 (by omega), fs 6 (by omega), fs 7 (by omega), fs 8 (by omega), fs 15 (by omega), fs 16 (by omega)]
    exact h
  · intro k hk
    obtain ⟨i, a, b, d⟩ := i4 k hk
    obtain ⟨g1, g2, g3, -⟩ := h i a b
    rw [d, e0 1 (by omega), fs 5 (by omega)]
    exact ⟨g1, g2, g3⟩
  · intro j k hj hk hjk
    by_cases c1 : j < k
    · exact absurd hjk (i5 j k c1 hk)
    · by_cases c2 : k < j
      · exact absurd hjk.symm (i5 k j c2 hj)
      · omega
  · unfold VE at hE ⊢
    rw [e0 0 (by omega), fs 10 (by omega)]
    exact hE
  · unfold VW at hW ⊢
    rw [e0 0 (by omega), e0 5 (by omega), fs 11 (by omega), fs 12 (by omega), fs 13 (by omega), fs 14 (by omega)]
    exact hW
  · unfold ldN at t1 ⊢
    rw [e0 0 (by omega), e0 1 (by omega), fs 10 (by omega), fs 5 (by omega)]
    exact t1
  · unfold ldN segN at t2 ⊢
    rw [e0 0 (by omega), e0 1 (by omega), e0 5 (by omega), fs 10 (by omega), fs 5 (by omega)]
    exact t2
theorem RP_ap {I J v u : sk_H} (hN : VN v) (hR : RP I 107 v) (hq : ∀ q, ¬ (87 ≤ q ∧ q < 97) → q ≠ 2 → J 107 q = I 107 q) (h2 : J 107 2 = u 0 2) (h9 : ∀ j : Nat, (j : Int) < u 0 2 → J 107 (87 + j) = u 9 j) (hu : ∀ t k, t ≠ 9 → ¬ (t = 0 ∧ k = 2) → u t k = v t k) : RP J 107 u := by
  obtain ⟨n1, n2, n3, n4, n5, n6, n7, n8, n9, n10, n11, n12⟩ := hN
  obtain ⟨r0, r1, r2, r3, r4⟩ := hR
  have e0 := fun k (hk : k ≠ 2) => hu 0 k (by omega) (by omega)
  have e := fun s k (hs : s ≠ 9 ∧ s ≠ 0) => hu s k hs.1 (by omega)
  refine ⟨fun k hk => ?_, fun p hp => ?_, h9, fun c hc => ?_, fun k hk => ?_⟩
  · by_cases c : k = 2
    · subst c; exact h2
    · rw [hq k (by omega) c, e0 k c]; exact r0 k hk
  · rw [e0 1 (by omega)] at hp
    rw [e 1 p (by omega), e 2 p (by omega), e 3 p (by omega), e 4 p (by omega), e 5 p (by omega), e 6 p (by omega), e 7 p (by omega), e 8 p (by omega)]
    rw [hq _ (by omega) (by omega), hq _ (by omega) (by omega), hq _ (by omega) (by omega), hq _ (by omega) (by omega), hq _ (by omega) (by omega), hq _ (by omega) (by omega), hq _ (by omega) (by omega), hq _ (by omega) (by omega)]
    exact r1 p hp
  · rw [e0 0 (by omega)] at hc
    rw [hq _ (by omega) (by omega), e 10 c (by omega)]
    exact r3 c hc
  · rw [e0 5 (by omega)] at hk
    rw [hq _ (by omega) (by omega), hq _ (by omega) (by omega), hq _ (by omega) (by omega), hq _ (by omega) (by omega), e 11 k (by omega), e 12 k (by omega), e 13 k (by omega), e 14 k (by omega)]
    exact r4 k hk
def nfx (v : sk_H) (p : Nat) : Bool := decide (v 5 p ≠ 1)
def natI (p : Nat) : Int := (p : Int)
theorem all_ok {v : sk_H} (hV : VO v) : ∀ i, i < (v 0 1).toNat → nfx v i = true → 0 ≤ natI i ∧ natI i < v 0 1 ∧ v 5 (natI i).toNat ≠ 1 ∧ ∀ k, k < i → nfx v k = true → natI k ≠ natI i := by
  obtain ⟨n1, n2, n3, n4, n5, n6, n7, n8, n9, n10, n11, n12⟩ := hV.1
  intro i hi hf
  unfold natI
  rw [Int.toNat_natCast]
  exact ⟨by omega, by omega, of_decide_eq_true hf, fun k hk _ => by omega⟩
section ORD
variable {S : List sk_Sh} {I v : sk_H} {a : Nat}
theorem m44 {d : Nat} (hd : 1 ≤ d) (hS : sk_G S) (ha : sk_isP a) (hv : vC I a = v) (hV : VO v) : ∃ I', sk_c d 44 [.ref a] (sk_mk S I) = some (none, sk_mk S I') ∧ vC I' a = apV v (nfx v) natI (v 0 1).toNat ∧ ∀ b, ¬ (a ≤ b ∧ b < a + 19) → I' b = I b := by
  obtain ⟨n1, n2, n3, n4, n5, n6, n7, n8, n9, n10, n11, n12⟩ := hV.1
  obtain ⟨d, rfl⟩ : ∃ e, d = e + 1 := ⟨d - 1, by omega⟩; rw [sk_e44]
  have key := lp_run (fun k (X : Option sk_R) => ∃ I', X = sk_D44 d 7 [some (.ref a), some (.int (sj (k : Int)))] [] (sk_mk S I') ∧ vC I' a = apV v (nfx v) natI k ∧ ∀ b, ¬ (a ≤ b ∧ b < a + 19) → I' b = I b) (v 0 1).toNat (fun k X hk hX => by
    obtain ⟨I1, rfl, h1, f1⟩ := hX
    obtain ⟨i1, i2, i3, i4, i5⟩ := apV_inv (all_ok hV) k (by omega)
    obtain ⟨p1, p2, p3, p4, p5, p6, p7, p8, p9, p10, -⟩ := vo_p hV (p := k) (by omega)
    obtain ⟨z, hz⟩ : ∃ z : Nat, apV v (nfx v) natI k 0 2 = z := ⟨(apV v (nfx v) natI k 0 2).toNat, by omega⟩
    have c5 : I1 a 5 = v 0 1 := by rw [vc5 h1]; exact i1 0 1 (by omega) (by omega)
    have c6 : I1 a 6 = z := by rw [vc6 h1]; exact hz
    have cp : I1 (a + 9 + k) 4 = v 5 k := by rw [vp4 h1 (by omega)]; exact i1 5 k (by omega) (by omega)
    have t1 : (k : Int) + 1 = ((k + 1 : Nat) : Int) := rfl
    rw [apV_succ]
    unfold apS
    rw [hz, Int.toNat_natCast]
    by_cases c : v 5 k = 1
    · have hf : nfx v k = false := decide_eq_false (fun h => h c)
      rw [hf, if_neg (by simp)]
      refine ⟨I1, ?_, h1, f1⟩
      rw [sk_e44_7]
      simp (disch := omega) only [↓pl_r0b hS ha, ↓pl_r1b hS ha, ↓pl_r2b hS ha, ↓pl_r3b hS ha, ↓pl_i4b hS ha, ↓pl_u4b hS ha, ↓pl_i5b hS ha, ↓pl_u5b hS ha, ↓pl_i6b hS ha, ↓pl_u6b hS ha, ↓pl_i7b hS ha, ↓pl_u7b hS ha, ↓pl_i8b hS ha, ↓pl_u8b hS ha, ↓pl_ob hS ha, ↓pl_pb hS ha, ↓po_ab hS ha, ↓po_sb hS ha, ↓po_nb hS ha, ↓ps_ab hS ha, ↓ps_sb hS ha, ↓ps_nb hS ha, ↓pq_i0b hS ha, ↓pq_u0b hS ha, ↓pq_i1b hS ha, ↓pq_u1b hS ha, ↓pq_i2b hS ha, ↓pq_u2b hS ha, ↓pq_i3b hS ha, ↓pq_u3b hS ha, ↓pq_i4b hS ha, ↓pq_u4b hS ha, ↓pq_i5b hS ha, ↓pq_u5b hS ha, ↓pq_i6b hS ha, ↓pq_u6b hS ha, ↓pq_i7b hS ha, ↓pq_u7b hS ha, ↓pq_i8b hS ha, ↓pq_u8b hS ha, ↓pq_i9b hS ha, ↓pq_u9b hS ha, ↓pq_ob hS ha, ↓Option.bind_some, ↓sk_ci_some, ↓sk_cv_some, ↓sk_cf_some, if_true, eq_self, ite_self, Bool.true_eq_false, Bool.false_eq_true, if_false, c5, cp, Int.toNat_natCast, sj_add, t1, sj_ceq, sj_cne, sj_clt, sj_cge, sj_cgt, sj_cle, bi_ceq, bi_cne, bi_01]
      rw [if_neg (by omega), if_pos c]
    · have hf : nfx v k = true := decide_eq_true c
      rw [hf, if_pos rfl]
      refine ⟨u2 (u2 I1 (a + 2) z k) a 6 (z + 1), ?_, ?_, fun b hb => ?_⟩
      · rw [sk_e44_7]
        simp (disch := omega) only [↓pl_r0b hS ha, ↓pl_r1b hS ha, ↓pl_r2b hS ha, ↓pl_r3b hS ha, ↓pl_i4b hS ha, ↓pl_u4b hS ha, ↓pl_i5b hS ha, ↓pl_u5b hS ha, ↓pl_i6b hS ha, ↓pl_u6b hS ha, ↓pl_i7b hS ha, ↓pl_u7b hS ha, ↓pl_i8b hS ha, ↓pl_u8b hS ha, ↓pl_ob hS ha, ↓pl_pb hS ha, ↓po_ab hS ha, ↓po_sb hS ha, ↓po_nb hS ha, ↓ps_ab hS ha, ↓ps_sb hS ha, ↓ps_nb hS ha, ↓pq_i0b hS ha, ↓pq_u0b hS ha, ↓pq_i1b hS ha, ↓pq_u1b hS ha, ↓pq_i2b hS ha, ↓pq_u2b hS ha, ↓pq_i3b hS ha, ↓pq_u3b hS ha, ↓pq_i4b hS ha, ↓pq_u4b hS ha, ↓pq_i5b hS ha, ↓pq_u5b hS ha, ↓pq_i6b hS ha, ↓pq_u6b hS ha, ↓pq_i7b hS ha, ↓pq_u7b hS ha, ↓pq_i8b hS ha, ↓pq_u8b hS ha, ↓pq_i9b hS ha, ↓pq_u9b hS ha, ↓pq_ob hS ha, ↓Option.bind_some, ↓sk_ci_some, ↓sk_cv_some, ↓sk_cf_some, if_true, eq_self, ite_self, Bool.true_eq_false, Bool.false_eq_true, if_false, c5, c6, cp, Int.toNat_natCast, sj_add, t1, u2_ne, sj_ceq, sj_cne, sj_clt, sj_cge, sj_cgt, sj_cle, bi_ceq, bi_cne, bi_01]
        rw [if_neg (by omega), if_neg c]
      · rw [w6, wo_, h1]
        try rfl
      · rw [← f1 b hb]
        funext q
        simp (disch := omega) only [u2_ne]) ⟨u2 I a 6 0, rfl, by rw [w6, hv]; rfl, fun b hb => funext fun q => u2_ne _ _ (by omega)⟩
  obtain ⟨I1, e1, h1, f1⟩ := key
  obtain ⟨i1, i2, i3, i4, i5⟩ := apV_inv (all_ok hV) (v 0 1).toNat (by omega)
  have c5 : I1 a 5 = v 0 1 := by rw [vc5 h1]; exact i1 0 1 (by omega) (by omega)
  refine ⟨I1, ?_, h1, f1⟩
  simp (disch := omega) only [↓pl_r0b hS ha, ↓pl_r1b hS ha, ↓pl_r2b hS ha, ↓pl_r3b hS ha, ↓pl_i4b hS ha, ↓pl_u4b hS ha, ↓pl_i5b hS ha, ↓pl_u5b hS ha, ↓pl_i6b hS ha, ↓pl_u6b hS ha, ↓pl_i7b hS ha, ↓pl_u7b hS ha, ↓pl_i8b hS ha, ↓pl_u8b hS ha, ↓pl_ob hS ha, ↓pl_pb hS ha, ↓po_ab hS ha, ↓po_sb hS ha, ↓po_nb hS ha, ↓ps_ab hS ha, ↓ps_sb hS ha, ↓ps_nb hS ha, ↓Option.bind_some, ↓sk_ci_some, ↓sk_cv_some, ↓sk_cf_some, if_true, eq_self, ite_self, Bool.true_eq_false, Bool.false_eq_true, if_false]
  refine e1.trans ?_
  rw [sk_e44_7]
  simp (disch := omega) only [↓pl_r0b hS ha, ↓pl_r1b hS ha, ↓pl_r2b hS ha, ↓pl_r3b hS ha, ↓pl_i4b hS ha, ↓pl_u4b hS ha, ↓pl_i5b hS ha, ↓pl_u5b hS ha, ↓pl_i6b hS ha, ↓pl_u6b hS ha, ↓pl_i7b hS ha, ↓pl_u7b hS ha, ↓pl_i8b hS ha, ↓pl_u8b hS ha, ↓pl_ob hS ha, ↓pl_pb hS ha, ↓po_ab hS ha, ↓po_sb hS ha, ↓po_nb hS ha, ↓ps_ab hS ha, ↓ps_sb hS ha, ↓ps_nb hS ha, ↓Option.bind_some, ↓sk_ci_some, ↓sk_cv_some, ↓sk_cf_some, if_true, eq_self, ite_self, Bool.true_eq_false, Bool.false_eq_true, if_false, c5, sj_ceq, sj_cne, sj_clt, sj_cge, sj_cgt, sj_cle, bi_ceq, bi_cne, bi_01]
  rw [if_pos (by omega)]
/-- the order by numbers, the reference's way -/
theorem r170_9 {d : Nat} (hd : 3 ≤ d + 1) (hS : sk_G S) (hR : RP I 107 v) (hV : VO v) (o1 : Option Value) : ∃ I', sk_D170 d 9 [some (.ref 105), o1, some (.int (sj 0)), some (.int (sj 0)), none] [] (sk_mk S I) = some (some (.int (sj (apV v (nfx v) natI (v 0 1).toNat 0 2))), sk_mk S I') ∧ RP I' 107 (apV v (nfx v) natI (v 0 1).toNat) ∧ ∀ b, b ≠ 107 → I' b = I b := by
  obtain ⟨n1, n2, n3, n4, n5, n6, n7, n8, n9, n10, n11, n12⟩ := hV.1
  have z1 : (1 : Int).toNat = 1 := rfl
  have z2 : (2 : Int).toNat = 2 := rfl
  have key := lp_run (fun k (X : Option sk_R) => ∃ I', X = sk_D170 d 9 [some (.ref 105), o1, some (.int (sj (apV v (nfx v) natI k 0 2))), some (.int (sj (k : Int))), none] [] (sk_mk S I') ∧ (∀ q, ¬ (87 ≤ q ∧ q < 97) → I' 107 q = I 107 q) ∧ (∀ j : Nat, (j : Int) < apV v (nfx v) natI k 0 2 → I' 107 (87 + j) = apV v (nfx v) natI k 9 j) ∧ ∀ b, b ≠ 107 → I' b = I b) (v 0 1).toNat (fun k X hk hX => by
    obtain ⟨I1, rfl, h1, h2, f1⟩ := hX
    obtain ⟨i1, i2, i3, i4, i5⟩ := apV_inv (all_ok hV) k (by omega)
    obtain ⟨p1, p2, p3, p4, p5, p6, p7, p8, p9, p10, -⟩ := vo_p hV (p := k) (by omega)
    obtain ⟨z, hz⟩ : ∃ z : Nat, apV v (nfx v) natI k 0 2 = z := ⟨(apV v (nfx v) natI k 0 2).toNat, by omega⟩
    have c5 : I1 107 1 = v 0 1 := by rw [h1 1 (by omega)]; exact hR.1 1 (by omega)
    have cp : I1 107 (77 + k) = v 5 k := by rw [h1 _ (by omega)]; exact (hR.2.1 k (by omega)).2.2.2.2.1
    have t1 : (k : Int) + 1 = ((k + 1 : Nat) : Int) := rfl
    have t77 : (77 + (k : Int)).toNat = 77 + k := by omega
    have t87 : (87 + (z : Int)).toNat = 87 + z := by omega
    rw [apV_succ]
    unfold apS
    rw [hz] at h2 i3 ⊢
    rw [Int.toNat_natCast]
    by_cases c : v 5 k = 1
    · have hf : nfx v k = false := decide_eq_false (fun h => h c)
      rw [hf, if_neg (by simp), hz]
      refine ⟨I1, ?_, h1, h2, f1⟩
      rw [sk_e170_9]
      simp (disch := omega) only [↓g105_r1b hS, ↓g107_ab hS, ↓Option.bind_some, ↓sk_ci_some, ↓sk_cv_some, ↓sk_cf_some, if_true, eq_self, ite_self, Bool.true_eq_false, Bool.false_eq_true, if_false, z1, c5, cp, t77, sj_add, t1, sj_ceq, sj_cne, sj_clt, sj_cge, sj_cgt, sj_cle, bi_ceq, bi_cne, bi_01]
      rw [if_neg (by omega), if_pos c]
    · have hf : nfx v k = true := decide_eq_true c
      rw [hf, if_pos rfl, u2_eq]
      refine ⟨u2 I1 107 (87 + z) k, ?_, fun q hq => ?_, fun j hj => ?_, fun b hb => ?_⟩
      · rw [sk_e170_9]
        simp (disch := omega) only [↓g105_r1b hS, ↓g107_ab hS, ↓g107_sb hS, ↓Option.bind_some, ↓sk_ci_some, ↓sk_cv_some, ↓sk_cf_some, if_true, eq_self, ite_self, Bool.true_eq_false, Bool.false_eq_true, if_false, z1, c5, cp, t77, t87, sj_add, t1, sj_ceq, sj_cne, sj_clt, sj_cge, sj_cgt, sj_cle, bi_ceq, bi_cne, bi_01]
        rw [if_neg (by omega), if_neg c]
      · rw [u2_ne _ _ (by omega)]; exact h1 q hq
      · rw [u2_ne (a := 0) _ _ (by omega)]
        by_cases e : j = z
        · subst e; rw [u2_eq, u2_eq]; rfl
        · rw [u2_ne _ _ (by omega), u2_ne _ _ (by omega)]
          exact h2 j (by omega)
      · rw [← f1 b hb]
        funext q
        exact u2_ne _ _ (by omega)) ⟨I, rfl, fun _ _ => rfl, fun j hj => by
          have := apV_0 v (nfx v) natI
          omega, fun _ _ => rfl⟩
  obtain ⟨I1, e1, h1, h2, f1⟩ := key
  obtain ⟨i1, i2, i3, i4, i5⟩ := apV_inv (all_ok hV) (v 0 1).toNat (by omega)
  have c5 : I1 107 1 = v 0 1 := by rw [h1 1 (by omega)]; exact hR.1 1 (by omega)
  refine ⟨u2 I1 107 2 (apV v (nfx v) natI (v 0 1).toNat 0 2), ?_, ?_, fun b hb => ?_⟩
  · refine e1.trans ?_
    rw [sk_e170_9]
    simp (disch := omega) only [↓g105_r1b hS, ↓g107_ab hS, ↓g107_sb hS, ↓Option.bind_some, ↓sk_ci_some, ↓sk_cv_some, ↓sk_cf_some, if_true, eq_self, ite_self, Bool.true_eq_false, Bool.false_eq_true, if_false, z1, z2, c5, sj_ceq, sj_cne, sj_clt, sj_cge, sj_cgt, sj_cle, bi_ceq, bi_cne, bi_01]
    rw [if_pos (by omega)]
  · exact RP_ap hV.1 hR (fun q a1 a2 => by rw [u2_ne _ _ (by omega)]; exact h1 q a1) (u2_eq _ _ _ _) (fun j hj => by rw [u2_ne _ _ (by omega)]; exact h2 j hj) i1
  · rw [← f1 b hb]
    funext q
    exact u2_ne _ _ (by omega)
/-- a rack's place that can't be in an order -/
def badP (v : sk_H) (g : Nat → Int) (k : Nat) : Bool := decide (g k ≠ -1 ∧ (v 5 (g k).toNat = 1 ∨ anyTo k (fun j => decide (g j = g k)) = true))
def nn1 (g : Nat → Int) (i : Nat) : Bool := decide (g i ≠ -1)
theorem m67 {d : Nat} (hd : 1 ≤ d) (hS : sk_G S) {r : Nat} (hr : r < 4) {m i : Nat} (hm : I (87 + 2 + 4 * r) 2 = m) (hm2 : m ≤ 10) (hi : i < m) {g : Nat → Int} (hg : ∀ k, k < 10 → I (87 + 3 + 4 * r) k = g k ∧ -1 ≤ g k ∧ g k < 10) : ∃ f : Nat, sk_c d 67 [.ref (87 + 2 + 4 * r), .int (sj (g i))] (sk_mk S I) = some (some (.int (sj (f : Int))), sk_mk S I) ∧ f ≤ i ∧ g f = g i ∧ ∀ j, j < f → g j ≠ g i := by
  obtain ⟨d, rfl⟩ : ∃ e, d = e + 1 := ⟨d - 1, by omega⟩; rw [sk_e67]
  have hgi := hg i (by omega)
  have key : ∀ n k : Nat, k + n = i → (∀ j, j < k → g j ≠ g i) → ∃ f : Nat, sk_D67 d 2 [some (.ref (87 + 2 + 4 * r)), some (.int (sj (g i))), some (.int (sj (k : Int)))] [] (sk_mk S I) = some (some (.int (sj (f : Int))), sk_mk S I) ∧ f ≤ i ∧ g f = g i ∧ ∀ j, j < f → g j ≠ g i := by
    intro n
    induction n with
    | zero =>
      intro k hk h
      obtain rfl : k = i := by omega
      refine ⟨k, ?_, Nat.le_refl _, rfl, h⟩
      rw [sk_e67_2, rk_i2b hS hr, hm, if_neg (by rw [sj_cge (by omega) (by omega) (by omega) (by omega)]; omega), rk_r0b hS hr, rk_ab hS hr (by omega) (by omega), Int.toNat_natCast, hgi.1, if_neg (by rw [sj_cne (by omega) (by omega) (by omega) (by omega)]; exact fun h => h rfl)]
    | succ n ih =>
      intro k hk h
      have hgk := hg k (by omega)
      have t1 : (k : Int) + 1 = ((k + 1 : Nat) : Int) := rfl
      by_cases c : g k = g i
      · refine ⟨k, ?_, by omega, c, h⟩
        rw [sk_e67_2, rk_i2b hS hr, hm, if_neg (by rw [sj_cge (by omega) (by omega) (by omega) (by omega)]; omega), rk_r0b hS hr, rk_ab hS hr (by omega) (by omega), Int.toNat_natCast, hgk.1, if_neg (by rw [sj_cne (by omega) (by omega) (by omega) (by omega)]; exact fun h => h c)]
      · obtain ⟨f, e, h1, h2, h3⟩ := ih (k + 1) (by omega) (fun j hj => by
          by_cases e : j = k
          · rw [e]; exact c
          · exact h j (by omega))
        refine ⟨f, ?_, h1, h2, h3⟩
        rw [sk_e67_2, rk_i2b hS hr, hm, if_neg (by rw [sj_cge (by omega) (by omega) (by omega) (by omega)]; omega), rk_r0b hS hr, rk_ab hS hr (by omega) (by omega), Int.toNat_natCast, hgk.1, if_pos (by rw [sj_cne (by omega) (by omega) (by omega) (by omega)]; exact c), sj_add, t1]
        exact e
  exact key i 0 (by omega) (fun j hj => by omega)
theorem m45 {d : Nat} (hd : 2 ≤ d) (hS : sk_G S) (ha : sk_isP a) (hv : vC I a = v) (hV : VO v) {r : Nat} (hr : r < 4) {m : Nat} (hm : I (87 + 2 + 4 * r) 2 = m) (hm2 : m ≤ 10) {g : Nat → Int} (hg : ∀ k, k < 10 → I (87 + 3 + 4 * r) k = g k ∧ -1 ≤ g k ∧ g k < v 0 1) : sk_c d 45 [.ref a, .ref (87 + 2 + 4 * r)] (sk_mk S I) = some (some (.int (sj (bi (!anyTo m (badP v g))))), sk_mk S I) := by
  obtain ⟨n1, n2, n3, n4, n5, n6, n7, n8, n9, n10, n11, n12⟩ := hV.1
  obtain ⟨d, rfl⟩ : ∃ e, d = e + 1 := ⟨d - 1, by omega⟩; rw [sk_e45]
  have hg10 : ∀ k, k < 10 → I (87 + 3 + 4 * r) k = g k ∧ -1 ≤ g k ∧ g k < 10 := fun k hk => by have := hg k hk; omega
  refine (lp_any (γ := Option Value) (fun k o3 => sk_D45 d 2 [some (.ref a), some (.ref (87 + 2 + 4 * r)), some (.int (sj (k : Int))), o3] [] (sk_mk S I)) (badP v g) m (some (some (.int (sj 0)), sk_mk S I)) (some (some (.int (sj 1)), sk_mk S I)) ?_ ?_ ?_ none).trans ?_
  · intro k o3 hk hb
    have hb := of_decide_eq_true hb
    have hgk := hg k (by omega)
    obtain ⟨n, hn⟩ : ∃ n : Nat, g k = n := ⟨(g k).toNat, by omega⟩
    have hp := vo_p hV (p := n) (by omega)
    have p4 : I (a + 9 + n) 4 = v 5 n := vp4 hv (by omega)
    obtain ⟨-, -, -, -, -, -, -, -, p9, p10, -⟩ := hp
    rw [hn, Int.toNat_natCast] at hb
    show sk_D45 d 2 [some (.ref a), some (.ref (87 + 2 + 4 * r)), some (.int (sj (k : Int))), o3] [] (sk_mk S I) = _
    rw [sk_e45_2, rk_i2b hS hr, hm, if_neg (by rw [sj_cge (by omega) (by omega) (by omega) (by omega)]; omega), rk_r0b hS hr, rk_ab hS hr (by omega) (by omega), Int.toNat_natCast, hgk.1, hn, if_pos (by rw [sj_cne (by omega) (by omega) (by omega) (by omega)]; omega), pl_r0b hS ha, pl_pb hS ha (by omega) (by omega), Int.toNat_natCast, pq_i4b hS ha (by omega), p4]
    by_cases c : v 5 n = 1
    · rw [if_pos (by rw [sj_ceq (by omega) (by omega) (by omega) (by omega)]; exact c)]
    · rw [if_neg (by rw [sj_ceq (by omega) (by omega) (by omega) (by omega)]; exact c), rk_ob hS hr]
      obtain ⟨f, e, h1, h2, h3⟩ := m67 (S := S) (I := I) (d := d) (by omega) hS hr hm hm2 hk hg10
      rw [hn] at e
      rw [e, sk_ci_some]
      obtain ⟨j, hj, hjj⟩ := (anyTo_iff _ _).mp (hb.2.resolve_left c)
      have hjj := of_decide_eq_true hjj
      have hfk : ¬ f = k := fun hfk => h3 j (by omega) (by rw [hn]; exact hjj)
      rw [if_neg (by rw [sj_ceq (by omega) (by omega) (by omega) (by omega)]; omega)]
  · intro k o3 hk hb
    have hb := of_decide_eq_false hb
    have hgk := hg k (by omega)
    have t1 : (k : Int) + 1 = ((k + 1 : Nat) : Int) := rfl
    refine ⟨some (.int (sj (g k))), ?_⟩
    show sk_D45 d 2 [some (.ref a), some (.ref (87 + 2 + 4 * r)), some (.int (sj (k : Int))), o3] [] (sk_mk S I) = sk_D45 d 2 [some (.ref a), some (.ref (87 + 2 + 4 * r)), some (.int (sj ((k + 1 : Nat) : Int))), some (.int (sj (g k)))] [] (sk_mk S I)
    rw [sk_e45_2, rk_i2b hS hr, hm, if_neg (by rw [sj_cge (by omega) (by omega) (by omega) (by omega)]; omega), rk_r0b hS hr, rk_ab hS hr (by omega) (by omega), Int.toNat_natCast, hgk.1]
    by_cases c0 : g k = -1
    · rw [if_neg (by rw [sj_cne (by omega) (by omega) (by omega) (by omega)]; exact fun h => h c0), sj_add, t1]
    obtain ⟨n, hn⟩ : ∃ n : Nat, g k = n := ⟨(g k).toNat, by omega⟩
    have hp := vo_p hV (p := n) (by omega)
    have p4 : I (a + 9 + n) 4 = v 5 n := vp4 hv (by omega)
    obtain ⟨-, -, -, -, -, -, -, -, p9, p10, -⟩ := hp
    rw [hn, Int.toNat_natCast] at hb
    have hb5 : ¬ v 5 n = 1 := fun h => hb ⟨by omega, Or.inl h⟩
    obtain ⟨f, e, h1, h2, h3⟩ := m67 (S := S) (I := I) (d := d) (by omega) hS hr hm hm2 hk hg10
    have hfk : f = k := by
      by_cases c : f = k
      · exact c
      · exfalso
        refine hb ⟨by omega, Or.inr ((anyTo_iff _ _).mpr ⟨f, by omega, decide_eq_true ?_⟩)⟩
        rw [h2, hn]
    rw [hn] at e ⊢
    rw [if_pos (by rw [sj_cne (by omega) (by omega) (by omega) (by omega)]; omega), pl_r0b hS ha, pl_pb hS ha (by omega) (by omega), Int.toNat_natCast, pq_i4b hS ha (by omega), p4, if_neg (by rw [sj_ceq (by omega) (by omega) (by omega) (by omega)]; exact hb5), rk_ob hS hr, e, sk_ci_some, if_pos (by rw [sj_ceq (by omega) (by omega) (by omega) (by omega)]; omega), sj_add, t1]
  · intro o3
    show sk_D45 d 2 [some (.ref a), some (.ref (87 + 2 + 4 * r)), some (.int (sj (m : Int))), o3] [] (sk_mk S I) = _
    rw [sk_e45_2, rk_i2b hS hr, hm, if_pos (by rw [sj_cge (by omega) (by omega) (by omega) (by omega)]; omega)]
  · cases anyTo m (badP v g) <;> rfl
theorem by_ok {v : sk_H} {g : Nat → Int} {m : Nat} (hg : ∀ k, k < 10 → -1 ≤ g k ∧ g k < v 0 1) (hm : m ≤ 10) (hb : anyTo m (badP v g) = false) : ∀ i, i < m → nn1 g i = true → 0 ≤ g i ∧ g i < v 0 1 ∧ v 5 (g i).toNat ≠ 1 ∧ ∀ k, k < i → nn1 g k = true → g k ≠ g i := by
  intro i hi hf
  have hf := of_decide_eq_true hf
  have h := hg i (by omega)
  have hbi : badP v g i = false := by
    cases c : badP v g i with
    | false => rfl
    | true =>
      rw [(anyTo_iff m _).mpr ⟨i, hi, c⟩] at hb
      cases hb
  have hbi := of_decide_eq_false hbi
  refine ⟨by omega, h.2, fun h5 => hbi ⟨hf, Or.inl h5⟩, fun k hk _ he => hbi ⟨hf, Or.inr ((anyTo_iff _ _).mpr ⟨k, hk, decide_eq_true he⟩)⟩⟩
theorem m46 {d : Nat} (hd : 1 ≤ d) (hS : sk_G S) (ha : sk_isP a) (hv : vC I a = v) (hV : VO v) {r : Nat} (hr : r < 4) {m : Nat} (hm : I (87 + 2 + 4 * r) 2 = m) (hm2 : m ≤ 10) {g : Nat → Int} (hg : ∀ k, k < 10 → I (87 + 3 + 4 * r) k = g k ∧ -1 ≤ g k ∧ g k < v 0 1) (hb : anyTo m (badP v g) = false) : ∃ I', sk_c d 46 [.ref a, .ref (87 + 2 + 4 * r)] (sk_mk S I) = some (none, sk_mk S I') ∧ vC I' a = apV v (nn1 g) g m ∧ ∀ b, ¬ (a ≤ b ∧ b < a + 19) → I' b = I b := by
  obtain ⟨n1, n2, n3, n4, n5, n6, n7, n8, n9, n10, n11, n12⟩ := hV.1
  obtain ⟨d, rfl⟩ : ∃ e, d = e + 1 := ⟨d - 1, by omega⟩; rw [sk_e46]
  have far : a + 19 ≤ 87 := by rcases ha with rfl | rfl | rfl <;> omega
  have ok := by_ok (fun k hk => (hg k hk).2) hm2 hb
  have key := lp_run (fun k (X : Option sk_R) => ∃ I', X = sk_D46 d 7 [some (.ref a), some (.ref (87 + 2 + 4 * r)), some (.int (sj (k : Int)))] [] (sk_mk S I') ∧ vC I' a = apV v (nn1 g) g k ∧ ∀ b, ¬ (a ≤ b ∧ b < a + 19) → I' b = I b) m (fun k X hk hX => by
    obtain ⟨I1, rfl, h1, f1⟩ := hX
    obtain ⟨i1, i2, i3, i4, i5⟩ := apV_inv ok k (by omega)
    obtain ⟨z, hz⟩ : ∃ z : Nat, apV v (nn1 g) g k 0 2 = z := ⟨(apV v (nn1 g) g k 0 2).toNat, by omega⟩
    have hgk := hg k (by omega)
    have cm : I1 (87 + 2 + 4 * r) 2 = m := by rw [f1 _ (by omega)]; exact hm
    have cg : I1 (87 + 3 + 4 * r) k = g k := by rw [f1 _ (by omega)]; exact hgk.1
    have c6 : I1 a 6 = z := by rw [vc6 h1]; exact hz
    have t1 : (k : Int) + 1 = ((k + 1 : Nat) : Int) := rfl
    rw [apV_succ]
    unfold apS
    rw [hz, Int.toNat_natCast]
    by_cases c : g k = -1
    · have hf : nn1 g k = false := decide_eq_false (fun h => h c)
      rw [hf, if_neg (by simp)]
      refine ⟨I1, ?_, h1, f1⟩
      rw [sk_e46_7, rk_i2b hS hr, cm, if_neg (by rw [sj_cge (by omega) (by omega) (by omega) (by omega)]; omega), rk_r0b hS hr, rk_ab hS hr (by omega) (by omega), Int.toNat_natCast, cg, if_pos (by rw [sj_ceq (by omega) (by omega) (by omega) (by omega)]; exact c), sj_add, t1]
    · have hf : nn1 g k = true := decide_eq_true c
      rw [hf, if_pos rfl]
      refine ⟨u2 (u2 I1 (a + 2) z (g k)) a 6 (z + 1), ?_, ?_, fun b hb => ?_⟩
      · rw [sk_e46_7, rk_i2b hS hr, cm, if_neg (by rw [sj_cge (by omega) (by omega) (by omega) (by omega)]; omega), rk_r0b hS hr, rk_ab hS hr (by omega) (by omega), Int.toNat_natCast, cg, if_neg (by rw [sj_ceq (by omega) (by omega) (by omega) (by omega)]; exact c)]
        simp (disch := omega) only [↓pl_r0b hS ha, ↓pl_r1b hS ha, ↓pl_r2b hS ha, ↓pl_r3b hS ha, ↓pl_i4b hS ha, ↓pl_u4b hS ha, ↓pl_i5b hS ha, ↓pl_u5b hS ha, ↓pl_i6b hS ha, ↓pl_u6b hS ha, ↓pl_i7b hS ha, ↓pl_u7b hS ha, ↓pl_i8b hS ha, ↓pl_u8b hS ha, ↓pl_ob hS ha, ↓pl_pb hS ha, ↓po_ab hS ha, ↓po_sb hS ha, ↓po_nb hS ha, ↓ps_ab hS ha, ↓ps_sb hS ha, ↓ps_nb hS ha, ↓rk_r0b hS hr, ↓rk_ab hS hr, ↓Option.bind_some, ↓sk_ci_some, ↓sk_cv_some, ↓sk_cf_some, if_true, eq_self, ite_self, Bool.true_eq_false, Bool.false_eq_true, if_false, c6, cg, Int.toNat_natCast, sj_add, t1, u2_ne]
      · rw [w6, wo_, h1]
        try rfl
      · rw [← f1 b hb]
        funext q
        simp (disch := omega) only [u2_ne]) ⟨u2 I a 6 0, rfl, by rw [w6, hv]; rfl, fun b hb => funext fun q => u2_ne _ _ (by omega)⟩
  obtain ⟨I1, e1, h1, f1⟩ := key
  have cm : I1 (87 + 2 + 4 * r) 2 = m := by rw [f1 _ (by omega)]; exact hm
  refine ⟨I1, ?_, h1, f1⟩
  rw [pl_u6b hS ha]
  refine e1.trans ?_
  rw [sk_e46_7, rk_i2b hS hr, cm, if_pos (by rw [sj_cge (by omega) (by omega) (by omega) (by omega)]; omega)]
/-- the same, the reference's way: the look, the order -/
theorem r170_84 {d : Nat} (hd : 3 ≤ d + 1) (hS : sk_G S) (hR : RP I 107 v) (hV : VO v) {r : Nat} (hr : r < 4) {m : Nat} (hm : I 117 r = m) (hm2 : m ≤ 10) {g : Nat → Int} (hg : ∀ k, k < 10 → I (120 + r) k = g k ∧ -1 ≤ g k ∧ g k < v 0 1) : ∃ o4, sk_D170 d 84 [some (.ref 105), some (.int (sj r)), some (.int (sj 0)), none, none] [] (sk_mk S I) = if anyTo m (badP v g) = true then some (some (.int (sj (-3))), sk_mk S I) else sk_D170 d 168 [some (.ref 105), some (.int (sj r)), some (.int (sj 0)), some (.int (sj 0)), o4] [] (sk_mk S I) := by
  obtain ⟨n1, n2, n3, n4, n5, n6, n7, n8, n9, n10, n11, n12⟩ := hV.1
  have q119 : sk_aldr (sk_mk S I) 119 (sj (r : Int)) = some (120 + r) := g119_q hS (by omega) (by omega)
  have tr : (r : Int).toNat = r := Int.toNat_natCast r
  -- one place
  have inner : ∀ k : Nat, k < m → g k ≠ -1 → v 5 (g k).toNat ≠ 1 → ∀ (o4 : Option Value), ∃ o4', sk_D170 d 130 [some (.ref 105), some (.int (sj r)), some (.int (sj (k : Int))), some (.int (sj (g k))), some (.int (sj 0))] [] (sk_mk S I) = if anyTo k (fun j => decide (g j = g k)) = true then some (some (.int (sj (-3))), sk_mk S I) else sk_D170 d 84 [some (.ref 105), some (.int (sj r)), some (.int (sj ((k + 1 : Nat) : Int))), some (.int (sj (g k))), o4'] [] (sk_mk S I) := by
    intro k hk h1 h2 o4
    have hgk := hg k (by omega)
    have t1 : (k : Int) + 1 = ((k + 1 : Nat) : Int) := rfl
    refine ⟨some (.int (sj (k : Int))), ?_⟩
    refine (lp_any0 (fun j => sk_D170 d 130 [some (.ref 105), some (.int (sj r)), some (.int (sj (k : Int))), some (.int (sj (g k))), some (.int (sj (j : Int)))] [] (sk_mk S I)) (fun j => decide (g j = g k)) k (some (some (.int (sj (-3))), sk_mk S I)) (sk_D170 d 84 [some (.ref 105), some (.int (sj r)), some (.int (sj ((k + 1 : Nat) : Int))), some (.int (sj (g k))), some (.int (sj (k : Int)))] [] (sk_mk S I)) ?_ ?_)
    · intro j hj
      have hgj := hg j (by omega)
      have t2 : (j : Int) + 1 = ((j + 1 : Nat) : Int) := rfl
      show sk_D170 d 130 [some (.ref 105), some (.int (sj r)), some (.int (sj (k : Int))), some (.int (sj (g k))), some (.int (sj (j : Int)))] [] (sk_mk S I) = _
      rw [sk_e170_130, if_neg (by rw [sj_cge (by omega) (by omega) (by omega) (by omega)]; omega), g105_r18b hS, q119, Option.bind_some, mr_ab hS hr (by omega) (by omega), Int.toNat_natCast, hgj.1, sj_add, t2]
      by_cases c : g j = g k
      · rw [if_neg (by rw [sj_cne (by omega) (by omega) (by omega) (by omega)]; exact fun h => h c), if_pos (decide_eq_true c)]
      · rw [if_pos (by rw [sj_cne (by omega) (by omega) (by omega) (by omega)]; exact c), if_neg (by simp [c])]
    · rw [sk_e170_130, if_pos (by rw [sj_cge (by omega) (by omega) (by omega) (by omega)]; omega), sj_add, t1]
  -- by places, to the end
  have fin : ∀ n k : Nat, k + n = m → anyTo k (badP v g) = false → ∀ o3 o4 : Option Value, ∃ o4', sk_D170 d 84 [some (.ref 105), some (.int (sj r)), some (.int (sj (k : Int))), o3, o4] [] (sk_mk S I) = if anyTo m (badP v g) = true then some (some (.int (sj (-3))), sk_mk S I) else sk_D170 d 168 [some (.ref 105), some (.int (sj r)), some (.int (sj 0)), some (.int (sj 0)), o4'] [] (sk_mk S I) := by
    intro n
    induction n with
    | zero =>
      intro k hk h o3 o4
      obtain rfl : k = m := by omega
      refine ⟨o4, ?_⟩
      rw [sk_e170_84, g105_r16b hS, g117_ab hS (by omega) (by omega), tr, hm, if_pos (by rw [sj_cge (by omega) (by omega) (by omega) (by omega)]; omega), h]
      try rfl
    | succ n ih =>
      intro k hk h o3 o4
      have hgk := hg k (by omega)
      have t1 : (k : Int) + 1 = ((k + 1 : Nat) : Int) := rfl
      have hs : anyTo (k + 1) (badP v g) = badP v g k := by simp [anyTo, h]
      have hyes : badP v g k = true → anyTo m (badP v g) = true := fun h => (anyTo_iff _ _).mpr ⟨k, by omega, h⟩
      rw [sk_e170_84, g105_r16b hS, g117_ab hS (by omega) (by omega), tr, hm, if_neg (by rw [sj_cge (by omega) (by omega) (by omega) (by omega)]; omega), g105_r18b hS, q119, Option.bind_some, mr_ab hS hr (by omega) (by omega), Int.toNat_natCast, hgk.1]
      by_cases c0 : g k = -1
      · rw [if_neg (by rw [sj_cne (by omega) (by omega) (by omega) (by omega)]; exact fun h => h c0), sj_add, t1]
        exact ih (k + 1) (by omega) (by rw [hs]; exact decide_eq_false (fun h => h.1 c0)) _ _
      · rw [if_pos (by rw [sj_cne (by omega) (by omega) (by omega) (by omega)]; exact c0)]
        obtain ⟨p, hp⟩ : ∃ n : Nat, g k = n := ⟨(g k).toNat, by omega⟩
        have r5 : I 107 (77 + p) = v 5 p := (hR.2.1 p (by omega)).2.2.2.2.1
        obtain ⟨-, -, -, -, -, -, -, -, p9, p10, -⟩ := vo_p hV (p := p) (by omega)
        have t77 : (77 + (p : Int)).toNat = 77 + p := by omega
        have inn := inner k (by omega) c0
        rw [hp, Int.toNat_natCast] at inn
        rw [hp, g105_r1b hS, sj_add, g107_ab hS (by omega) (by omega), t77, r5]
        by_cases c1 : v 5 p = 1
        · refine ⟨none, ?_⟩
          have hb : badP v g k = true := decide_eq_true ⟨c0, Or.inl (by rw [hp, Int.toNat_natCast]; exact c1)⟩
          rw [if_neg (by rw [sj_cne (by omega) (by omega) (by omega) (by omega)]; exact fun h => h c1), if_pos (hyes hb)]
        · obtain ⟨o4', e⟩ := inn c1 none
          rw [if_pos (by rw [sj_cne (by omega) (by omega) (by omega) (by omega)]; exact c1), e]
          cases ha : anyTo k (fun j => decide (g j = (p : Int))) with
          | true =>
            refine ⟨none, ?_⟩
            have hb : badP v g k = true := decide_eq_true ⟨c0, Or.inr (by rw [hp]; exact ha)⟩
            rw [if_pos rfl, if_pos (hyes hb)]
          | false =>
            rw [if_neg (by simp)]
            refine ih (k + 1) (by omega) ?_ _ _
            rw [hs]
            refine decide_eq_false (fun h => ?_)
            rw [hp, Int.toNat_natCast] at h
            rcases h.2 with h | h
            · exact c1 h
            · rw [ha] at h; cases h
  exact fin m 0 (by omega) rfl none none
theorem r170_168 {d : Nat} (hd : 3 ≤ d + 1) (hS : sk_G S) (hR : RP I 107 v) (hV : VO v) {r : Nat} (hr : r < 4) {m : Nat} (hm : I 117 r = m) (hm2 : m ≤ 10) {g : Nat → Int} (hg : ∀ k, k < 10 → I (120 + r) k = g k ∧ -1 ≤ g k ∧ g k < v 0 1) (hb : anyTo m (badP v g) = false) (o4 : Option Value) : ∃ I', sk_D170 d 168 [some (.ref 105), some (.int (sj r)), some (.int (sj 0)), some (.int (sj 0)), o4] [] (sk_mk S I) = some (some (.int (sj (apV v (nn1 g) g m 0 2))), sk_mk S I') ∧ RP I' 107 (apV v (nn1 g) g m) ∧ ∀ b, b ≠ 107 → I' b = I b := by
  obtain ⟨n1, n2, n3, n4, n5, n6, n7, n8, n9, n10, n11, n12⟩ := hV.1
  have z2 : (2 : Int).toNat = 2 := rfl
  have tr : (r : Int).toNat = r := Int.toNat_natCast r
  have ok := by_ok (fun k hk => (hg k hk).2) hm2 hb
  have key := lp_run (fun k (X : Option sk_R) => ∃ I', X = sk_D170 d 168 [some (.ref 105), some (.int (sj r)), some (.int (sj (apV v (nn1 g) g k 0 2))), some (.int (sj (k : Int))), o4] [] (sk_mk S I') ∧ (∀ q, ¬ (87 ≤ q ∧ q < 97) → I' 107 q = I 107 q) ∧ (∀ j : Nat, (j : Int) < apV v (nn1 g) g k 0 2 → I' 107 (87 + j) = apV v (nn1 g) g k 9 j) ∧ ∀ b, b ≠ 107 → I' b = I b) m (fun k X hk hX => by
    obtain ⟨I1, rfl, h1, h2, f1⟩ := hX
    obtain ⟨i1, i2, i3, i4, i5⟩ := apV_inv ok k (by omega)
    obtain ⟨z, hz⟩ : ∃ z : Nat, apV v (nn1 g) g k 0 2 = z := ⟨(apV v (nn1 g) g k 0 2).toNat, by omega⟩
    have hgk := hg k (by omega)
    have cm : I1 117 r = m := by rw [f1 _ (by omega)]; exact hm
    have cg : I1 (120 + r) k = g k := by rw [f1 _ (by omega)]; exact hgk.1
    have q119 : sk_aldr (sk_mk S I1) 119 (sj (r : Int)) = some (120 + r) := g119_q hS (by omega) (by omega)
    have t1 : (k : Int) + 1 = ((k + 1 : Nat) : Int) := rfl
    have t87 : (87 + (z : Int)).toNat = 87 + z := by omega
    rw [apV_succ]
    unfold apS
    rw [hz] at h2 i3 ⊢
    rw [Int.toNat_natCast, sk_e170_168, g105_r16b hS, g117_ab hS (by omega) (by omega), tr, cm, if_neg (show ¬ sk_cond .ge (sj (k : Int)) (sj (m : Int)) = true by rw [sj_cge (by omega) (by omega) (by omega) (by omega)]; omega), g105_r18b hS, q119, Option.bind_some, mr_ab hS hr (by omega) (by omega), Int.toNat_natCast, cg]
    by_cases c : g k = -1
    · have hf : nn1 g k = false := decide_eq_false (fun h => h c)
      rw [hf, if_neg (show ¬ (false = true) by simp), hz]
      refine ⟨I1, ?_, h1, h2, f1⟩
      rw [if_pos (by rw [sj_ceq (by omega) (by omega) (by omega) (by omega)]; exact c), sj_add, t1]
    · have hf : nn1 g k = true := decide_eq_true c
      rw [hf, if_pos (show (true = true) from rfl), u2_eq]
      refine ⟨u2 I1 107 (87 + z) (g k), ?_, fun q hq => ?_, fun j hj => ?_, fun b hb => ?_⟩
      · rw [if_neg (show ¬ sk_cond .eq (sj (g k)) (sj (-1)) = true by rw [sj_ceq (by omega) (by omega) (by omega) (by omega)]; exact c), g105_r1b hS, g105_r18b hS, q119, Option.bind_some, mr_ab hS hr (by omega) (by omega), Int.toNat_natCast, cg, sj_add, g107_sb hS (by omega) (by omega), t87, sj_add, sj_add, t1]
      · rw [u2_ne _ _ (by omega)]; exact h1 q hq
      · rw [u2_ne (a := 0) _ _ (by omega)]
        by_cases e : j = z
        · subst e; rw [u2_eq, u2_eq]
        · rw [u2_ne _ _ (by omega), u2_ne _ _ (by omega)]
          exact h2 j (by omega)
      · rw [← f1 b hb]
        funext q
        exact u2_ne _ _ (by omega)) ⟨I, rfl, fun _ _ => rfl, fun j hj => by
          have := apV_0 v (nn1 g) g
          omega, fun _ _ => rfl⟩
  obtain ⟨I1, e1, h1, h2, f1⟩ := key
  obtain ⟨i1, i2, i3, i4, i5⟩ := apV_inv ok m (by omega)
  have cm : I1 117 r = m := by rw [f1 _ (by omega)]; exact hm
  refine ⟨u2 I1 107 2 (apV v (nn1 g) g m 0 2), ?_, ?_, fun b hb => ?_⟩
  · refine e1.trans ?_
    rw [sk_e170_168, g105_r16b hS, g117_ab hS (by omega) (by omega), tr, cm, if_pos (by rw [sj_cge (by omega) (by omega) (by omega) (by omega)]; omega), g105_r1b hS, g107_sb hS (by omega) (by omega), z2]
  · exact RP_ap hV.1 hR (fun q a1 a2 => by rw [u2_ne _ _ (by omega)]; exact h1 q a1) (u2_eq _ _ _ _) (fun j hj => by rw [u2_ne _ _ (by omega)]; exact h2 j hj) i1
  · rw [← f1 b hb]
    funext q
    exact u2_ne _ _ (by omega)
theorem m63 {d : Nat} (hd : 1 ≤ d) (hS : sk_G S) {r : Nat} (hr : r < 4) (h1 : -1 ≤ I (87 + 2 + 4 * r) 1) (h2 : I (87 + 2 + 4 * r) 1 ≤ 5) : sk_c d 63 [.ref (87 + 2 + 4 * r)] (sk_mk S I) = some (some (.int (sj (bi (decide (I (87 + 2 + 4 * r) 1 = -1))))), sk_mk S I) := by
  obtain ⟨d, rfl⟩ : ∃ e, d = e + 1 := ⟨d - 1, by omega⟩; rw [sk_e63]
  rw [rk_i1b hS hr]
  by_cases c : I (87 + 2 + 4 * r) 1 = -1
  · rw [if_neg (by rw [sj_cne (by omega) (by omega) (by omega) (by omega)]; exact fun h => h c), decide_eq_true c]; rfl
  · rw [if_pos (by rw [sj_cne (by omega) (by omega) (by omega) (by omega)]; exact c), decide_eq_false c]; rfl
theorem f_order (hS : sk_G S) (hG : GI I v) {x : Int} (x1 : -2147483648 ≤ x) (x2 : x < 2147483648) : FC S I 108 170 [.int (sj x)] := by
  have hG0 := hG
  obtain ⟨hv, hT, hR, hTp, hM, hRk, hSh⟩ := hG; have hV := hT.1; have ha : sk_isP 15 := Or.inl rfl; obtain ⟨n1, n2, n3, n4, n5, n6, n7, n8, n9, n10, n11, n12⟩ := hV.1
  by_cases hx : x = -1
  · subst hx
    obtain ⟨I1, e1, h1, f1⟩ := m44 (S := S) (I := I) (d := 19) (by omega) hS ha hv hV
    have hR1 : RP I1 107 v := hR.fr (f1 107 (by omega))
    obtain ⟨I2, e2, h2, f2⟩ := r170_9 (S := S) (I := I1) (d := 19) (by omega) hS hR1 hV (some (.int (sj (-1))))
    obtain ⟨i1, i2, i3, i4, i5⟩ := apV_inv (all_ok hV) (v 0 1).toNat (by omega)
    refine ⟨sj (apV v (nfx v) natI (v 0 1).toNat 0 2), I1, I2, apV v (nfx v) natI (v 0 1).toNat, ?_, ?_, ?_⟩
    · rw [sk_e108, if_pos (by decide), sk_e108_15, if_neg (by decide), g1_r1b hS, pl_ob hS ha, e1, sk_cv_some, g1_r1b hS, pl_i6b hS ha, vc6 h1]
    · rw [sk_e170, if_neg (by decide)]
      exact e2
    · have hx : vC I2 15 = apV v (nfx v) natI (v 0 1).toNat := (vC_fr (fun b b1 b2 => f2 b (by omega))).trans h1
      exact GI_GP hG0 ((GP.ofC f1).trans (GP.ofR f2)) hx (VT_apV hT (by omega) (all_ok hV)) h2 (by rw [i1 0 1 (by omega) (by omega)]; exact Int.le_refl _)
  have cne : ¬ sk_cond .eq (sj x) (sj (-1)) = true := by rw [sj_ceq (by omega) (by omega) (by omega) (by omega)]; exact hx
  have cne' : sk_cond .ne (sj x) (sj (-1)) = true := by rw [sj_cne (by omega) (by omega) (by omega) (by omega)]; exact hx
  have e136 := m136 (d := 19) (by omega) x1 x2 (w := sk_mk S I)
  have e220 := fun J : sk_H => m220 (d := 19) (by omega) x1 x2 (w := sk_mk S J)
  by_cases hr4 : 0 ≤ x ∧ x < 4
  rotate_left
  · rw [decide_eq_false hr4] at e136
    refine FC_same hG0 (-2) ?_ ?_
    · rw [sk_e108, if_neg cne, e136, sk_ci_some, if_neg (by rw [bi_cne]; simp)]
    · rw [sk_e170, if_pos cne', e220, sk_ci_some, decide_eq_false hr4, if_neg (by rw [bi_cne]; simp)]
  obtain ⟨r, rfl⟩ : ∃ n : Nat, x = n := ⟨x.toNat, by omega⟩
  have hr : r < 4 := by omega
  rw [decide_eq_true hr4] at e136
  have q87 : sk_aldr (sk_mk S I) 87 (sj (r : Int)) = some (87 + 2 + 4 * r) := g87_q hS (by omega) (by omega)
  have tr : (r : Int).toNat = r := Int.toNat_natCast r
  obtain ⟨gp, gq⟩ := hRk r hr
  rcases gq with ⟨k1, k2⟩ | ⟨k1, k2, k3, k4, k5, k6, k7⟩
  · have e63 := m63 (S := S) (I := I) (d := 19) (by omega) hS hr (by omega) (by omega)
    rw [decide_eq_true k1] at e63
    refine FC_same hG0 (-11) ?_ ?_
    · rw [sk_e108, if_neg cne, e136, sk_ci_some, if_pos (by rw [bi_cne]), sk_e108_15, if_pos cne', g1_r7b hS, q87, Option.bind_some, rk_ob hS hr, e63, sk_ci_some, if_neg (by rw [bi_ceq]; simp)]
    · rw [sk_e170, if_pos cne', e220, sk_ci_some, decide_eq_true hr4, if_pos (by rw [bi_cne]), g105_r16b hS, g117_ab hS (by omega) (by omega), tr, k2, if_neg (by decide)]
  · obtain ⟨m, hm⟩ : ∃ m : Nat, I (87 + 2 + 4 * r) 2 = m := ⟨(I (87 + 2 + 4 * r) 2).toNat, by omega⟩
    have hm2 : m ≤ 10 := by omega
    have hm117 : I 117 r = m := by rw [k6]; exact hm
    have hg1 : ∀ k, k < 10 → I (87 + 3 + 4 * r) k = I (120 + r) k ∧ -1 ≤ I (120 + r) k ∧ I (120 + r) k < v 0 1 := fun k hk => ⟨gp k hk, k7 k hk⟩
    have e63 := m63 (S := S) (I := I) (d := 19) (by omega) hS hr (by omega) (by omega)
    rw [decide_eq_false (show ¬ I (87 + 2 + 4 * r) 1 = -1 by omega)] at e63
    have e45 := m45 (S := S) (I := I) (d := 19) (by omega) hS ha hv hV hr hm hm2 hg1
    have c117 : sk_cond .ge (sj (I 117 r)) (sj 0) = true := by rw [hm117, sj_cge (by omega) (by omega) (by omega) (by omega)]; omega
    cases hb : anyTo m (badP v (I (120 + r))) with
    | true =>
      rw [hb] at e45
      obtain ⟨o4, e84⟩ := r170_84 (S := S) (I := I) (d := 19) (by omega) hS hR hV hr hm117 hm2 (g := I (120 + r)) (fun k hk => ⟨rfl, k7 k hk⟩)
      rw [hb, if_pos rfl] at e84
      refine FC_same hG0 (-3) ?_ ?_
      · rw [sk_e108, if_neg cne, e136, sk_ci_some, if_pos (by rw [bi_cne]), sk_e108_15, if_pos cne', g1_r7b hS, q87, Option.bind_some, rk_ob hS hr, e63, sk_ci_some, if_pos (by rw [bi_ceq]), g1_r1b hS, pl_ob hS ha, e45, sk_ci_some, if_neg (by decide)]
      · rw [sk_e170, if_pos cne', e220, sk_ci_some, decide_eq_true hr4, if_pos (by rw [bi_cne]), g105_r16b hS, g117_ab hS (by omega) (by omega), tr, if_pos c117]
        exact e84
    | false =>
      rw [hb] at e45
      obtain ⟨I1, e1, h1, f1⟩ := m46 (S := S) (I := I) (d := 19) (by omega) hS ha hv hV hr hm hm2 hg1 hb
      have hR1 : RP I1 107 v := hR.fr (f1 107 (by omega))
      have hm1 : I1 117 r = m := by rw [f1 117 (by omega)]; exact hm117
      have hg2 : ∀ k, k < 10 → I1 (120 + r) k = I (120 + r) k ∧ -1 ≤ I (120 + r) k ∧ I (120 + r) k < v 0 1 := fun k hk => ⟨by rw [f1 _ (by omega)], k7 k hk⟩
      obtain ⟨o4, e84⟩ := r170_84 (S := S) (I := I1) (d := 19) (by omega) hS hR1 hV hr hm1 hm2 hg2
      rw [hb, if_neg (by simp)] at e84
      obtain ⟨I2, e2, h2, f2⟩ := r170_168 (S := S) (I := I1) (d := 19) (by omega) hS hR1 hV hr hm1 hm2 hg2 hb o4
      have ok := by_ok (fun k hk => k7 k hk) hm2 hb
      obtain ⟨i1, i2, i3, i4, i5⟩ := apV_inv ok m (by omega)
      have c117' : sk_cond .ge (sj (I1 117 r)) (sj 0) = true := by rw [hm1, sj_cge (by omega) (by omega) (by omega) (by omega)]; omega
      refine ⟨sj (apV v (nn1 (I (120 + r))) (I (120 + r)) m 0 2), I1, I2, apV v (nn1 (I (120 + r))) (I (120 + r)) m, ?_, ?_, ?_⟩
      · rw [sk_e108, if_neg cne, e136, sk_ci_some, if_pos (by rw [bi_cne]), sk_e108_15, if_pos cne', g1_r7b hS, q87, Option.bind_some, rk_ob hS hr, e63, sk_ci_some, if_pos (by rw [bi_ceq]), g1_r1b hS, pl_ob hS ha, e45, sk_ci_some, if_pos (by decide), g1_r1b hS, pl_ob hS ha, e1, sk_cv_some, g1_r1b hS, pl_i6b hS ha, vc6 h1]
      · rw [sk_e170, if_pos cne', e220, sk_ci_some, decide_eq_true hr4, if_pos (by rw [bi_cne]), g105_r16b hS, g117_ab hS (by omega) (by omega), tr, if_pos c117']
        exact e84.trans e2
      · have hx : vC I2 15 = apV v (nn1 (I (120 + r))) (I (120 + r)) m := (vC_fr (fun b b1 b2 => f2 b (by omega))).trans h1
        exact GI_GP hG0 ((GP.ofC f1).trans (GP.ofR f2)) hx (VT_apV hT hm2 ok) h2 (by rw [i1 0 1 (by omega) (by omega)]; exact Int.le_refl _)
end ORD
