/-! ===== a run ===== -/
def clrV (v : sk_H) : sk_H := fun s k => if s = 10 ∧ k < 20 then 0 else if s = 0 ∧ k = 5 then 0 else if s = 5 ∧ (k : Int) < v 0 1 ∧ 2 ≤ v 5 k then 0 else v s k
theorem clr_ne (v : sk_H) {s k : Nat} (h1 : s ≠ 10) (h2 : s ≠ 5) (h3 : ¬ (s = 0 ∧ k = 5)) : clrV v s k = v s k := by
  unfold clrV
  rw [if_neg (by omega), if_neg h3, if_neg (by omega)]
theorem clr_5 (v : sk_H) {k : Nat} (hk : (k : Int) < v 0 1) : clrV v 5 k = if 2 ≤ v 5 k then 0 else v 5 k := by
  unfold clrV
  rw [if_neg (by omega), if_neg (by omega)]
  by_cases c : 2 ≤ v 5 k
  · rw [if_pos ⟨rfl, hk, c⟩, if_pos c]
  · rw [if_neg (fun h => c h.2.2), if_neg c]
theorem clr_10 (v : sk_H) {k : Nat} (hk : k < 20) : clrV v 10 k = 0 := by
  unfold clrV
  rw [if_pos ⟨rfl, hk⟩]
theorem clr_05 (v : sk_H) : clrV v 0 5 = 0 := by
  unfold clrV
  rw [if_neg (by omega), if_pos ⟨rfl, rfl⟩]
theorem cntTo_zero {n : Nat} {P : Nat → Bool} (h : ∀ k, k < n → P k = false) : cntTo n P = 0 := by
  induction n with
  | zero => rfl
  | succ n ih =>
    rw [cntTo_succ, ih (fun k hk => h k (by omega)), h n (by omega)]
    rfl
theorem clr_ld {v : sk_H} : ldN (clrV v) = 0 := by
  have e : clrV v 0 1 = v 0 1 := clr_ne v (by omega) (by omega) (by omega)
  unfold ldN
  rw [e]
  refine cntTo_zero (fun k hk => decide_eq_false ?_)
  rw [clr_5 v (by omega)]
  split <;> omega
theorem VT_clrV {v : sk_H} (hV : VO v) : VT (clrV v) := by
  obtain ⟨hN, hP, hD, hE, hW⟩ := hV
  have z := fun k (hk : k ≠ 5) => clr_ne v (s := 0) (k := k) (by omega) (by omega) (by omega)
  have e := fun s k (h1 : s ≠ 10) (h2 : s ≠ 5) (h3 : s ≠ 0) => clr_ne v (s := s) (k := k) h1 h2 (by omega)
  have z5 := clr_05 v
  have hN0 := hN
  obtain ⟨n1, n2, n3, n4, n5, n6, n7, n8, n9, n10, n11, n12⟩ := hN0
  refine ⟨⟨?_, ?_, ?_, ?_, ?_⟩, ?_, ?_, fun h => absurd h (by rw [clr_ld]; decide)⟩
  · unfold VN
    rw [z 0 (by omega), z 1 (by omega), z 2 (by omega), z 3 (by omega), z 4 (by omega), z5]
    omega
  · intro p hp
    rw [z 1 (by omega)] at hp
    have hQ := hP p hp
    unfold VP acr tal at hQ ⊢
    rw [z 0 (by omega), e 1 p (by omega) (by omega) (by omega), e 2 p (by omega) (by omega) (by omega), e 3 p (by omega) (by omega) (by omega), e 4 p (by omega) (by omega) (by omega), e 6 p (by omega) (by omega) (by omega), e 7 p (by omega) (by omega) (by omega), e 8 p (by omega) (by omega) (by omega), e 15 p (by omega) (by omega) (by omega), e 16 p (by omega) (by omega) (by omega), clr_5 v hp]
    obtain ⟨q1, q2, q3, q4, q5, q6, q7, q8, q9, q10, q11, q12, q13⟩ := hQ
    by_cases c : 2 ≤ v 5 p
    · rw [if_pos c]
      exact ⟨q1, q2, q3, q4, q5, q6, q7, q8, by omega, by omega, q11, fun h => absurd rfl h, fun h => by omega⟩
    · rw [if_neg c]
      exact ⟨q1, q2, q3, q4, q5, q6, q7, q8, q9, q10, q11, q12, q13⟩
  · unfold VD at hD ⊢
    rw [z 1 (by omega), z 2 (by omega), show clrV v 9 = v 9 from funext fun k => e 9 k (by omega) (by omega) (by omega)]
    refine ⟨fun k hk => ?_, hD.2⟩
    obtain ⟨d1, d2, d3⟩ := hD.1 k hk
    refine ⟨d1, d2, ?_⟩
    rw [clr_5 v (by omega)]
    split
    · omega
    · exact d3
  · intro c hc
    rw [z 0 (by omega)] at hc
    rw [clr_10 v (by omega)]
    omega
  · intro k hk
    rw [z5] at hk
    omega
  · intro c hc
    rw [z 0 (by omega)] at hc
    rw [clr_10 v (by omega), clr_ld]
    omega
  · rw [clr_ld, z5]
    unfold segN
    rw [z 0 (by omega)]
    have : cntTo ((v 0 0).toNat - 1) (fun c => decide (clrV v 10 (c + 1) ≠ clrV v 10 c)) = 0 := by
      refine cntTo_zero (fun k hk => decide_eq_false ?_)
      rw [clr_10 v (k := k + 1) (by omega), clr_10 v (k := k) (by omega)]
      exact fun h => h rfl
    omega
theorem set_same (v : sk_H) (p : Nat) (q : sk_Q) {s k : Nat} (h1 : ¬ (10 ≤ s ∧ s ≤ 14)) (h2 : ¬ (s = 0 ∧ k = 5)) (h3 : ¬ (k = p ∧ (s = 6 ∨ s = 7 ∨ s = 8 ∨ s = 5 ∨ s = 15 ∨ s = 16))) : setV v p q s k = v s k := by
  unfold setV
  by_cases c : q.2.2.2.1 = -1
  · rw [if_pos c]
    rw [raisV_z _ _ _ _ _ h1 h2, lie_ne _ _ _ _ _ _ h3]
  · rw [if_neg c]
    unfold cornV
    rw [wAdd_same _ _ _ _ _ (by omega) h2, wAdd_same _ _ _ _ _ (by omega) h2, dropV_same _ _ (by omega) h2, lie_ne _ _ _ _ _ _ h3]
theorem lay_same (v : sk_H) (p : Nat) {s k : Nat} (h1 : ¬ (10 ≤ s ∧ s ≤ 14)) (h2 : ¬ (s = 0 ∧ k = 5)) (h3 : ¬ (k = p ∧ (s = 6 ∨ s = 7 ∨ s = 8 ∨ s = 5 ∨ s = 15 ∨ s = 16))) : layV v p s k = v s k := by
  unfold layV
  cases hf : fF v p with
  | none => rfl
  | some q => exact set_same v p q h1 h2 h3
theorem VT_layV {v : sk_H} (hT : VT v) {p : Nat} (hp : (p : Int) < v 0 1) (h0 : v 5 p = 0) : VT (layV v p) := by
  unfold layV
  split
  · exact hT
  · next q hq => exact VT_setV hT hp h0 (fF_FQ hq)
def rSp (v : sk_H) (k : Nat) (s : sk_H × Int) : sk_H × Int := (layV s.1 (v 9 k).toNat, if (fF s.1 (v 9 k).toNat).isSome = true then s.2 + 1 else s.2)
def rnK (v : sk_H) (k : Nat) : sk_H × Int := fld k (rSp v) (clrV v, 0)
/-- a run of all of the order -/
def rnV (v : sk_H) : sk_H × Int := rnK v (v 0 2).toNat
theorem rnK_succ (v : sk_H) (k : Nat) : rnK v (k + 1) = rSp v k (rnK v k) := rfl
theorem rnK_inv {v : sk_H} (hV : VO v) : ∀ n : Nat, (n : Int) ≤ v 0 2 → VT (rnK v n).1 ∧ (∀ s k, (s < 5 ∨ s = 9) → ¬ (s = 0 ∧ k = 5) → (rnK v n).1 s k = v s k) ∧ (∀ k : Nat, (k : Int) < v 0 2 → n ≤ k → (rnK v n).1 5 (v 9 k).toNat = 0) ∧ (0 ≤ (rnK v n).2 ∧ (rnK v n).2 ≤ n) := by
  intro n
  induction n with
  | zero =>
    intro _
    refine ⟨VT_clrV hV, fun s k h1 h2 => clr_ne v (by omega) (by omega) h2, fun k hk _ => ?_, Int.le_refl _, Int.le_refl _⟩
    obtain ⟨d1, d2, d3⟩ := hV.2.2.1.1 k hk
    have hp := vo_p hV (p := (v 9 k).toNat) (by omega)
    obtain ⟨-, -, -, -, -, -, -, -, q9, q10, -⟩ := hp
    show clrV v 5 (v 9 k).toNat = 0
    rw [clr_5 v (by omega)]
    split <;> omega
  | succ n ih =>
    intro hn
    obtain ⟨i1, i2, i3, i4, i5⟩ := ih (by omega)
    obtain ⟨d1, d2, d3⟩ := hV.2.2.1.1 n (by omega)
    have e01 : (rnK v n).1 0 1 = v 0 1 := i2 0 1 (by omega) (by omega)
    rw [rnK_succ]
    unfold rSp
    refine ⟨VT_layV i1 (by omega) (i3 n (by omega) (Nat.le_refl _)), fun s k h1 h2 => ?_, fun k hk hnk => ?_, ?_, ?_⟩
    · dsimp only
      rw [lay_same _ _ (by omega) h2 (by omega)]
      exact i2 s k h1 h2
    · dsimp only
      obtain ⟨c1, c2, c3⟩ := hV.2.2.1.1 k hk
      have : (v 9 k).toNat ≠ (v 9 n).toNat := fun h => by
        have := hV.2.2.1.2 k n hk (by omega) (by omega)
        omega
      rw [lay_same _ _ (by omega) (by omega) (by omega)]
      exact i3 k hk (by omega)
    · dsimp only; split <;> omega
    · dsimp only; split <;> omega
theorem rnV_inv {v : sk_H} (hV : VO v) : VT (rnV v).1 ∧ (∀ s k, (s < 5 ∨ s = 9) → ¬ (s = 0 ∧ k = 5) → (rnV v).1 s k = v s k) ∧ 0 ≤ (rnV v).2 ∧ (rnV v).2 ≤ v 0 2 := by
  obtain ⟨n1, n2, n3, n4, n5, n6, n7, n8, n9, n10, n11, n12⟩ := hV.1
  have := rnK_inv hV (v 0 2).toNat (by omega)
  refine ⟨this.1, this.2.1, ?_, ?_⟩ <;> unfold rnV <;> omega
/-- what a run of the class may change -/
def FA (a : Nat) (I I' : sk_H) : Prop := ∀ b, ¬ (a ≤ b ∧ b < a + 19) → b ≠ 73 → I' b = I b
theorem FA.trans {a : Nat} {I J K : sk_H} (h1 : FA a I J) (h2 : FA a J K) : FA a I K := fun b hb hc => (h2 b hb hc).trans (h1 b hb hc)
section RUN
variable {S : List sk_Sh} {I v : sk_H} {a : Nat}
theorem m38 {d : Nat} (hd : 2 ≤ d) (hS : sk_G S) (ha : sk_isP a) (hv : vC I a = v) (hV : VO v) : ∃ I', sk_c d 38 [.ref a] (sk_mk S I) = some (none, sk_mk S I') ∧ vC I' a = clrV v ∧ ∀ b, ¬ (a ≤ b ∧ b < a + 19) → I' b = I b := by
  obtain ⟨n1, n2, n3, n4, n5, n6, n7, n8, n9, n10, n11, n12⟩ := hV.1
  obtain ⟨d, rfl⟩ : ∃ e, d = e + 1 := ⟨d - 1, by omega⟩; rw [sk_e38]
  obtain ⟨I1, e1, h1, f1⟩ := m242 (S := S) (I := I) (d := d) (by omega) (sh_ps hS ha) (by omega) (by omega) (h := 0)
  have hv1 : vC I1 a = skyS v 0 20 0 := by
    rw [← hv]
    exact vC_sky (x := 0) (w := 20) (h := 0) (fun k => by rw [h1 k]; by_cases c : k < 20; rw [if_pos c, if_pos (by omega)]; rw [if_neg c, if_neg (by omega)]) f1
  have hv2 : vC (u2 I1 (a + 4) 4 0) a = u2 (skyS v 0 20 0) 0 5 0 := by rw [wz, hv1]
  have hst : ∀ n : Nat, (n : Int) ≤ v 0 1 → ∃ I', sk_D38 d 18 [some (.ref a), some (.int (sj 0))] [] (sk_mk S (u2 I1 (a + 4) 4 0)) = sk_D38 d 18 [some (.ref a), some (.int (sj (n : Int)))] [] (sk_mk S I') ∧ vC I' a = (fun s k => if s = 10 ∧ k < 20 then 0 else if s = 0 ∧ k = 5 then 0 else if s = 5 ∧ k < n ∧ 2 ≤ v 5 k then 0 else v s k) ∧ ∀ b, ¬ (a ≤ b ∧ b < a + 19) → I' b = I b := by
    intro n
    induction n with
    | zero =>
      intro _
      refine ⟨_, rfl, ?_, fun b hb => ?_⟩
      · rw [hv2]
        funext s k
        unfold u2 skyS
        by_cases c1 : s = 10 ∧ k < 20
        · rw [if_pos c1, if_neg (by omega), if_pos (by omega)]
        · rw [if_neg c1]
          by_cases c2 : s = 0 ∧ k = 5
          · rw [if_pos c2, if_pos c2]
          · rw [if_neg c2, if_neg c2, if_neg (by omega), if_neg (by omega)]
      · rw [← f1 b (by omega)]
        funext j
        exact u2_ne _ _ (by omega)
    | succ n ih =>
      intro hn
      obtain ⟨I2, e2, h2, f2⟩ := ih (by omega)
      obtain ⟨-, -, -, -, -, -, -, -, q9, q10, -⟩ := vo_p hV (p := n) (by omega)
      have c5 : I2 a 5 = v 0 1 := by rw [vc5 h2]; simp
      have c4 : I2 (a + 9 + n) 4 = v 5 n := by rw [vp4 h2 (by omega)]; simp
      have e28 := m28 (S := S) (I := I2) (d := d) (by omega) (sh_pt hS ha (n := n) (by omega)) (by omega) (by omega)
      rw [c4] at e28
      have t1 : (n : Int) + 1 = ((n + 1 : Nat) : Int) := rfl
      by_cases c : 2 ≤ v 5 n
      · refine ⟨u2 I2 (a + 9 + n) 4 0, ?_, ?_, fun b hb => ?_⟩
        · rw [e2, sk_e38_18]
          simp (disch := omega) only [↓pl_r0b hS ha, ↓pl_r1b hS ha, ↓pl_r2b hS ha, ↓pl_r3b hS ha, ↓pl_i4b hS ha, ↓pl_u4b hS ha, ↓pl_i5b hS ha, ↓pl_u5b hS ha, ↓pl_i6b hS ha, ↓pl_u6b hS ha, ↓pl_i7b hS ha, ↓pl_u7b hS ha, ↓pl_i8b hS ha, ↓pl_u8b hS ha, ↓pl_ob hS ha, ↓pl_pb hS ha, ↓po_ab hS ha, ↓po_sb hS ha, ↓po_nb hS ha, ↓ps_ab hS ha, ↓ps_sb hS ha, ↓ps_nb hS ha, ↓pq_i0b hS ha, ↓pq_u0b hS ha, ↓pq_i1b hS ha, ↓pq_u1b hS ha, ↓pq_i2b hS ha, ↓pq_u2b hS ha, ↓pq_i3b hS ha, ↓pq_u3b hS ha, ↓pq_i4b hS ha, ↓pq_u4b hS ha, ↓pq_i5b hS ha, ↓pq_u5b hS ha, ↓pq_i6b hS ha, ↓pq_u6b hS ha, ↓pq_i7b hS ha, ↓pq_u7b hS ha, ↓pq_i8b hS ha, ↓pq_u8b hS ha, ↓pq_i9b hS ha, ↓pq_u9b hS ha, ↓pq_ob hS ha, ↓Option.bind_some, ↓sk_ci_some, ↓sk_cv_some, ↓sk_cf_some, if_true, eq_self, ite_self, c5, Int.toNat_natCast, e28, sj_add, t1, sj_ceq, sj_cne, sj_clt, sj_cge, sj_cgt, sj_cle, bi_ceq, bi_cne, bi_01]
          rw [if_neg (by omega), decide_eq_true c, if_neg (by simp)]
        · rw [wp4 (by omega), h2]
          funext s k
          unfold u2
          try dsimp only
          by_cases c1 : s = 5 ∧ k = n
          · rw [if_pos c1, if_neg (by omega), if_neg (by omega), if_pos (by rw [c1.2]; exact ⟨c1.1, by omega, c⟩)]
          · rw [if_neg c1]
            have : (s = 5 ∧ k < n + 1 ∧ 2 ≤ v 5 k) = (s = 5 ∧ k < n ∧ 2 ≤ v 5 k) := propext ⟨fun h => ⟨h.1, by omega, h.2.2⟩, fun h => ⟨h.1, by omega, h.2.2⟩⟩
            simp only [this]
        · rw [← f2 b hb]
          funext j
          exact u2_ne _ _ (by omega)
      · refine ⟨I2, ?_, ?_, f2⟩
        · rw [e2, sk_e38_18]
          simp (disch := omega) only [↓pl_r0b hS ha, ↓pl_r1b hS ha, ↓pl_r2b hS ha, ↓pl_r3b hS ha, ↓pl_i4b hS ha, ↓pl_u4b hS ha, ↓pl_i5b hS ha, ↓pl_u5b hS ha, ↓pl_i6b hS ha, ↓pl_u6b hS ha, ↓pl_i7b hS ha, ↓pl_u7b hS ha, ↓pl_i8b hS ha, ↓pl_u8b hS ha, ↓pl_ob hS ha, ↓pl_pb hS ha, ↓po_ab hS ha, ↓po_sb hS ha, ↓po_nb hS ha, ↓ps_ab hS ha, ↓ps_sb hS ha, ↓ps_nb hS ha, ↓pq_i0b hS ha, ↓pq_u0b hS ha, ↓pq_i1b hS ha, ↓pq_u1b hS ha, ↓pq_i2b hS ha, ↓pq_u2b hS ha, ↓pq_i3b hS ha, ↓pq_u3b hS ha, ↓pq_i4b hS ha, ↓pq_u4b hS ha, ↓pq_i5b hS ha, ↓pq_u5b hS ha, ↓pq_i6b hS ha, ↓pq_u6b hS ha, ↓pq_i7b hS ha, ↓pq_u7b hS ha, ↓pq_i8b hS ha, ↓pq_u8b hS ha, ↓pq_i9b hS ha, ↓pq_u9b hS ha, ↓pq_ob hS ha, ↓Option.bind_some, ↓sk_ci_some, ↓sk_cv_some, ↓sk_cf_some, if_true, eq_self, ite_self, c5, Int.toNat_natCast, e28, sj_add, t1, sj_ceq, sj_cne, sj_clt, sj_cge, sj_cgt, sj_cle, bi_ceq, bi_cne, bi_01]
          rw [if_neg (by omega), decide_eq_false c, if_pos rfl]
        · rw [h2]
          funext s k
          have : (s = 5 ∧ k < n + 1 ∧ 2 ≤ v 5 k) = (s = 5 ∧ k < n ∧ 2 ≤ v 5 k) := propext ⟨fun h => ⟨h.1, by
            by_cases ck : k = n
            · rw [ck] at h; exact absurd h.2.2 c
            · omega, h.2.2⟩, fun h => ⟨h.1, by omega, h.2.2⟩⟩
          simp only [this]
  obtain ⟨I3, e3, h3, f3⟩ := hst (v 0 1).toNat (by omega)
  have c5 : I3 a 5 = v 0 1 := by rw [vc5 h3]; simp
  refine ⟨I3, ?_, ?_, f3⟩
  · simp (disch := omega) only [↓pl_r0b hS ha, ↓pl_r1b hS ha, ↓pl_r2b hS ha, ↓pl_r3b hS ha, ↓pl_i4b hS ha, ↓pl_u4b hS ha, ↓pl_i5b hS ha, ↓pl_u5b hS ha, ↓pl_i6b hS ha, ↓pl_u6b hS ha, ↓pl_i7b hS ha, ↓pl_u7b hS ha, ↓pl_i8b hS ha, ↓pl_u8b hS ha, ↓pl_ob hS ha, ↓pl_pb hS ha, ↓po_ab hS ha, ↓po_sb hS ha, ↓po_nb hS ha, ↓ps_ab hS ha, ↓ps_sb hS ha, ↓ps_nb hS ha, ↓pw_r0b hS ha, ↓pw_r1b hS ha, ↓pw_r2b hS ha, ↓pw_r3b hS ha, ↓pw_i4b hS ha, ↓pw_u4b hS ha, ↓pw_ob hS ha, ↓pw0_ab hS ha, ↓pw0_sb hS ha, ↓pw0_nb hS ha, ↓pw1_ab hS ha, ↓pw1_sb hS ha, ↓pw1_nb hS ha, ↓pw2_ab hS ha, ↓pw2_sb hS ha, ↓pw2_nb hS ha, ↓pw3_ab hS ha, ↓pw3_sb hS ha, ↓pw3_nb hS ha, ↓Option.bind_some, ↓sk_ci_some, ↓sk_cv_some, ↓sk_cf_some, if_true, eq_self, ite_self, e1]
    rw [e3, sk_e38_18]
    simp (disch := omega) only [↓pl_r0b hS ha, ↓pl_r1b hS ha, ↓pl_r2b hS ha, ↓pl_r3b hS ha, ↓pl_i4b hS ha, ↓pl_u4b hS ha, ↓pl_i5b hS ha, ↓pl_u5b hS ha, ↓pl_i6b hS ha, ↓pl_u6b hS ha, ↓pl_i7b hS ha, ↓pl_u7b hS ha, ↓pl_i8b hS ha, ↓pl_u8b hS ha, ↓pl_ob hS ha, ↓pl_pb hS ha, ↓po_ab hS ha, ↓po_sb hS ha, ↓po_nb hS ha, ↓ps_ab hS ha, ↓ps_sb hS ha, ↓ps_nb hS ha, ↓Option.bind_some, ↓sk_ci_some, ↓sk_cv_some, ↓sk_cf_some, if_true, eq_self, ite_self, c5, sj_ceq, sj_cne, sj_clt, sj_cge, sj_cgt, sj_cle, bi_ceq, bi_cne, bi_01]
    rw [if_pos (by omega)]
  · rw [h3]
    funext s k
    unfold clrV
    have : (s = 5 ∧ k < (v 0 1).toNat ∧ 2 ≤ v 5 k) = (s = 5 ∧ (k : Int) < v 0 1 ∧ 2 ≤ v 5 k) := propext ⟨fun h => ⟨h.1, by omega, h.2.2⟩, fun h => ⟨h.1, by omega, h.2.2⟩⟩
    simp only [this]
theorem m18 {d : Nat} (hd : 11 ≤ d) (hS : sk_G S) (ha : sk_isP a) (hv : vC I a = v) (hV : VO v) : ∃ I', sk_c d 18 [.ref 72, .ref a] (sk_mk S I) = some (some (.int (sj (rnV v).2)), sk_mk S I') ∧ vC I' a = (rnV v).1 ∧ FA a I I' := by
  obtain ⟨n1, n2, n3, n4, n5, n6, n7, n8, n9, n10, n11, n12⟩ := hV.1
  obtain ⟨d, rfl⟩ : ∃ e, d = e + 1 := ⟨d - 1, by omega⟩; rw [sk_e18]
  obtain ⟨I1, e1, h1, f1⟩ := m38 (S := S) (I := I) (d := d) (by omega) hS ha hv hV
  have key := lp_run (fun k (X : Option sk_R) => ∃ I' o4, X = sk_D18 d 8 [some (.ref 72), some (.ref a), some (.int (sj (rnK v k).2)), some (.int (sj (k : Int))), o4] [] (sk_mk S I') ∧ vC I' a = (rnK v k).1 ∧ FA a I I') (v 0 2).toNat (fun k X hk hX => by
    obtain ⟨I2, o4, rfl, h2, f2⟩ := hX
    obtain ⟨i1, i2, i3, i4, i5⟩ := rnK_inv hV k (by omega)
    obtain ⟨d1, d2, d3⟩ := hV.2.2.1.1 k (by omega)
    obtain ⟨p, hp⟩ : ∃ p : Nat, v 9 k = p := ⟨(v 9 k).toNat, by omega⟩
    have c6 : I2 a 6 = v 0 2 := by rw [vc6 h2]; exact i2 0 2 (by omega) (by omega)
    have co : I2 (a + 2) k = p := by rw [vo_ h2, i2 9 k (by omega) (by omega)]; exact hp
    have z0 := i3 k (by omega) (Nat.le_refl _)
    have e01 : (rnK v k).1 0 1 = v 0 1 := i2 0 1 (by omega) (by omega)
    obtain ⟨I3, e3, c3, q3, f3⟩ := m20 (S := S) (I := I2) (d := d) (by omega) hS ha h2 i1.1 (p := p) (by omega)
    have h3 : vC I3 a = (rnK v k).1 := (vC_fr (fun b h1 h2 => f3 b (by rcases ha with rfl | rfl | rfl <;> omega))).trans h2
    have t1 : (k : Int) + 1 = ((k + 1 : Nat) : Int) := rfl
    rw [rnK_succ]
    unfold rSp layV
    rw [hp, Int.toNat_natCast]
    rw [hp, Int.toNat_natCast] at z0
    cases hf : fF (rnK v k).1 p with
    | none =>
      rw [hf] at c3
      have c30 : I3 73 0 = 0 := c3
      refine ⟨I3, some (.ref (a + 9 + p)), ?_, h3, f2.trans (fun b hb hc => f3 b hc)⟩
      rw [sk_e18_8]
      simp (disch := omega) only [↓pl_r0b hS ha, ↓pl_r1b hS ha, ↓pl_r2b hS ha, ↓pl_r3b hS ha, ↓pl_i4b hS ha, ↓pl_u4b hS ha, ↓pl_i5b hS ha, ↓pl_u5b hS ha, ↓pl_i6b hS ha, ↓pl_u6b hS ha, ↓pl_i7b hS ha, ↓pl_u7b hS ha, ↓pl_i8b hS ha, ↓pl_u8b hS ha, ↓pl_ob hS ha, ↓pl_pb hS ha, ↓po_ab hS ha, ↓po_sb hS ha, ↓po_nb hS ha, ↓ps_ab hS ha, ↓ps_sb hS ha, ↓ps_nb hS ha, ↓g72_r0b hS, ↓g72_ob hS, ↓g73_i0b hS, ↓g73_u0b hS, ↓g73_i1b hS, ↓g73_u1b hS, ↓g73_i2b hS, ↓g73_u2b hS, ↓g73_i3b hS, ↓g73_u3b hS, ↓g73_i4b hS, ↓g73_u4b hS, ↓g73_i5b hS, ↓g73_u5b hS, ↓g73_ob hS, ↓Option.bind_some, ↓sk_ci_some, ↓sk_cv_some, ↓sk_cf_some, if_true, eq_self, ite_self, c6, co, Int.toNat_natCast, e3, c30, sj_add, t1, sj_ceq, sj_cne, sj_clt, sj_cge, sj_cgt, sj_cle, bi_ceq, bi_cne, bi_01]
      rw [if_neg (by omega)]
      rfl
    | some q =>
      rw [hf] at c3
      obtain ⟨I4, e4, h4, f4⟩ := m23 (S := S) (I := I3) (d := d) (by omega) hS ha h3 i1 (p := p) (by omega) z0 (fF_FQ hf) c3
      refine ⟨I4, some (.ref (a + 9 + p)), ?_, h4, (f2.trans (fun b hb hc => f3 b hc)).trans (fun b hb hc => f4 b hb)⟩
      rw [sk_e18_8]
      simp (disch := omega) only [↓pl_r0b hS ha, ↓pl_r1b hS ha, ↓pl_r2b hS ha, ↓pl_r3b hS ha, ↓pl_i4b hS ha, ↓pl_u4b hS ha, ↓pl_i5b hS ha, ↓pl_u5b hS ha, ↓pl_i6b hS ha, ↓pl_u6b hS ha, ↓pl_i7b hS ha, ↓pl_u7b hS ha, ↓pl_i8b hS ha, ↓pl_u8b hS ha, ↓pl_ob hS ha, ↓pl_pb hS ha, ↓po_ab hS ha, ↓po_sb hS ha, ↓po_nb hS ha, ↓ps_ab hS ha, ↓ps_sb hS ha, ↓ps_nb hS ha, ↓g72_r0b hS, ↓g72_ob hS, ↓g73_i0b hS, ↓g73_u0b hS, ↓g73_i1b hS, ↓g73_u1b hS, ↓g73_i2b hS, ↓g73_u2b hS, ↓g73_i3b hS, ↓g73_u3b hS, ↓g73_i4b hS, ↓g73_u4b hS, ↓g73_i5b hS, ↓g73_u5b hS, ↓g73_ob hS, ↓Option.bind_some, ↓sk_ci_some, ↓sk_cv_some, ↓sk_cf_some, if_true, eq_self, ite_self, c6, co, Int.toNat_natCast, e3, c3.1, e4, sj_add, t1, sj_ceq, sj_cne, sj_clt, sj_cge, sj_cgt, sj_cle, bi_ceq, bi_cne, bi_01]
      rw [if_neg (by omega)]
      rfl) ⟨I1, none, rfl, h1, fun b hb hc => f1 b hb⟩
  obtain ⟨I2, o4, e2, h2, f2⟩ := key
  obtain ⟨i1, i2, i3, i4, i5⟩ := rnK_inv hV (v 0 2).toNat (by omega)
  have c6 : I2 a 6 = v 0 2 := by rw [vc6 h2]; exact i2 0 2 (by omega) (by omega)
  refine ⟨I2, ?_, h2, f2⟩
  simp (disch := omega) only [↓pl_r0b hS ha, ↓pl_r1b hS ha, ↓pl_r2b hS ha, ↓pl_r3b hS ha, ↓pl_i4b hS ha, ↓pl_u4b hS ha, ↓pl_i5b hS ha, ↓pl_u5b hS ha, ↓pl_i6b hS ha, ↓pl_u6b hS ha, ↓pl_i7b hS ha, ↓pl_u7b hS ha, ↓pl_i8b hS ha, ↓pl_u8b hS ha, ↓pl_ob hS ha, ↓pl_pb hS ha, ↓po_ab hS ha, ↓po_sb hS ha, ↓po_nb hS ha, ↓ps_ab hS ha, ↓ps_sb hS ha, ↓ps_nb hS ha, ↓Option.bind_some, ↓sk_ci_some, ↓sk_cv_some, ↓sk_cf_some, if_true, eq_self, ite_self, e1]
  refine e2.trans ?_
  rw [sk_e18_8]
  simp (disch := omega) only [↓pl_r0b hS ha, ↓pl_r1b hS ha, ↓pl_r2b hS ha, ↓pl_r3b hS ha, ↓pl_i4b hS ha, ↓pl_u4b hS ha, ↓pl_i5b hS ha, ↓pl_u5b hS ha, ↓pl_i6b hS ha, ↓pl_u6b hS ha, ↓pl_i7b hS ha, ↓pl_u7b hS ha, ↓pl_i8b hS ha, ↓pl_u8b hS ha, ↓pl_ob hS ha, ↓pl_pb hS ha, ↓po_ab hS ha, ↓po_sb hS ha, ↓po_nb hS ha, ↓ps_ab hS ha, ↓ps_sb hS ha, ↓ps_nb hS ha, ↓Option.bind_some, ↓sk_ci_some, ↓sk_cv_some, ↓sk_cf_some, if_true, eq_self, ite_self, c6, sj_ceq, sj_cne, sj_clt, sj_cge, sj_cgt, sj_cle, bi_ceq, bi_cne, bi_01]
  rw [if_pos (by omega)]
  rfl
theorem m183 {d : Nat} (hd : 1 ≤ d) (hS : sk_G S) (hR : RP I 107 v) (hV : VO v) : ∃ I', sk_c d 183 [.ref 105] (sk_mk S I) = some (none, sk_mk S I') ∧ RP I' 107 (clrV v) ∧ ∀ b, b ≠ 107 → I' b = I b := by
  obtain ⟨n1, n2, n3, n4, n5, n6, n7, n8, n9, n10, n11, n12⟩ := hV.1
  obtain ⟨d, rfl⟩ : ∃ e, d = e + 1 := ⟨d - 1, by omega⟩; rw [sk_e183]
  have k1 := lp_run (fun k (X : Option sk_R) => ∃ I', X = sk_D183 d 2 [some (.ref 105), some (.int (sj (k : Int)))] [] (sk_mk S I') ∧ (∀ q, I' 107 q = if 77 ≤ q ∧ q < 77 + k ∧ I 107 q ≠ 1 then 0 else I 107 q) ∧ ∀ b, b ≠ 107 → I' b = I b) (v 0 1).toNat (fun k X hk hX => by
    obtain ⟨I2, rfl, h2, f2⟩ := hX
    have r1 : I2 107 1 = v 0 1 := by rw [h2, if_neg (by omega)]; exact hR.1 1 (by omega)
    have rk : I2 107 (77 + k) = v 5 k := by rw [h2, if_neg (by omega)]; exact (hR.2.1 k (by omega)).2.2.2.2.1
    have rk0 : I 107 (77 + k) = v 5 k := (hR.2.1 k (by omega)).2.2.2.2.1
    obtain ⟨-, -, -, -, -, -, -, -, q9, q10, -⟩ := vo_p hV (p := k) (by omega)
    have t1 : (k : Int) + 1 = ((k + 1 : Nat) : Int) := rfl
    have t2 : (77 + (k : Int)).toNat = 77 + k := by omega
    have t3 : (1 : Int).toNat = 1 := rfl
    by_cases c : v 5 k = 1
    · refine ⟨I2, ?_, fun q => ?_, f2⟩
      · rw [sk_e183_2]
        simp (disch := omega) only [↓g105_r1b hS, ↓g107_ab hS, ↓Option.bind_some, ↓sk_ci_some, ↓sk_cv_some, ↓sk_cf_some, if_true, eq_self, ite_self, sj_add, t1, t2, t3, r1, rk, sj_ceq, sj_cne, sj_clt, sj_cge, sj_cgt, sj_cle, bi_ceq, bi_cne, bi_01]
        rw [if_neg (by omega), if_pos c]
      · rw [h2 q]
        by_cases e : q = 77 + k
        · subst e; rw [if_neg (by omega), if_neg (by omega)]
        · have : (77 ≤ q ∧ q < 77 + (k + 1) ∧ I 107 q ≠ 1) = (77 ≤ q ∧ q < 77 + k ∧ I 107 q ≠ 1) := propext (by omega)
          simp only [this]
    · refine ⟨u2 I2 107 (77 + k) 0, ?_, fun q => ?_, fun b hb => ?_⟩
      · rw [sk_e183_2]
        simp (disch := omega) only [↓g105_r1b hS, ↓g107_ab hS, ↓g107_sb hS, ↓Option.bind_some, ↓sk_ci_some, ↓sk_cv_some, ↓sk_cf_some, if_true, eq_self, ite_self, sj_add, t1, t2, t3, r1, rk, sj_ceq, sj_cne, sj_clt, sj_cge, sj_cgt, sj_cle, bi_ceq, bi_cne, bi_01]
        rw [if_neg (by omega), if_neg c]
      · by_cases e : q = 77 + k
        · subst e; rw [u2_eq, if_pos (by omega)]
        · rw [u2_ne _ _ (by omega), h2 q]
          have : (77 ≤ q ∧ q < 77 + (k + 1) ∧ I 107 q ≠ 1) = (77 ≤ q ∧ q < 77 + k ∧ I 107 q ≠ 1) := propext (by omega)
          simp only [this]
      · rw [← f2 b hb]
        funext j
        exact u2_ne _ _ (by omega)) ⟨I, rfl, fun q => by rw [if_neg (by omega)], fun _ _ => rfl⟩
  obtain ⟨I1, e1, h1, f1⟩ := k1
  have r1 : I1 107 1 = v 0 1 := by rw [h1, if_neg (by omega)]; exact hR.1 1 (by omega)
  have t3 : (1 : Int).toNat = 1 := rfl
  have k2 := lp_run (fun k (X : Option sk_R) => ∃ I', X = sk_D183 d 43 [some (.ref 105), some (.int (sj (k : Int)))] [] (sk_mk S I') ∧ (∀ q, I' 107 q = if 97 ≤ q ∧ q < 97 + k then 0 else I1 107 q) ∧ ∀ b, b ≠ 107 → I' b = I b) 20 (fun k X hk hX => by
    obtain ⟨I2, rfl, h2, f2⟩ := hX
    have t1 : (k : Int) + 1 = ((k + 1 : Nat) : Int) := rfl
    have t2 : (97 + (k : Int)).toNat = 97 + k := by omega
    refine ⟨u2 I2 107 (97 + k) 0, ?_, fun q => ?_, fun b hb => ?_⟩
    · rw [sk_e183_43]
      simp (disch := omega) only [↓g105_r1b hS, ↓g107_ab hS, ↓g107_sb hS, ↓Option.bind_some, ↓sk_ci_some, ↓sk_cv_some, ↓sk_cf_some, if_true, eq_self, ite_self, sj_add, t1, t2, sj_ceq, sj_cne, sj_clt, sj_cge, sj_cgt, sj_cle, bi_ceq, bi_cne, bi_01]
      rw [if_neg (by omega)]
    · by_cases e : q = 97 + k
      · subst e; rw [u2_eq, if_pos (by omega)]
      · rw [u2_ne _ _ (by omega), h2 q]
        have : (97 ≤ q ∧ q < 97 + (k + 1)) = (97 ≤ q ∧ q < 97 + k) := propext (by omega)
        simp only [this]
    · rw [← f2 b hb]
      funext j
      exact u2_ne _ _ (by omega)) ⟨I1, rfl, fun q => by rw [if_neg (by omega)], f1⟩
  obtain ⟨I2, e2, h2, f2⟩ := k2
  have t5 : (5 : Int).toNat = 5 := rfl
  refine ⟨u2 I2 107 5 0, ?_, ?_, fun b hb => ?_⟩
  · refine e1.trans ?_
    rw [sk_e183_2]
    simp (disch := omega) only [↓g105_r1b hS, ↓g107_ab hS, ↓Option.bind_some, ↓sk_ci_some, ↓sk_cv_some, ↓sk_cf_some, if_true, eq_self, ite_self, t3, r1, sj_ceq, sj_cne, sj_clt, sj_cge, sj_cgt, sj_cle, bi_ceq, bi_cne, bi_01]
    rw [if_pos (by omega)]
    refine e2.trans ?_
    rw [sk_e183_43]
    simp (disch := omega) only [↓g105_r1b hS, ↓g107_sb hS, ↓Option.bind_some, ↓sk_ci_some, ↓sk_cv_some, ↓sk_cf_some, if_true, eq_self, ite_self, t5, sj_ceq, sj_cne, sj_clt, sj_cge, sj_cgt, sj_cle, bi_ceq, bi_cne, bi_01]
    rw [if_pos (by omega)]
  · have q0 : ∀ q, q ≠ 5 → ¬ (97 ≤ q ∧ q < 117) → ¬ (77 ≤ q ∧ q < 77 + (v 0 1).toNat) → (u2 I2 107 5 0) 107 q = I 107 q := fun q a1 a2 a3 => by
      rw [u2_ne _ _ (by omega), h2, if_neg (by omega), h1, if_neg (by omega)]
    have z := fun k (hk : k ≠ 5) => clr_ne v (s := 0) (k := k) (by omega) (by omega) (by omega)
    have e := fun s k (h1 : s ≠ 10) (h2 : s ≠ 5) (h3 : s ≠ 0) => clr_ne v (s := s) (k := k) h1 h2 (by omega)
    obtain ⟨r0, r1, r2, r3, r4⟩ := hR
    refine ⟨fun k hk => ?_, fun p hp => ?_, fun k hk => ?_, fun c hc => ?_, fun k hk => ?_⟩
    · by_cases c : k = 5
      · subst c; rw [u2_eq, clr_05]
      · rw [q0 k c (by omega) (by omega), z k c]; exact r0 k hk
    · rw [z 1 (by omega)] at hp
      have h := r1 p hp
      obtain ⟨-, -, -, -, -, -, -, -, q9, q10, -⟩ := vo_p hV (p := p) (by omega)
      rw [e 1 p (by omega) (by omega) (by omega), e 2 p (by omega) (by omega) (by omega), e 3 p (by omega) (by omega) (by omega), e 4 p (by omega) (by omega) (by omega), e 6 p (by omega) (by omega) (by omega), e 7 p (by omega) (by omega) (by omega), e 8 p (by omega) (by omega) (by omega), clr_5 v hp]
      rw [q0 (7 + p) (by omega) (by omega) (by omega), q0 (17 + p) (by omega) (by omega) (by omega), q0 (27 + p) (by omega) (by omega) (by omega), q0 (37 + p) (by omega) (by omega) (by omega), q0 (47 + p) (by omega) (by omega) (by omega), q0 (57 + p) (by omega) (by omega) (by omega), q0 (67 + p) (by omega) (by omega) (by omega)]
      refine ⟨h.1, h.2.1, h.2.2.1, h.2.2.2.1, ?_, ?_⟩
      · rw [u2_ne _ _ (by omega), h2, if_neg (by omega), h1, h.2.2.2.2.1]
        by_cases c : 2 ≤ v 5 p
        · rw [if_pos c, if_pos (by omega)]
        · rw [if_neg c]
          by_cases c1 : v 5 p = 1
          · rw [if_neg (by omega)]
          · rw [if_pos (by omega)]; omega
      · intro hne
        refine h.2.2.2.2.2 ?_
        intro h0
        rw [h0] at hne
        exact hne rfl
    · rw [z 2 (by omega)] at hk
      rw [q0 (87 + k) (by omega) (by omega) (by omega), e 9 k (by omega) (by omega) (by omega)]
      exact r2 k hk
    · rw [z 0 (by omega)] at hc
      rw [clr_10 v (by omega), u2_ne _ _ (by omega), h2, if_pos (by omega)]
    · rw [clr_05] at hk
      omega
  · rw [← f2 b hb]
    funext j
    exact u2_ne _ _ (by omega)
theorem m184 {d : Nat} (hd : 7 ≤ d) (hS : sk_G S) (hR : RP I 107 v) (hV : VO v) : ∃ I', sk_c d 184 [.ref 105] (sk_mk S I) = some (some (.int (sj (rnV v).2)), sk_mk S I') ∧ RP I' 107 (rnV v).1 ∧ FS I I' := by
  obtain ⟨n1, n2, n3, n4, n5, n6, n7, n8, n9, n10, n11, n12⟩ := hV.1
  obtain ⟨d, rfl⟩ : ∃ e, d = e + 1 := ⟨d - 1, by omega⟩; rw [sk_e184]
  obtain ⟨I1, e1, h1, f1⟩ := m183 (S := S) (I := I) (d := d) (by omega) hS hR hV
  have key := lp_run (fun k (X : Option sk_R) => ∃ I', X = sk_D184 d 8 [some (.ref 105), some (.int (sj (rnK v k).2)), some (.int (sj (k : Int)))] [] (sk_mk S I') ∧ RP I' 107 (rnK v k).1 ∧ FS I I') (v 0 2).toNat (fun k X hk hX => by
    obtain ⟨I2, rfl, h2, f2⟩ := hX
    obtain ⟨i1, i2, i3, i4, i5⟩ := rnK_inv hV k (by omega)
    obtain ⟨d1, d2, d3⟩ := hV.2.2.1.1 k (by omega)
    obtain ⟨p, hp⟩ : ∃ p : Nat, v 9 k = p := ⟨(v 9 k).toNat, by omega⟩
    have e02 : (rnK v k).1 0 2 = v 0 2 := i2 0 2 (by omega) (by omega)
    have r2 : I2 107 2 = v 0 2 := by rw [h2.1 2 (by omega)]; exact e02
    have ro : I2 107 (87 + k) = p := by rw [h2.2.2.1 k (by omega), i2 9 k (by omega) (by omega)]; exact hp
    have z0 := i3 k (by omega) (Nat.le_refl _)
    rw [hp, Int.toNat_natCast] at z0
    have e01 : (rnK v k).1 0 1 = v 0 1 := i2 0 1 (by omega) (by omega)
    obtain ⟨I3, e3, c3, f3, -⟩ := m182 (S := S) (I := I2) (d := d) (by omega) hS h2 i1 (p := p) (by omega) z0
    have t1 : (k : Int) + 1 = ((k + 1 : Nat) : Int) := rfl
    have t2 : (87 + (k : Int)).toNat = 87 + k := by omega
    have t3 : (2 : Int).toNat = 2 := rfl
    rw [rnK_succ]
    unfold rSp
    rw [hp, Int.toNat_natCast]
    refine ⟨I3, ?_, c3, f2.trans f3⟩
    rw [sk_e184_8]
    simp (disch := omega) only [↓g105_r1b hS, ↓g105_ob hS, ↓g107_ab hS, ↓Option.bind_some, ↓sk_ci_some, ↓sk_cv_some, ↓sk_cf_some, if_true, eq_self, ite_self, sj_add, t1, t2, t3, r2, ro, e3, sj_ceq, sj_cne, sj_clt, sj_cge, sj_cgt, sj_cle, bi_ceq, bi_cne, bi_01]
    rw [if_neg (by omega)]
    cases (fF (rnK v k).1 p).isSome <;> rfl) ⟨I1, rfl, h1, FS.of107 f1⟩
  obtain ⟨I2, e2, h2, f2⟩ := key
  obtain ⟨i1, i2, i3, i4, i5⟩ := rnK_inv hV (v 0 2).toNat (by omega)
  have r2 : I2 107 2 = v 0 2 := by rw [h2.1 2 (by omega)]; exact i2 0 2 (by omega) (by omega)
  have t3 : (2 : Int).toNat = 2 := rfl
  refine ⟨I2, ?_, h2, f2⟩
  simp (disch := omega) only [↓g105_ob hS, ↓Option.bind_some, ↓sk_ci_some, ↓sk_cv_some, ↓sk_cf_some, if_true, eq_self, ite_self, e1]
  refine e2.trans ?_
  rw [sk_e184_8]
  simp (disch := omega) only [↓g105_r1b hS, ↓g107_ab hS, ↓Option.bind_some, ↓sk_ci_some, ↓sk_cv_some, ↓sk_cf_some, if_true, eq_self, ite_self, t3, r2, sj_ceq, sj_cne, sj_clt, sj_cge, sj_cgt, sj_cle, bi_ceq, bi_cne, bi_01]
  rw [if_pos (by omega)]
  rfl
end RUN
