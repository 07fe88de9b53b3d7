/-! ===== where a part rests, both ways; what it touches, both ways ===== -/
theorem cntTo_lt {n : Nat} {P Q : Nat → Bool} (h : ∀ k, k < n → P k = true → Q k = true) {p : Nat} (hp : p < n) (h1 : Q p = true) (h2 : P p = false) : cntTo n P < cntTo n Q := by
  have hle : ∀ m, m ≤ n → cntTo m P ≤ cntTo m Q := by
    intro m
    induction m with
    | zero => intro _; exact Int.le_refl _
    | succ m ih =>
      intro hm
      have := ih (by omega)
      have hk := h m (by omega)
      rw [cntTo_succ, cntTo_succ]
      cases hP : P m with
      | false => split <;> split <;> simp_all <;> omega
      | true => rw [hk hP]; simp only [if_true]; omega
  have key : ∀ m, m ≤ n → p < m → cntTo m P < cntTo m Q := by
    intro m
    induction m with
    | zero => intro _ h; omega
    | succ m ih =>
      intro hm hpm
      rw [cntTo_succ, cntTo_succ]
      by_cases e : p = m
      · subst e
        have := hle p (by omega)
        rw [h1, h2]
        simp
        omega
      · have := ih (by omega) (by omega)
        have hk := h m (by omega)
        cases hP : P m with
        | false => split <;> split <;> simp_all <;> omega
        | true => rw [hk hP]; simp only [if_true]; omega
  exact key n (Nat.le_refl _) hp
theorem topIn_spec (v : sk_H) (x y w t : Int) : (topIn v x y w t = -1 ∧ overV v x y w t = false) ∨ ((∃ p, p < (v 0 1).toNat ∧ hit v x y w t p = true ∧ topIn v x y w t = v 7 p + v 16 p) ∧ ∀ q, q < (v 0 1).toNat → hit v x y w t q = true → v 7 q + v 16 q ≤ topIn v x y w t) ∨ (∃ p, p < (v 0 1).toNat ∧ hit v x y w t p = true ∧ v 7 p + v 16 p ≤ -1) := by
  have key := fld_inv (fun k (s : Int) => (s = -1 ∧ ∀ q, q < k → hit v x y w t q = false) ∨ ((∃ p, p < k ∧ hit v x y w t p = true ∧ s = v 7 p + v 16 p) ∧ ∀ q, q < k → hit v x y w t q = true → v 7 q + v 16 q ≤ s) ∨ (∃ p, p < k ∧ hit v x y w t p = true ∧ v 7 p + v 16 p ≤ -1)) (f := fun p s => if hit v x y w t p = true ∧ s < v 7 p + v 16 p then v 7 p + v 16 p else s) (n := (v 0 1).toNat) (s := -1) (fun k s hk hs => by
    rcases hs with ⟨h1, h2⟩ | ⟨⟨p, h1, h2, h3⟩, h4⟩ | ⟨p, h1, h2, h3⟩
    · cases hh : hit v x y w t k with
      | false =>
        refine Or.inl ⟨by simp [h1], fun q hq => ?_⟩
        by_cases e : q = k
        · rw [e, hh]
        · exact h2 q (by omega)
      | true =>
        by_cases c : s < v 7 k + v 16 k
        · refine Or.inr (Or.inl ⟨⟨k, by omega, hh, by simp [c]⟩, fun q hq hhq => ?_⟩)
          by_cases e : q = k
          · subst e; simp [c]
          · rw [h2 q (by omega)] at hhq; cases hhq
        · exact Or.inr (Or.inr ⟨k, by omega, hh, by omega⟩)
    · cases hh : hit v x y w t k with
      | false =>
        refine Or.inr (Or.inl ⟨⟨p, by omega, h2, by simp [h3]⟩, fun q hq hhq => ?_⟩)
        by_cases e : q = k
        · subst e; rw [hh] at hhq; cases hhq
        · have := h4 q (by omega) hhq; simpa using this
      | true =>
        by_cases c : s < v 7 k + v 16 k
        · refine Or.inr (Or.inl ⟨⟨k, by omega, hh, by simp [c]⟩, fun q hq hhq => ?_⟩)
          by_cases e : q = k
          · subst e; simp [c]
          · have := h4 q (by omega) hhq
            simp [c]; omega
        · refine Or.inr (Or.inl ⟨⟨p, by omega, h2, by rw [if_neg (fun h => c h.2)]; exact h3⟩, fun q hq hhq => ?_⟩)
          by_cases e : q = k
          · subst e; simp [c]; omega
          · have := h4 q (by omega) hhq
            simp [c]; omega
    · exact Or.inr (Or.inr ⟨p, by omega, h2, h3⟩)) (Or.inl ⟨rfl, fun q hq => by omega⟩)
  rcases key with ⟨h1, h2⟩ | h | h
  · refine Or.inl ⟨h1, ?_⟩
    cases ho : overV v x y w t with
    | false => rfl
    | true =>
      obtain ⟨q, hq, hh⟩ := (anyTo_iff _ _).mp ho
      rw [h2 q hq] at hh
      cases hh
  · exact Or.inr (Or.inl h)
  · exact Or.inr (Or.inr h)
def abvN (v : sk_H) (y : Int) : Int := cntTo (v 0 1).toNat (fun p => decide (v 5 p = 1 ∧ y < v 7 p + v 16 p))
theorem restF_free {v : sk_H} (hV : VO v) {x w t : Int} : ∀ (n : Nat) (y : Int), 0 ≤ y → abvN v y ≤ n → y ≤ restF v x w t n y ∧ overV v x (restF v x w t n y) w t = false ∧ ∀ z, y ≤ z → z < restF v x w t n y → overV v x z w t = true := by
  intro n
  induction n with
  | zero =>
    intro y h0 hy
    refine ⟨Int.le_refl _, ?_, fun z h1 h2 => ?_⟩
    · cases ho : overV v x (restF v x w t 0 y) w t with
      | false => rfl
      | true =>
        exfalso
        obtain ⟨q, hq, hh⟩ := (anyTo_iff _ _).mp ho
        have hh := of_decide_eq_true hh
        have hl : cntTo (v 0 1).toNat (fun _ => false) < abvN v y := cntTo_lt (fun k _ h => by cases h) hq (decide_eq_true ⟨hh.1, hh.2.2.2.2⟩) rfl
        have := cntTo_rng (v 0 1).toNat (fun _ => false)
        omega
    · have h2 : z < y := h2
      omega
  | succ n ih =>
    intro y h0 hy
    unfold restF
    have hp0 : ∀ p, p < (v 0 1).toNat → hit v x y w t p = true → 0 ≤ v 7 p + v 16 p := fun p hp hh => by
      have := vly hV (p := p) (by omega) (by rw [(of_decide_eq_true hh).1]; decide)
      omega
    rcases topIn_spec v x y w t with ⟨h1, h2⟩ | ⟨⟨p, hp, hh, e⟩, h2⟩ | ⟨p, hp, hh, e⟩
    · rw [if_pos h1]
      exact ⟨Int.le_refl _, h2, fun z h3 h4 => by omega⟩
    · have ht0 := hp0 p hp hh
      have hd := of_decide_eq_true hh
      rw [if_neg (by omega)]
      have hlt : abvN v (topIn v x y w t) < abvN v y := by
        refine cntTo_lt (fun k _ h => ?_) hp (decide_eq_true ⟨hd.1, hd.2.2.2.2⟩) (decide_eq_false (fun h => by omega))
        have h := of_decide_eq_true h
        exact decide_eq_true ⟨h.1, by omega⟩
      obtain ⟨i1, i2, i3⟩ := ih (topIn v x y w t) (by omega) (by omega)
      refine ⟨by omega, i2, fun z h3 h4 => ?_⟩
      by_cases hz : z < topIn v x y w t
      · refine (anyTo_iff _ _).mpr ⟨p, hp, decide_eq_true ⟨hd.1, hd.2.1, hd.2.2.1, ?_, ?_⟩⟩ <;> omega
      · exact i3 z (by omega) h4
    · have := hp0 p hp hh
      omega
theorem restV_free {v : sk_H} (hV : VO v) {x w : Nat} {t : Int} (h : (x : Int) + w ≤ v 0 0) : skyMx v x w ≤ restV v x w t ∧ overV v x (restV v x w t) w t = false ∧ ∀ z, skyMx v x w ≤ z → z < restV v x w t → overV v x z w t = true := by
  obtain ⟨n1, n2, n3, n4, n5, n6, n7, n8, n9, n10, n11, n12⟩ := hV.1
  have h0 := skyMx_rng hV h
  have hc := cntTo_rng (v 0 1).toNat (fun p => decide (v 5 p = 1 ∧ skyMx v x w < v 7 p + v 16 p))
  exact restF_free hV 10 _ h0.1 (by unfold abvN; omega)
theorem cnt_clamp (t : Nat) (s : Int) : cntTo t (fun i => decide ((i : Int) < s)) = if s ≤ 0 then 0 else if (t : Int) ≤ s then (t : Int) else s := by
  induction t with
  | zero => unfold cntTo fld; split <;> (try split) <;> omega
  | succ t ih =>
    rw [cntTo_succ, ih]
    grind
section REF
variable {S : List sk_Sh} {I v : sk_H}
theorem m175 {d : Nat} (hd : 4 ≤ d) (hS : sk_G S) (hR : RP I 107 v) (hV : VO v) {x w : Nat} {t : Int} (h : (x : Int) + w ≤ v 0 0) (h1 : 0 ≤ t) (h2 : t ≤ 400) : sk_c d 175 [.ref 105, .int (sj x), .int (sj w), .int (sj t)] (sk_mk S I) = some (some (.int (sj (restV v x w t))), sk_mk S I) := by
  obtain ⟨n1, n2, n3, n4, n5, n6, n7, n8, n9, n10, n11, n12⟩ := hV.1
  obtain ⟨d, rfl⟩ : ∃ e, d = e + 1 := ⟨d - 1, by omega⟩; rw [sk_e175]
  obtain ⟨hi, e⟩ := lp_fold0 (fun k s => sk_D175 d 6 [some (.ref 105), some (.int (sj x)), some (.int (sj w)), some (.int (sj t)), some (.int (sj s)), some (.int (sj ((x : Int) + (k : Int))))] [] (sk_mk S I)) (fun j s => if s < v 10 (x + j) then v 10 (x + j) else s) w (fun k s => 0 ≤ s ∧ s ≤ 300) (fun k s hk hs => by
    have hE := hV.2.2.2.1 (x + k) (by omega)
    refine ⟨by split <;> omega, ?_⟩
    rw [sk_e175_6]
    simp (disch := omega) only [g105_r0 hS, g105_r1 hS, g105_i2 hS, g105_u2 hS, g105_r3 hS, g105_i4 hS, g105_u4 hS, g105_r5 hS, g105_i6 hS, g105_u6 hS, g105_i7 hS, g105_u7 hS, g105_i8 hS, g105_u8 hS, g105_i9 hS, g105_u9 hS, g105_i10 hS, g105_u10 hS, g105_r11 hS, g105_r12 hS, g105_r13 hS, g105_r14 hS, g105_r15 hS, g105_r16 hS, g105_r17 hS, g105_r18 hS, g105_r19 hS, g105_r20 hS, g105_r21 hS, g105_r22 hS, g105_r23 hS, g105_o hS, g106_q hS, g119_q hS, g127_q hS, g107_a hS, g107_s hS, g107_n hS, g108_a hS, g108_s hS, g108_n hS, g109_a hS, g109_s hS, g109_n hS, Option.bind_some, sk_ci_some, sk_cv_some, sk_cf_some, if_true, eq_self, ite_self, rq0 hR, rq1 hR, rq2 hR, rq3 hR, rq4 hR, rq5 hR, rk_ hR, rw_ hR, rh_ hR, rf_ hR, rl_ hR, rx_ hR, ry_ hR, rt_ hR, ro_ hR, rs_ hR, Int.toNat_natCast, sj_add, sj_sub, sj_mul, sj_neg, sj_div, sj_ceq, sj_cne, sj_clt, sj_cge, sj_cgt, sj_cle, bi_ceq, bi_cne, bi_01, Int.natCast_add, Int.cast_ofNat_Int, ← Int.add_assoc]
    have t2 : (97 + (x : Int) + (k : Int)).toNat = 97 + (x + k) := by omega
    rw [t2, hR.2.2.2.1 (x + k) (by omega)]
    simp (disch := omega) only [g105_r0 hS, g105_r1 hS, g105_i2 hS, g105_u2 hS, g105_r3 hS, g105_i4 hS, g105_u4 hS, g105_r5 hS, g105_i6 hS, g105_u6 hS, g105_i7 hS, g105_u7 hS, g105_i8 hS, g105_u8 hS, g105_i9 hS, g105_u9 hS, g105_i10 hS, g105_u10 hS, g105_r11 hS, g105_r12 hS, g105_r13 hS, g105_r14 hS, g105_r15 hS, g105_r16 hS, g105_r17 hS, g105_r18 hS, g105_r19 hS, g105_r20 hS, g105_r21 hS, g105_r22 hS, g105_r23 hS, g105_o hS, g106_q hS, g119_q hS, g127_q hS, g107_a hS, g107_s hS, g107_n hS, g108_a hS, g108_s hS, g108_n hS, g109_a hS, g109_s hS, g109_n hS, Option.bind_some, sk_ci_some, sk_cv_some, sk_cf_some, if_true, eq_self, ite_self, rq0 hR, rq1 hR, rq2 hR, rq3 hR, rq4 hR, rq5 hR, rk_ hR, rw_ hR, rh_ hR, rf_ hR, rl_ hR, rx_ hR, ry_ hR, rt_ hR, ro_ hR, rs_ hR, Int.toNat_natCast, sj_add, sj_sub, sj_mul, sj_neg, sj_div, sj_ceq, sj_cne, sj_clt, sj_cge, sj_cgt, sj_cle, bi_ceq, bi_cne, bi_01, m239]
    rw [if_neg (by omega)]) 0 ⟨by omega, by omega⟩
  have e0 : (x : Int) = (x : Int) + ((0 : Nat) : Int) := by simp
  have e : sk_D175 d 6 [some (.ref 105), some (.int (sj x)), some (.int (sj w)), some (.int (sj t)), some (.int (sj 0)), some (.int (sj ((x : Int) + ((0 : Nat) : Int))))] [] (sk_mk S I) = sk_D175 d 6 [some (.ref 105), some (.int (sj x)), some (.int (sj w)), some (.int (sj t)), some (.int (sj (skyMx v x w))), some (.int (sj ((x : Int) + (w : Int))))] [] (sk_mk S I) := e
  rw [← e0] at e
  refine e.trans ?_
  rw [sk_e175_6]
  simp (disch := omega) only [g105_r0 hS, g105_r1 hS, g105_i2 hS, g105_u2 hS, g105_r3 hS, g105_i4 hS, g105_u4 hS, g105_r5 hS, g105_i6 hS, g105_u6 hS, g105_i7 hS, g105_u7 hS, g105_i8 hS, g105_u8 hS, g105_i9 hS, g105_u9 hS, g105_i10 hS, g105_u10 hS, g105_r11 hS, g105_r12 hS, g105_r13 hS, g105_r14 hS, g105_r15 hS, g105_r16 hS, g105_r17 hS, g105_r18 hS, g105_r19 hS, g105_r20 hS, g105_r21 hS, g105_r22 hS, g105_r23 hS, g105_o hS, g106_q hS, g119_q hS, g127_q hS, g107_a hS, g107_s hS, g107_n hS, g108_a hS, g108_s hS, g108_n hS, g109_a hS, g109_s hS, g109_n hS, Option.bind_some, sk_ci_some, sk_cv_some, sk_cf_some, if_true, eq_self, ite_self, rq0 hR, rq1 hR, rq2 hR, rq3 hR, rq4 hR, rq5 hR, rk_ hR, rw_ hR, rh_ hR, rf_ hR, rl_ hR, rx_ hR, ry_ hR, rt_ hR, ro_ hR, rs_ hR, Int.toNat_natCast, sj_add, sj_sub, sj_mul, sj_neg, sj_div, sj_ceq, sj_cne, sj_clt, sj_cge, sj_cgt, sj_cle, bi_ceq, bi_cne, bi_01]
  rw [if_pos (by omega)]
  have hr := restV_rng hV (t := t) h
  have hm := skyMx_rng hV h
  obtain ⟨f1, f2, f3⟩ := restV_free hV (t := t) h
  have key : ∀ (n : Nat) (z : Int) (g : Option Value), skyMx v x w ≤ z → z + n = restV v x w t → sk_D175 d 37 [some (.ref 105), some (.int (sj x)), some (.int (sj w)), some (.int (sj t)), some (.int (sj z)), g] [] (sk_mk S I) = some (some (.int (sj (restV v x w t))), sk_mk S I) := by
    intro n
    induction n with
    | zero =>
      intro z g q1 q2
      obtain rfl : z = restV v x w t := by omega
      rw [sk_e175_37]
      simp (disch := omega) only [g105_r0 hS, g105_r1 hS, g105_i2 hS, g105_u2 hS, g105_r3 hS, g105_i4 hS, g105_u4 hS, g105_r5 hS, g105_i6 hS, g105_u6 hS, g105_i7 hS, g105_u7 hS, g105_i8 hS, g105_u8 hS, g105_i9 hS, g105_u9 hS, g105_i10 hS, g105_u10 hS, g105_r11 hS, g105_r12 hS, g105_r13 hS, g105_r14 hS, g105_r15 hS, g105_r16 hS, g105_r17 hS, g105_r18 hS, g105_r19 hS, g105_r20 hS, g105_r21 hS, g105_r22 hS, g105_r23 hS, g105_o hS, g106_q hS, g119_q hS, g127_q hS, g107_a hS, g107_s hS, g107_n hS, g108_a hS, g108_s hS, g108_n hS, g109_a hS, g109_s hS, g109_n hS, Option.bind_some, sk_ci_some, sk_cv_some, sk_cf_some, if_true, eq_self, ite_self, rq0 hR, rq1 hR, rq2 hR, rq3 hR, rq4 hR, rq5 hR, rk_ hR, rw_ hR, rh_ hR, rf_ hR, rl_ hR, rx_ hR, ry_ hR, rt_ hR, ro_ hR, rs_ hR, Int.toNat_natCast, sj_add, sj_sub, sj_mul, sj_neg, sj_div, sj_ceq, sj_cne, sj_clt, sj_cge, sj_cgt, sj_cle, bi_ceq, bi_cne, bi_01, m157 (v := v), f2]
    | succ n ih =>
      intro z g q1 q2
      rw [sk_e175_37]
      simp (disch := omega) only [g105_r0 hS, g105_r1 hS, g105_i2 hS, g105_u2 hS, g105_r3 hS, g105_i4 hS, g105_u4 hS, g105_r5 hS, g105_i6 hS, g105_u6 hS, g105_i7 hS, g105_u7 hS, g105_i8 hS, g105_u8 hS, g105_i9 hS, g105_u9 hS, g105_i10 hS, g105_u10 hS, g105_r11 hS, g105_r12 hS, g105_r13 hS, g105_r14 hS, g105_r15 hS, g105_r16 hS, g105_r17 hS, g105_r18 hS, g105_r19 hS, g105_r20 hS, g105_r21 hS, g105_r22 hS, g105_r23 hS, g105_o hS, g106_q hS, g119_q hS, g127_q hS, g107_a hS, g107_s hS, g107_n hS, g108_a hS, g108_s hS, g108_n hS, g109_a hS, g109_s hS, g109_n hS, Option.bind_some, sk_ci_some, sk_cv_some, sk_cf_some, if_true, eq_self, ite_self, rq0 hR, rq1 hR, rq2 hR, rq3 hR, rq4 hR, rq5 hR, rk_ hR, rw_ hR, rh_ hR, rf_ hR, rl_ hR, rx_ hR, ry_ hR, rt_ hR, ro_ hR, rs_ hR, Int.toNat_natCast, sj_add, sj_sub, sj_mul, sj_neg, sj_div, sj_ceq, sj_cne, sj_clt, sj_cge, sj_cgt, sj_cle, bi_ceq, bi_cne, bi_01, m157 (v := v), f3 z q1 (by omega)]
      rw [if_neg (by simp)]
      exact ih _ _ (by omega) (by omega)
  exact key (restV v x w t - skyMx v x w).toNat _ _ (Int.le_refl _) (by omega)
theorem m176 {d : Nat} (hd : 1 ≤ d) (hS : sk_G S) (hR : RP I 107 v) (hV : VO v) {x w t : Nat} {y : Int} (h : (x : Int) + w ≤ v 0 0) (h1 : 0 ≤ y) (h2 : y ≤ 400) (h4 : t ≤ 400) : sk_c d 176 [.ref 105, .int (sj x), .int (sj y), .int (sj w), .int (sj t)] (sk_mk S I) = some (some (.int (sj (tchV v x w y t))), sk_mk S I) := by
  obtain ⟨n1, n2, n3, n4, n5, n6, n7, n8, n9, n10, n11, n12⟩ := hV.1
  obtain ⟨d, rfl⟩ : ∃ e, d = e + 1 := ⟨d - 1, by omega⟩; rw [sk_e176]
  obtain ⟨hi, e⟩ := lp_fold0 (fun k s => sk_D176 d 6 [some (.ref 105), some (.int (sj x)), some (.int (sj y)), some (.int (sj w)), some (.int (sj t)), some (.int (sj s)), some (.int (sj ((x : Int) + (k : Int))))] [] (sk_mk S I)) (fun j s => if decide (v 10 (x + j) = y) = true then s + 1 else s) w (fun k s => 0 ≤ s ∧ s ≤ k) (fun k s hk hs => by
    have hE := hV.2.2.2.1 (x + k) (by omega)
    refine ⟨by split <;> omega, ?_⟩
    rw [sk_e176_6]
    simp (disch := omega) only [g105_r0 hS, g105_r1 hS, g105_i2 hS, g105_u2 hS, g105_r3 hS, g105_i4 hS, g105_u4 hS, g105_r5 hS, g105_i6 hS, g105_u6 hS, g105_i7 hS, g105_u7 hS, g105_i8 hS, g105_u8 hS, g105_i9 hS, g105_u9 hS, g105_i10 hS, g105_u10 hS, g105_r11 hS, g105_r12 hS, g105_r13 hS, g105_r14 hS, g105_r15 hS, g105_r16 hS, g105_r17 hS, g105_r18 hS, g105_r19 hS, g105_r20 hS, g105_r21 hS, g105_r22 hS, g105_r23 hS, g105_o hS, g106_q hS, g119_q hS, g127_q hS, g107_a hS, g107_s hS, g107_n hS, g108_a hS, g108_s hS, g108_n hS, g109_a hS, g109_s hS, g109_n hS, Option.bind_some, sk_ci_some, sk_cv_some, sk_cf_some, if_true, eq_self, ite_self, rq0 hR, rq1 hR, rq2 hR, rq3 hR, rq4 hR, rq5 hR, rk_ hR, rw_ hR, rh_ hR, rf_ hR, rl_ hR, rx_ hR, ry_ hR, rt_ hR, ro_ hR, rs_ hR, Int.toNat_natCast, sj_add, sj_sub, sj_mul, sj_neg, sj_div, sj_ceq, sj_cne, sj_clt, sj_cge, sj_cgt, sj_cle, bi_ceq, bi_cne, bi_01, Int.natCast_add, Int.cast_ofNat_Int, ← Int.add_assoc]
    have t2 : (97 + (x : Int) + (k : Int)).toNat = 97 + (x + k) := by omega
    rw [t2, hR.2.2.2.1 (x + k) (by omega)]
    simp (disch := omega) only [g105_r0 hS, g105_r1 hS, g105_i2 hS, g105_u2 hS, g105_r3 hS, g105_i4 hS, g105_u4 hS, g105_r5 hS, g105_i6 hS, g105_u6 hS, g105_i7 hS, g105_u7 hS, g105_i8 hS, g105_u8 hS, g105_i9 hS, g105_u9 hS, g105_i10 hS, g105_u10 hS, g105_r11 hS, g105_r12 hS, g105_r13 hS, g105_r14 hS, g105_r15 hS, g105_r16 hS, g105_r17 hS, g105_r18 hS, g105_r19 hS, g105_r20 hS, g105_r21 hS, g105_r22 hS, g105_r23 hS, g105_o hS, g106_q hS, g119_q hS, g127_q hS, g107_a hS, g107_s hS, g107_n hS, g108_a hS, g108_s hS, g108_n hS, g109_a hS, g109_s hS, g109_n hS, Option.bind_some, sk_ci_some, sk_cv_some, sk_cf_some, if_true, eq_self, ite_self, rq0 hR, rq1 hR, rq2 hR, rq3 hR, rq4 hR, rq5 hR, rk_ hR, rw_ hR, rh_ hR, rf_ hR, rl_ hR, rx_ hR, ry_ hR, rt_ hR, ro_ hR, rs_ hR, Int.toNat_natCast, sj_add, sj_sub, sj_mul, sj_neg, sj_div, sj_ceq, sj_cne, sj_clt, sj_cge, sj_cgt, sj_cle, bi_ceq, bi_cne, bi_01]
    rw [if_neg (by omega)]
    by_cases hq : v 10 (x + k) = y
    · rw [if_neg (by simp [hq]), if_pos (by simp [hq])]
    · rw [if_pos hq, if_neg (by simp [hq])]) 0 ⟨by omega, by omega⟩
  have e0 : (x : Int) = (x : Int) + ((0 : Nat) : Int) := by simp
  have e : sk_D176 d 6 [some (.ref 105), some (.int (sj x)), some (.int (sj y)), some (.int (sj w)), some (.int (sj t)), some (.int (sj 0)), some (.int (sj ((x : Int) + ((0 : Nat) : Int))))] [] (sk_mk S I) = sk_D176 d 6 [some (.ref 105), some (.int (sj x)), some (.int (sj y)), some (.int (sj w)), some (.int (sj t)), some (.int (sj (cntTo w (fun j => decide (v 10 (x + j) = y))))), some (.int (sj ((x : Int) + (w : Int))))] [] (sk_mk S I) := e
  rw [← e0] at e
  refine e.trans ?_
  rw [sk_e176_6]
  simp (disch := omega) only [g105_r0 hS, g105_r1 hS, g105_i2 hS, g105_u2 hS, g105_r3 hS, g105_i4 hS, g105_u4 hS, g105_r5 hS, g105_i6 hS, g105_u6 hS, g105_i7 hS, g105_u7 hS, g105_i8 hS, g105_u8 hS, g105_i9 hS, g105_u9 hS, g105_i10 hS, g105_u10 hS, g105_r11 hS, g105_r12 hS, g105_r13 hS, g105_r14 hS, g105_r15 hS, g105_r16 hS, g105_r17 hS, g105_r18 hS, g105_r19 hS, g105_r20 hS, g105_r21 hS, g105_r22 hS, g105_r23 hS, g105_o hS, g106_q hS, g119_q hS, g127_q hS, g107_a hS, g107_s hS, g107_n hS, g108_a hS, g108_s hS, g108_n hS, g109_a hS, g109_s hS, g109_n hS, Option.bind_some, sk_ci_some, sk_cv_some, sk_cf_some, if_true, eq_self, ite_self, rq0 hR, rq1 hR, rq2 hR, rq3 hR, rq4 hR, rq5 hR, rk_ hR, rw_ hR, rh_ hR, rf_ hR, rl_ hR, rx_ hR, ry_ hR, rt_ hR, ro_ hR, rs_ hR, Int.toNat_natCast, sj_add, sj_sub, sj_mul, sj_neg, sj_div, sj_ceq, sj_cne, sj_clt, sj_cge, sj_cgt, sj_cle, bi_ceq, bi_cne, bi_01]
  rw [if_pos (by omega)]
  have hc := cntTo_rng w (fun j => decide (v 10 (x + j) = y))
  have st : ∀ (i : Nat) (n : Int), i < t → 0 ≤ n → n ≤ 1000 → sk_D176 d 40 [some (.ref 105), some (.int (sj x)), some (.int (sj y)), some (.int (sj w)), some (.int (sj t)), some (.int (sj n)), some (.int (sj (y + (i : Int))))] [] (sk_mk S I) = sk_D176 d 40 [some (.ref 105), some (.int (sj x)), some (.int (sj y)), some (.int (sj w)), some (.int (sj t)), some (.int (sj ((if decide ((i : Int) < tchS v (x - 1) y t) = true then n + 1 else n) + (if decide ((i : Int) < tchS v (x + w) y t) = true then 1 else 0)))), some (.int (sj (y + ((i + 1 : Nat) : Int))))] [] (sk_mk S I) := by
    intro i n q1 q2 q3
    have h72 : ∀ n : Int, 0 ≤ n → n ≤ 1001 → sk_D176 d 72 [some (.ref 105), some (.int (sj x)), some (.int (sj y)), some (.int (sj w)), some (.int (sj t)), some (.int (sj n)), some (.int (sj (y + (i : Int))))] [] (sk_mk S I) = sk_D176 d 40 [some (.ref 105), some (.int (sj x)), some (.int (sj y)), some (.int (sj w)), some (.int (sj t)), some (.int (sj (n + (if decide ((i : Int) < tchS v (x + w) y t) = true then 1 else 0)))), some (.int (sj (y + ((i + 1 : Nat) : Int))))] [] (sk_mk S I) := by
      intro n q2 q3
      have hB : (if decide ((i : Int) < tchS v (x + w) y t) = true then (1 : Int) else 0) = if (x : Int) + w = v 0 0 then 1 else if v 10 (x + w) ≤ y + i then 0 else 1 := by
        unfold tchS
        rw [if_neg (show ¬ (x : Int) + w < 0 by omega)]
        by_cases c : (x : Int) + w = v 0 0
        · rw [if_neg (show ¬ (x : Int) + w < v 0 0 by omega), if_pos (decide_eq_true (by omega)), if_pos c]
        · have t3 : ((x : Int) + (w : Int)).toNat = x + w := by omega
          rw [if_pos (show (x : Int) + w < v 0 0 by omega), if_neg c, t3]
          by_cases q : v 10 (x + w) ≤ y + i
          · rw [if_pos q, if_neg (by simp; omega)]
          · rw [if_neg q, if_pos (by simp; omega)]
      rw [hB, sk_e176_72]
      simp (disch := omega) only [g105_r0 hS, g105_r1 hS, g105_i2 hS, g105_u2 hS, g105_r3 hS, g105_i4 hS, g105_u4 hS, g105_r5 hS, g105_i6 hS, g105_u6 hS, g105_i7 hS, g105_u7 hS, g105_i8 hS, g105_u8 hS, g105_i9 hS, g105_u9 hS, g105_i10 hS, g105_u10 hS, g105_r11 hS, g105_r12 hS, g105_r13 hS, g105_r14 hS, g105_r15 hS, g105_r16 hS, g105_r17 hS, g105_r18 hS, g105_r19 hS, g105_r20 hS, g105_r21 hS, g105_r22 hS, g105_r23 hS, g105_o hS, g106_q hS, g119_q hS, g127_q hS, g107_a hS, g107_s hS, g107_n hS, g108_a hS, g108_s hS, g108_n hS, g109_a hS, g109_s hS, g109_n hS, Option.bind_some, sk_ci_some, sk_cv_some, sk_cf_some, if_true, eq_self, ite_self, rq0 hR, rq1 hR, rq2 hR, rq3 hR, rq4 hR, rq5 hR, rk_ hR, rw_ hR, rh_ hR, rf_ hR, rl_ hR, rx_ hR, ry_ hR, rt_ hR, ro_ hR, rs_ hR, Int.toNat_natCast, sj_add, sj_sub, sj_mul, sj_neg, sj_div, sj_ceq, sj_cne, sj_clt, sj_cge, sj_cgt, sj_cle, bi_ceq, bi_cne, bi_01, Int.natCast_add, Int.cast_ofNat_Int, ← Int.add_assoc]
      by_cases c : (x : Int) + w = v 0 0
      · rw [if_pos c, if_pos c]
      · have t2 : (97 + (x : Int) + (w : Int)).toNat = 97 + (x + w) := by omega
        have hE := hV.2.2.2.1 (x + w) (by omega)
        rw [if_neg c, if_neg c, t2, hR.2.2.2.1 (x + w) (by omega)]
        simp (disch := omega) only [g105_r0 hS, g105_r1 hS, g105_i2 hS, g105_u2 hS, g105_r3 hS, g105_i4 hS, g105_u4 hS, g105_r5 hS, g105_i6 hS, g105_u6 hS, g105_i7 hS, g105_u7 hS, g105_i8 hS, g105_u8 hS, g105_i9 hS, g105_u9 hS, g105_i10 hS, g105_u10 hS, g105_r11 hS, g105_r12 hS, g105_r13 hS, g105_r14 hS, g105_r15 hS, g105_r16 hS, g105_r17 hS, g105_r18 hS, g105_r19 hS, g105_r20 hS, g105_r21 hS, g105_r22 hS, g105_r23 hS, g105_o hS, g106_q hS, g119_q hS, g127_q hS, g107_a hS, g107_s hS, g107_n hS, g108_a hS, g108_s hS, g108_n hS, g109_a hS, g109_s hS, g109_n hS, Option.bind_some, sk_ci_some, sk_cv_some, sk_cf_some, if_true, eq_self, ite_self, rq0 hR, rq1 hR, rq2 hR, rq3 hR, rq4 hR, rq5 hR, rk_ hR, rw_ hR, rh_ hR, rf_ hR, rl_ hR, rx_ hR, ry_ hR, rt_ hR, ro_ hR, rs_ hR, Int.toNat_natCast, sj_add, sj_sub, sj_mul, sj_neg, sj_div, sj_ceq, sj_cne, sj_clt, sj_cge, sj_cgt, sj_cle, bi_ceq, bi_cne, bi_01]
        by_cases q : v 10 (x + w) ≤ y + i
        · rw [if_pos q, if_pos q, Int.add_zero]
        · rw [if_neg q, if_neg q]
    have hx : (x : Int) = 0 ∨ 1 ≤ (x : Int) := by omega
    have hA : (if decide ((i : Int) < tchS v (x - 1) y t) = true then n + 1 else n) = if (x : Int) = 0 then n + 1 else if v 10 (x - 1) ≤ y + i then n else n + 1 := by
      unfold tchS
      rcases hx with hx | hx
      · rw [if_pos (show (x : Int) - 1 < 0 by omega), if_pos (decide_eq_true (by omega)), if_pos hx]
      · rw [if_neg (show ¬ (x : Int) - 1 < 0 by omega), if_pos (show (x : Int) - 1 < v 0 0 by omega), if_neg (show ¬ (x : Int) = 0 by omega)]
        have t3 : ((x : Int) - 1).toNat = x - 1 := by omega
        rw [t3]
        by_cases q : v 10 (x - 1) ≤ y + i
        · rw [if_pos q, if_neg (by simp; omega)]
        · rw [if_neg q, if_pos (by simp; omega)]
    rw [hA, sk_e176_40]
    simp (disch := omega) only [g105_r0 hS, g105_r1 hS, g105_i2 hS, g105_u2 hS, g105_r3 hS, g105_i4 hS, g105_u4 hS, g105_r5 hS, g105_i6 hS, g105_u6 hS, g105_i7 hS, g105_u7 hS, g105_i8 hS, g105_u8 hS, g105_i9 hS, g105_u9 hS, g105_i10 hS, g105_u10 hS, g105_r11 hS, g105_r12 hS, g105_r13 hS, g105_r14 hS, g105_r15 hS, g105_r16 hS, g105_r17 hS, g105_r18 hS, g105_r19 hS, g105_r20 hS, g105_r21 hS, g105_r22 hS, g105_r23 hS, g105_o hS, g106_q hS, g119_q hS, g127_q hS, g107_a hS, g107_s hS, g107_n hS, g108_a hS, g108_s hS, g108_n hS, g109_a hS, g109_s hS, g109_n hS, Option.bind_some, sk_ci_some, sk_cv_some, sk_cf_some, if_true, eq_self, ite_self, rq0 hR, rq1 hR, rq2 hR, rq3 hR, rq4 hR, rq5 hR, rk_ hR, rw_ hR, rh_ hR, rf_ hR, rl_ hR, rx_ hR, ry_ hR, rt_ hR, ro_ hR, rs_ hR, Int.toNat_natCast, sj_add, sj_sub, sj_mul, sj_neg, sj_div, sj_ceq, sj_cne, sj_clt, sj_cge, sj_cgt, sj_cle, bi_ceq, bi_cne, bi_01]
    rw [if_neg (by omega)]
    rcases hx with hx | hx
    · rw [if_pos hx, if_pos hx, h72 _ (by omega) (by omega)]
    · have t2 : (97 + (x : Int) - 1).toNat = 97 + (x - 1) := by omega
      have hE := hV.2.2.2.1 (x - 1) (by omega)
      rw [if_neg (show ¬ (x : Int) = 0 by omega), if_neg (show ¬ (x : Int) = 0 by omega), t2, hR.2.2.2.1 (x - 1) (by omega)]
      simp (disch := omega) only [g105_r0 hS, g105_r1 hS, g105_i2 hS, g105_u2 hS, g105_r3 hS, g105_i4 hS, g105_u4 hS, g105_r5 hS, g105_i6 hS, g105_u6 hS, g105_i7 hS, g105_u7 hS, g105_i8 hS, g105_u8 hS, g105_i9 hS, g105_u9 hS, g105_i10 hS, g105_u10 hS, g105_r11 hS, g105_r12 hS, g105_r13 hS, g105_r14 hS, g105_r15 hS, g105_r16 hS, g105_r17 hS, g105_r18 hS, g105_r19 hS, g105_r20 hS, g105_r21 hS, g105_r22 hS, g105_r23 hS, g105_o hS, g106_q hS, g119_q hS, g127_q hS, g107_a hS, g107_s hS, g107_n hS, g108_a hS, g108_s hS, g108_n hS, g109_a hS, g109_s hS, g109_n hS, Option.bind_some, sk_ci_some, sk_cv_some, sk_cf_some, if_true, eq_self, ite_self, rq0 hR, rq1 hR, rq2 hR, rq3 hR, rq4 hR, rq5 hR, rk_ hR, rw_ hR, rh_ hR, rf_ hR, rl_ hR, rx_ hR, ry_ hR, rt_ hR, ro_ hR, rs_ hR, Int.toNat_natCast, sj_add, sj_sub, sj_mul, sj_neg, sj_div, sj_ceq, sj_cne, sj_clt, sj_cge, sj_cgt, sj_cle, bi_ceq, bi_cne, bi_01]
      by_cases q : v 10 (x - 1) ≤ y + i
      · rw [if_pos q, if_pos q, h72 _ (by omega) (by omega)]
      · rw [if_neg q, if_neg q, h72 _ (by omega) (by omega)]
  have key : ∀ i : Nat, i ≤ t → sk_D176 d 40 [some (.ref 105), some (.int (sj x)), some (.int (sj y)), some (.int (sj w)), some (.int (sj t)), some (.int (sj (cntTo w (fun j => decide (v 10 (x + j) = y))))), some (.int (sj (y + ((0 : Nat) : Int))))] [] (sk_mk S I) = sk_D176 d 40 [some (.ref 105), some (.int (sj x)), some (.int (sj y)), some (.int (sj w)), some (.int (sj t)), some (.int (sj (cntTo w (fun j => decide (v 10 (x + j) = y)) + cntTo i (fun i => decide ((i : Int) < tchS v (x - 1) y t)) + cntTo i (fun i => decide ((i : Int) < tchS v (x + w) y t))))), some (.int (sj (y + (i : Int))))] [] (sk_mk S I) := by
    intro i
    induction i with
    | zero =>
      intro _
      have z0 : ∀ P, cntTo 0 P = 0 := fun _ => rfl
      rw [z0, z0, Int.add_zero, Int.add_zero]
    | succ i ih =>
      intro hit
      have ha := cntTo_rng i (fun i => decide ((i : Int) < tchS v (x - 1) y t))
      have hb := cntTo_rng i (fun i => decide ((i : Int) < tchS v (x + w) y t))
      have e5 : ∀ (C c1 c2 : Int) (p1 p2 : Bool), ((if p1 = true then C + c1 + c2 + 1 else C + c1 + c2) + (if p2 = true then (1 : Int) else 0)) = C + (if p1 = true then c1 + 1 else c1) + (if p2 = true then c2 + 1 else c2) := fun C c1 c2 p1 p2 => by
        cases p1 <;> cases p2 <;> simp <;> omega
      rw [ih (by omega), st i _ (by omega) (by omega) (by omega), cntTo_succ, cntTo_succ, e5]
  have key := key t (Nat.le_refl _)
  rw [cnt_clamp, cnt_clamp] at key
  rw [show y + ((0 : Nat) : Int) = y by simp] at key
  rw [key, sk_e176_40]
  have r1 := tchS_rng hV (c := x - 1) (t := t) h1 h2 (by omega) (by omega)
  have r2 := tchS_rng hV (c := x + w) (t := t) h1 h2 (by omega) (by omega)
  simp (disch := omega) only [g105_r0 hS, g105_r1 hS, g105_i2 hS, g105_u2 hS, g105_r3 hS, g105_i4 hS, g105_u4 hS, g105_r5 hS, g105_i6 hS, g105_u6 hS, g105_i7 hS, g105_u7 hS, g105_i8 hS, g105_u8 hS, g105_i9 hS, g105_u9 hS, g105_i10 hS, g105_u10 hS, g105_r11 hS, g105_r12 hS, g105_r13 hS, g105_r14 hS, g105_r15 hS, g105_r16 hS, g105_r17 hS, g105_r18 hS, g105_r19 hS, g105_r20 hS, g105_r21 hS, g105_r22 hS, g105_r23 hS, g105_o hS, g106_q hS, g119_q hS, g127_q hS, g107_a hS, g107_s hS, g107_n hS, g108_a hS, g108_s hS, g108_n hS, g109_a hS, g109_s hS, g109_n hS, Option.bind_some, sk_ci_some, sk_cv_some, sk_cf_some, if_true, eq_self, ite_self, rq0 hR, rq1 hR, rq2 hR, rq3 hR, rq4 hR, rq5 hR, rk_ hR, rw_ hR, rh_ hR, rf_ hR, rl_ hR, rx_ hR, ry_ hR, rt_ hR, ro_ hR, rs_ hR, Int.toNat_natCast, sj_add, sj_sub, sj_mul, sj_neg, sj_div, sj_ceq, sj_cne, sj_clt, sj_cge, sj_cgt, sj_cle, bi_ceq, bi_cne, bi_01]
  rw [if_pos (by omega)]
  have : tchV v x w y t = cntTo w (fun j => decide (v 10 (x + j) = y)) + (if tchS v (x - 1) y t ≤ 0 then 0 else if (t : Int) ≤ tchS v (x - 1) y t then (t : Int) else tchS v (x - 1) y t) + (if tchS v (x + w) y t ≤ 0 then 0 else if (t : Int) ≤ tchS v (x + w) y t then (t : Int) else tchS v (x + w) y t) := by
    unfold tchV
    dsimp only
    split <;> split <;> (try split) <;> (try split) <;> omega
  rw [this]
theorem m177 {d : Nat} (hd : 2 ≤ d) (hS : sk_G S) (hR : RP I 107 v) (hV : VO v) {x w t : Nat} {y : Int} (h : (x : Int) + w ≤ v 0 0) (h1 : 0 ≤ y) (h2 : y ≤ 400) (h4 : t ≤ 400) : sk_c d 177 [.ref 105, .int (sj x), .int (sj y), .int (sj w), .int (sj t)] (sk_mk S I) = some (some (.int (sj (costV v x w y t (wstV v x w y)))), sk_mk S I) := by
  obtain ⟨n1, n2, n3, n4, n5, n6, n7, n8, n9, n10, n11, n12⟩ := hV.1
  obtain ⟨d, rfl⟩ : ∃ e, d = e + 1 := ⟨d - 1, by omega⟩; rw [sk_e177]
  simp (disch := omega) only [g105_r0 hS, g105_r1 hS, g105_i2 hS, g105_u2 hS, g105_r3 hS, g105_i4 hS, g105_u4 hS, g105_r5 hS, g105_i6 hS, g105_u6 hS, g105_i7 hS, g105_u7 hS, g105_i8 hS, g105_u8 hS, g105_i9 hS, g105_u9 hS, g105_i10 hS, g105_u10 hS, g105_r11 hS, g105_r12 hS, g105_r13 hS, g105_r14 hS, g105_r15 hS, g105_r16 hS, g105_r17 hS, g105_r18 hS, g105_r19 hS, g105_r20 hS, g105_r21 hS, g105_r22 hS, g105_r23 hS, g105_o hS, g106_q hS, g119_q hS, g127_q hS, g107_a hS, g107_s hS, g107_n hS, g108_a hS, g108_s hS, g108_n hS, g109_a hS, g109_s hS, g109_n hS, Option.bind_some, sk_ci_some, sk_cv_some, sk_cf_some, if_true, eq_self, ite_self, rq0 hR, rq1 hR, rq2 hR, rq3 hR, rq4 hR, rq5 hR, rk_ hR, rw_ hR, rh_ hR, rf_ hR, rl_ hR, rx_ hR, ry_ hR, rt_ hR, ro_ hR, rs_ hR, Int.toNat_natCast, sj_add, sj_sub, sj_mul, sj_neg, sj_div, sj_ceq, sj_cne, sj_clt, sj_cge, sj_cgt, sj_cle, bi_ceq, bi_cne, bi_01, sj_toInt, m174 (v := v), m176 (v := v)]
  unfold costV
  grind
end REF
