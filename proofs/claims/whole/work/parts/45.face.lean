/-! ===== the two objects stand alike ===== -/
def GT (I : sk_H) : Prop := ∃ n : Nat, n ≤ 60 ∧ I 2 1 = n ∧ I 105 4 = n ∧ (∀ k, k < n → I 3 k = I 110 k ∧ 0 ≤ I 110 k ∧ I 110 k ≤ 255) ∧ ∀ k, k < 10 → ∀ j, 4 ≤ j → j < 10 → I (5 + k) j = 0
def GM (I : sk_H) : Prop := (I 1 9 = 0 ∧ I 105 2 = 0) ∨ (I 1 9 = 1 ∧ I 105 2 = 1 ∧ VT (vC I 34) ∧ RP I 108 (vC I 34))
def GR1 (I v : sk_H) (r : Nat) : Prop := (∀ i, i < 10 → I (87 + 3 + 4 * r) i = I (120 + r) i) ∧ ((I (87 + 2 + 4 * r) 1 = -1 ∧ I 117 r = -1) ∨ (0 ≤ I (87 + 2 + 4 * r) 1 ∧ I (87 + 2 + 4 * r) 1 ≤ 5 ∧ I 118 r = I (87 + 2 + 4 * r) 1 ∧ 0 ≤ I (87 + 2 + 4 * r) 2 ∧ I (87 + 2 + 4 * r) 2 ≤ 10 ∧ I 117 r = I (87 + 2 + 4 * r) 2 ∧ ∀ i, i < 10 → -1 ≤ I (120 + r) i ∧ I (120 + r) i < v 0 1))
def GH1 (I : sk_H) (s : Nat) : Prop := (I (87 + 4 + 4 * s) 1 = -1 ∧ I 125 s = -1) ∨ ((I (87 + 4 + 4 * s) 1 = 0 ∨ I (87 + 4 + 4 * s) 1 = 1) ∧ I 125 s = I (87 + 4 + 4 * s) 1 ∧ 0 ≤ I (87 + 4 + 4 * s) 2 ∧ I (87 + 4 + 4 * s) 2 ≤ 40 ∧ I 126 s = I (87 + 4 + 4 * s) 2 ∧ ∀ k, k < 40 → I (87 + 5 + 4 * s) k = I (128 + s) k ∧ -2147483648 ≤ I (128 + s) k ∧ I (128 + s) k < 2147483648)
def GI (I v : sk_H) : Prop := vC I 15 = v ∧ VT v ∧ RP I 107 v ∧ GT I ∧ GM I ∧ (∀ r, r < 4 → GR1 I v r) ∧ ∀ s, s < 4 → GH1 I s
/-- cells that nothing leans on -/
def Gb (b : Nat) : Prop := (53 ≤ b ∧ b ≤ 86) ∨ b = 109 ∨ (111 ≤ b ∧ b ≤ 116) ∨ b = 124 ∨ 132 ≤ b
def GF (I I' : sk_H) : Prop := (∀ b, ¬ Gb b → b ≠ 105 → b ≠ 107 → b ≠ 2 → I' b = I b) ∧ (∀ k, ¬ (6 ≤ k ∧ k ≤ 10) → I' 105 k = I 105 k) ∧ (∀ k, k < 1141 → I' 107 k = I 107 k) ∧ ∀ k, ¬ (3 ≤ k ∧ k ≤ 4) → I' 2 k = I 2 k
theorem GF.rfl' (I : sk_H) : GF I I := ⟨fun _ _ _ _ _ => rfl, fun _ _ => rfl, fun _ _ => rfl, fun _ _ => rfl⟩
theorem GF.trans {I J K : sk_H} (h1 : GF I J) (h2 : GF J K) : GF I K := ⟨fun b a1 a2 a3 a4 => (h2.1 b a1 a2 a3 a4).trans (h1.1 b a1 a2 a3 a4), fun k hk => (h2.2.1 k hk).trans (h1.2.1 k hk), fun k hk => (h2.2.2.1 k hk).trans (h1.2.2.1 k hk), fun k hk => (h2.2.2.2 k hk).trans (h1.2.2.2 k hk)⟩
theorem GF.of {I J : sk_H} (h : ∀ b, ¬ Gb b → J b = I b) : GF I J := ⟨fun b a1 _ _ _ => h b a1, fun k _ => by rw [h 105 (by unfold Gb; omega)], fun k _ => by rw [h 107 (by unfold Gb; omega)], fun k _ => by rw [h 2 (by unfold Gb; omega)]⟩
theorem GF.of105 {I J : sk_H} (h : ∀ b, b ≠ 105 → J b = I b) (h2 : ∀ k, ¬ (6 ≤ k ∧ k ≤ 10) → J 105 k = I 105 k) : GF I J := ⟨fun b _ a2 _ _ => h b a2, h2, fun k _ => by rw [h 107 (by omega)], fun k _ => by rw [h 2 (by omega)]⟩
/-- all but the plans stays -/
def GP (I I' : sk_H) : Prop := (∀ b, ¬ Gb b → ¬ (15 ≤ b ∧ b < 34) → b ≠ 105 → b ≠ 107 → b ≠ 2 → I' b = I b) ∧ (∀ k, ¬ (6 ≤ k ∧ k ≤ 10) → I' 105 k = I 105 k) ∧ ∀ k, ¬ (3 ≤ k ∧ k ≤ 4) → I' 2 k = I 2 k
theorem GP.trans {I J K : sk_H} (h1 : GP I J) (h2 : GP J K) : GP I K := ⟨fun b a1 a0 a2 a3 a4 => (h2.1 b a1 a0 a2 a3 a4).trans (h1.1 b a1 a0 a2 a3 a4), fun k hk => (h2.2.1 k hk).trans (h1.2.1 k hk), fun k hk => (h2.2.2 k hk).trans (h1.2.2 k hk)⟩
theorem GF.gp {I J : sk_H} (h : GF I J) : GP I J := ⟨fun b a1 _ a2 a3 a4 => h.1 b a1 a2 a3 a4, h.2.1, h.2.2.2⟩
theorem GP.ofC {I J : sk_H} (h : ∀ b, ¬ (15 ≤ b ∧ b < 34) → J b = I b) : GP I J := ⟨fun b _ a0 _ _ _ => h b a0, fun k _ => by rw [h 105 (by omega)], fun k _ => by rw [h 2 (by omega)]⟩
theorem GP.ofR {I J : sk_H} (h : ∀ b, b ≠ 107 → J b = I b) : GP I J := ⟨fun b _ _ _ a3 _ => h b a3, fun k _ => by rw [h 105 (by omega)], fun k _ => by rw [h 2 (by omega)]⟩
theorem GP.ofFA {I J : sk_H} (h : FA 15 I J) : GP I J := ⟨fun b a1 a0 _ _ _ => h b (by omega) (by unfold Gb at a1; omega), fun k _ => by rw [h 105 (by omega) (by omega)], fun k _ => by rw [h 2 (by omega) (by omega)]⟩
theorem GP.ofFS {I J : sk_H} (h : FS I J) : GP I J := ⟨fun b _ _ a2 a3 _ => h.1 b a2 a3, fun k hk => h.2 k (by omega), fun k _ => by rw [h.1 2 (by omega) (by omega)]⟩
theorem GT_fr {I J : sk_H} (h : GT I) (h2 : J 2 1 = I 2 1) (h105 : J 105 4 = I 105 4) (h3 : J 3 = I 3) (h110 : J 110 = I 110) (h5 : ∀ k, k < 10 → J (5 + k) = I (5 + k)) : GT J := by
  obtain ⟨n, a1, a2, a3, a4, a5⟩ := h
  refine ⟨n, a1, h2.trans a2, h105.trans a3, fun k hk => by rw [h3, h110]; exact a4 k hk, fun k hk j j1 j2 => by rw [h5 k hk]; exact a5 k hk j j1 j2⟩
theorem GM_fr {I J : sk_H} (h : GM I) (h1 : J 1 = I 1) (h105 : J 105 2 = I 105 2) (hk : ∀ b, 34 ≤ b → b < 53 → J b = I b) (h108 : J 108 = I 108) : GM J := by
  have e : vC J 34 = vC I 34 := vC_fr (fun b b1 b2 => hk b b1 b2)
  rcases h with ⟨a1, a2⟩ | ⟨a1, a2, a3, a4⟩
  · exact Or.inl ⟨by rw [h1]; exact a1, h105.trans a2⟩
  · exact Or.inr ⟨by rw [h1]; exact a1, h105.trans a2, by rw [e]; exact a3, by rw [e]; exact a4.fr h108⟩
theorem GR1_fr {I J v v' : sk_H} {r : Nat} (h : GR1 I v r) (hv : v 0 1 ≤ v' 0 1) (h1 : J (87 + 3 + 4 * r) = I (87 + 3 + 4 * r)) (h2 : J (120 + r) = I (120 + r)) (h3 : J (87 + 2 + 4 * r) = I (87 + 2 + 4 * r)) (h4 : J 117 = I 117) (h5 : J 118 = I 118) : GR1 J v' r := by
  unfold GR1 at h ⊢
  rw [h1, h2, h3, h4, h5]
  obtain ⟨a, b⟩ := h
  refine ⟨a, ?_⟩
  rcases b with b | ⟨b1, b2, b3, b4, b5, b6, b7⟩
  · exact Or.inl b
  · exact Or.inr ⟨b1, b2, b3, b4, b5, b6, fun i hi => ⟨(b7 i hi).1, by have := (b7 i hi).2; omega⟩⟩
theorem GH1_fr {I J : sk_H} {s : Nat} (h : GH1 I s) (h1 : J (87 + 4 + 4 * s) = I (87 + 4 + 4 * s)) (h2 : J (87 + 5 + 4 * s) = I (87 + 5 + 4 * s)) (h3 : J (128 + s) = I (128 + s)) (h4 : J 125 = I 125) (h5 : J 126 = I 126) : GH1 J s := by
  unfold GH1 at h ⊢
  rw [h1, h2, h3, h4, h5]
  exact h
theorem GI_GP {I J v v' : sk_H} (hG : GI I v) (h : GP I J) (hv : vC J 15 = v') (hT : VT v') (hR : RP J 107 v') (hc : v 0 1 ≤ v' 0 1) : GI J v' := by
  obtain ⟨-, -, -, g4, g5, g6, g7⟩ := hG
  have f := fun b (h1 : ¬ Gb b) (h2 : ¬ (15 ≤ b ∧ b < 34)) (h3 : b ≠ 105 ∧ b ≠ 107 ∧ b ≠ 2) => h.1 b h1 h2 h3.1 h3.2.1 h3.2.2
  refine ⟨hv, hT, hR, ?_, ?_, fun r hr => ?_, fun s hs => ?_⟩
  · exact GT_fr g4 (h.2.2 1 (by omega)) (h.2.1 4 (by omega)) (f 3 (by unfold Gb; omega) (by omega) (by omega)) (f 110 (by unfold Gb; omega) (by omega) (by omega)) (fun k hk => f _ (by unfold Gb; omega) (by omega) (by omega))
  · exact GM_fr g5 (f 1 (by unfold Gb; omega) (by omega) (by omega)) (h.2.1 2 (by omega)) (fun b b1 b2 => f b (by unfold Gb; omega) (by omega) (by omega)) (f 108 (by unfold Gb; omega) (by omega) (by omega))
  · exact GR1_fr (g6 r hr) hc (f _ (by unfold Gb; omega) (by omega) (by omega)) (f _ (by unfold Gb; omega) (by omega) (by omega)) (f _ (by unfold Gb; omega) (by omega) (by omega)) (f _ (by unfold Gb; omega) (by omega) (by omega)) (f _ (by unfold Gb; omega) (by omega) (by omega))
  · exact GH1_fr (g7 s hs) (f _ (by unfold Gb; omega) (by omega) (by omega)) (f _ (by unfold Gb; omega) (by omega) (by omega)) (f _ (by unfold Gb; omega) (by omega) (by omega)) (f _ (by unfold Gb; omega) (by omega) (by omega)) (f _ (by unfold Gb; omega) (by omega) (by omega))
theorem GI_GF {I J v : sk_H} (hG : GI I v) (h : GF I J) : GI J v := by
  have e : vC J 15 = vC I 15 := vC_fr (fun b b1 b2 => h.1 b (by unfold Gb; omega) (by omega) (by omega) (by omega))
  exact GI_GP hG h.gp (e.trans hG.1) hG.2.1 (RP_of hG.2.1.1.1 hG.2.2.1 h.2.2.1) (Int.le_refl _)
/-- a call on both, one after the other, comes to one answer -/
def FC (S : List sk_Sh) (I : sk_H) (mc mr : Nat) (as : List Value) : Prop := ∃ (x : Int32) (I1 I2 v2 : sk_H), sk_c 20 mc (.ref 1 :: as) (sk_mk S I) = some (some (.int x), sk_mk S I1) ∧ sk_c 20 mr (.ref 105 :: as) (sk_mk S I1) = some (some (.int x), sk_mk S I2) ∧ GI I2 v2
theorem FC_same {S : List sk_Sh} {I v : sk_H} {mc mr : Nat} {as : List Value} (hG : GI I v) (x : Int) (h1 : sk_c 20 mc (.ref 1 :: as) (sk_mk S I) = some (some (.int (sj x)), sk_mk S I)) (h2 : sk_c 20 mr (.ref 105 :: as) (sk_mk S I) = some (some (.int (sj x)), sk_mk S I)) : FC S I mc mr as := ⟨sj x, I, I, v, h1, h2, hG⟩
section FAC
variable {S : List sk_Sh} {I v : sk_H}
theorem m135 {d : Nat} (hd : 1 ≤ d) {x : Int} (x1 : -2147483648 ≤ x) (x2 : x < 2147483648) {w : sk_W} : sk_c d 135 [.int (sj x)] w = some (some (.int (sj (bi (decide (0 ≤ x ∧ x ≤ 5))))), w) := by
  obtain ⟨d, rfl⟩ : ∃ e, d = e + 1 := ⟨d - 1, by omega⟩; rw [sk_e135]
  simp (disch := omega) only [sj_ceq, sj_cne, sj_clt, sj_cge, sj_cgt, sj_cle, bi_ceq, bi_cne, bi_01]
  grind [bi]
theorem m136 {d : Nat} (hd : 1 ≤ d) {x : Int} (x1 : -2147483648 ≤ x) (x2 : x < 2147483648) {w : sk_W} : sk_c d 136 [.int (sj x)] w = some (some (.int (sj (bi (decide (0 ≤ x ∧ x < 4))))), w) := by
  obtain ⟨d, rfl⟩ : ∃ e, d = e + 1 := ⟨d - 1, by omega⟩; rw [sk_e136]
  simp (disch := omega) only [sj_ceq, sj_cne, sj_clt, sj_cge, sj_cgt, sj_cle, bi_ceq, bi_cne, bi_01]
  grind [bi]
theorem m220 {d : Nat} (hd : 2 ≤ d) {x : Int} (x1 : -2147483648 ≤ x) (x2 : x < 2147483648) {w : sk_W} : sk_c d 220 [.int (sj x)] w = some (some (.int (sj (bi (decide (0 ≤ x ∧ x < 4))))), w) := by
  obtain ⟨d, rfl⟩ : ∃ e, d = e + 1 := ⟨d - 1, by omega⟩; rw [sk_e220]
  rw [m144 (by omega) x1 x2 (by omega) (by omega) (by omega) (by omega), sk_ci_some, if_pos (by rw [bi_01]; trivial)]
  have : (0 ≤ x ∧ x ≤ 3) = (0 ≤ x ∧ x < 4) := propext (by omega)
  simp only [this]
theorem m233 {d : Nat} (hd : 2 ≤ d) {x : Int} (x1 : -2147483648 ≤ x) (x2 : x < 2147483648) {w : sk_W} : sk_c d 233 [.int (sj x)] w = some (some (.int (sj (bi (decide (0 ≤ x ∧ x < 4))))), w) := by
  obtain ⟨d, rfl⟩ : ∃ e, d = e + 1 := ⟨d - 1, by omega⟩; rw [sk_e233]
  rw [m144 (by omega) x1 x2 (by omega) (by omega) (by omega) (by omega), sk_ci_some, if_pos (by rw [bi_01]; trivial)]
  have : (0 ≤ x ∧ x ≤ 3) = (0 ≤ x ∧ x < 4) := propext (by omega)
  simp only [this]
theorem f_told (hS : sk_G S) (hG : GI I v) {p w : Int} (p1 : -2147483648 ≤ p) (p2 : p < 2147483648) (w1 : -2147483648 ≤ w) (w2 : w < 2147483648) : FC S I 105 165 [.int (sj p), .int (sj w)] := by
  have hG0 := hG
  obtain ⟨hv, hT, hR, hTp, hM, hRk, hSh⟩ := hG; have hV := hT.1; have ha : sk_isP 15 := Or.inl rfl; obtain ⟨n1, n2, n3, n4, n5, n6, n7, n8, n9, n10, n11, n12⟩ := hV.1
  have e39 := m39 (S := S) (I := I) (d := 19) (by omega) hS ha hv hV p1 p2
  have e148 := m148 (S := S) (I := I) (d := 19) (by omega) hS hR hV p1 p2
  have e144 := m144 (d := 19) (by omega) (x := w) (l := 0) (h := 7) w1 w2 (by omega) (by omega) (by omega) (by omega) (w := sk_mk S I)
  by_cases hp : 0 ≤ p ∧ p < v 0 1
  · obtain ⟨n, rfl⟩ : ∃ n : Nat, p = n := ⟨p.toNat, by omega⟩
    have hp2 := hp.2
    obtain ⟨q1, q2, q3, q4, q5, q6, q7, q8, q9, q10, q11, q12, q13⟩ := vo_p hV (p := n) hp2
    have e27 := p27 (S := S) (I := I) (d := 19) (by omega) hS ha hv hV hp2
    obtain ⟨r1, r2, r3, r4, r5, r6⟩ := hR.2.1 n hp2
    have t7 : (7 + (n : Int)).toNat = 7 + n := by omega
    have t17 : (17 + (n : Int)).toNat = 17 + n := by omega
    have t27 : (27 + (n : Int)).toNat = 27 + n := by omega
    have t37 : (37 + (n : Int)).toNat = 37 + n := by omega
    have t47 : (47 + (n : Int)).toNat = 47 + n := by omega
    have t57 : (57 + (n : Int)).toNat = 57 + n := by omega
    have t67 : (67 + (n : Int)).toNat = 67 + n := by omega
    have t77 : (77 + (n : Int)).toNat = 77 + n := by omega
    rw [decide_eq_true hp] at e39 e148
    by_cases hw : 0 ≤ w ∧ w ≤ 7
    · rw [decide_eq_true hw] at e144
      have e38 : ∀ b : Int, (b = 0 ∨ b = 1) → (b = 0 ↔ v 5 n = 0) → sk_D165 19 38 [some (.ref 105), some (.int (sj n)), some (.int (sj w)), none] [.int (sj b)] (sk_mk S I) = some (some (.int (sj (if w = 0 then v 1 n else if w = 1 then v 2 n else if w = 2 then v 3 n else if w = 3 then v 4 n else if w = 4 then (if v 5 n = 0 then -1 else v 6 n) else if w = 5 then (if v 5 n = 0 then -1 else v 7 n) else if w = 6 then (if v 5 n = 0 then -1 else v 8 n) else v 5 n))), sk_mk S I) := by
        intro b hb hbv
        rw [sk_e165_38]
        by_cases h0 : v 5 n = 0
        · obtain rfl : b = 0 := hbv.mpr h0
          simp (disch := omega) only [↓g105_r1b hS, ↓g107_ab hS, ↓Option.bind_some, ↓sk_ci_some, ↓sk_cv_some, ↓sk_cf_some, if_true, eq_self, ite_self, Bool.true_eq_false, Bool.false_eq_true, if_false, sj_add, sj_toInt, t7, t17, t27, t37, t77, r1, r2, r3, r4, r5, sj_ceq, sj_cne, sj_clt, sj_cge, sj_cgt, sj_cle, bi_ceq, bi_cne, bi_01, h0]
          grind
        · obtain ⟨r6, r7, r8⟩ := r6 h0
          obtain rfl : b = 1 := by omega
          simp (disch := omega) only [↓g105_r1b hS, ↓g107_ab hS, ↓Option.bind_some, ↓sk_ci_some, ↓sk_cv_some, ↓sk_cf_some, if_true, eq_self, ite_self, Bool.true_eq_false, Bool.false_eq_true, if_false, sj_add, sj_toInt, t7, t17, t27, t37, t47, t57, t67, t77, r1, r2, r3, r4, r5, r6, r7, r8, sj_ceq, sj_cne, sj_clt, sj_cge, sj_cgt, sj_cle, bi_ceq, bi_cne, bi_01]
          grind
      refine FC_same hG0 (if w = 0 then v 1 n else if w = 1 then v 2 n else if w = 2 then v 3 n else if w = 3 then v 4 n else if w = 4 then (if v 5 n = 0 then -1 else v 6 n) else if w = 5 then (if v 5 n = 0 then -1 else v 7 n) else if w = 6 then (if v 5 n = 0 then -1 else v 8 n) else v 5 n) ?_ ?_
      · have tw : (sj w).toInt = w := sj_toInt w1 w2
        rw [sk_e105, g1_r1b hS, pl_ob hS ha, e39, sk_ci_some, if_pos (by rw [bi_cne]), g1_r1b hS, pl_r0b hS ha, pl_pb hS ha (by omega) (by omega), Int.toNat_natCast, tw]
        by_cases c0 : w = 0
        · rw [if_pos c0, if_pos c0, pq_i0b hS ha (by omega), vp0 hv (by omega)]
        rw [if_neg c0, if_neg c0]
        by_cases c1 : w = 1
        · rw [if_pos c1, if_pos c1, pq_i1b hS ha (by omega), vp1 hv (by omega)]
        rw [if_neg c1, if_neg c1]
        by_cases c2 : w = 2
        · rw [if_pos c2, if_pos c2, pq_i2b hS ha (by omega), vp2 hv (by omega)]
        rw [if_neg c2, if_neg c2]
        by_cases c3 : w = 3
        · rw [if_pos c3, if_pos c3, pq_i3b hS ha (by omega), vp3 hv (by omega)]
        rw [if_neg c3, if_neg c3]
        by_cases c4 : w = 4
        · rw [if_pos c4, if_pos c4, pq_ob hS ha (by omega), e27, sk_ci_some]
          by_cases h0 : v 5 n = 0
          · rw [if_pos h0, if_pos (by rw [bi_ceq]; simp [h0])]
          · rw [if_neg h0, if_neg (by rw [bi_ceq]; simp [h0]), pq_i5b hS ha (by omega), vp5 hv (by omega)]
        rw [if_neg c4, if_neg c4]
        by_cases c5 : w = 5
        · rw [if_pos c5, if_pos c5, pq_ob hS ha (by omega), e27, sk_ci_some]
          by_cases h0 : v 5 n = 0
          · rw [if_pos h0, if_pos (by rw [bi_ceq]; simp [h0])]
          · rw [if_neg h0, if_neg (by rw [bi_ceq]; simp [h0]), pq_i6b hS ha (by omega), vp6 hv (by omega)]
        rw [if_neg c5, if_neg c5]
        by_cases c6 : w = 6
        · rw [if_pos c6, if_pos c6, pq_ob hS ha (by omega), e27, sk_ci_some]
          by_cases h0 : v 5 n = 0
          · rw [if_pos h0, if_pos (by rw [bi_ceq]; simp [h0])]
          · rw [if_neg h0, if_neg (by rw [bi_ceq]; simp [h0]), pq_i7b hS ha (by omega), vp7 hv (by omega)]
            rcases q11 with h8 | h8
            · rw [h8, if_pos (by decide)]
            · rw [h8, if_neg (by decide)]
        rw [if_neg c6, if_neg c6]
        rw [if_pos (show w = 7 by omega), pq_i4b hS ha (by omega), vp4 hv (by omega)]
      · rw [sk_e165]
        simp (disch := omega) only [↓g105_ob hS, ↓g105_r1b hS, ↓g107_ab hS, e148, e144, ↓Option.bind_some, ↓sk_ci_some, ↓sk_cv_some, ↓sk_cf_some, if_true, eq_self, ite_self, Bool.true_eq_false, Bool.false_eq_true, if_false, sj_add, t77, r5, sj_ceq, sj_cne, sj_clt, sj_cge, sj_cgt, sj_cle, bi_ceq, bi_cne, bi_01]
        by_cases h0 : v 5 n = 0
        · rw [if_pos h0]; exact e38 0 (by omega) (by omega)
        · rw [if_neg h0]; exact e38 1 (by omega) (by omega)
    · rw [decide_eq_false hw] at e144
      refine FC_same hG0 (-2) ?_ ?_
      · have tw : (sj w).toInt = w := sj_toInt w1 w2
        rw [sk_e105, g1_r1b hS, pl_ob hS ha, e39, sk_ci_some, if_pos (by rw [bi_cne]), g1_r1b hS, pl_r0b hS ha, pl_pb hS ha (by omega) (by omega), Int.toNat_natCast, tw]
        rw [if_neg (show ¬ w = 0 by omega), if_neg (show ¬ w = 1 by omega), if_neg (show ¬ w = 2 by omega), if_neg (show ¬ w = 3 by omega), if_neg (show ¬ w = 4 by omega), if_neg (show ¬ w = 5 by omega), if_neg (show ¬ w = 6 by omega), if_neg (show ¬ w = 7 by omega)]
      · rw [sk_e165]
        simp (disch := omega) only [↓g105_ob hS, ↓g105_r1b hS, ↓g107_ab hS, e148, e144, ↓Option.bind_some, ↓sk_ci_some, ↓sk_cv_some, ↓sk_cf_some, if_true, eq_self, ite_self, Bool.true_eq_false, Bool.false_eq_true, if_false, sj_add, t77, r5, sj_ceq, sj_cne, sj_clt, sj_cge, sj_cgt, sj_cle, bi_ceq, bi_cne, bi_01]
  · rw [decide_eq_false hp] at e39 e148
    refine FC_same hG0 (-2) ?_ ?_
    · rw [sk_e105, g1_r1b hS, pl_ob hS ha, e39, sk_ci_some, if_neg (by rw [bi_cne]; simp)]
    · rw [sk_e165, g105_ob hS, e148, sk_ci_some, if_pos (by rw [bi_ceq])]
theorem f_taken (hS : sk_G S) (hG : GI I v) {p w : Int} (p1 : -2147483648 ≤ p) (p2 : p < 2147483648) (w1 : -2147483648 ≤ w) (w2 : w < 2147483648) : FC S I 106 166 [.int (sj p), .int (sj w)] := by
  have hG0 := hG
  obtain ⟨hv, hT, hR, hTp, hM, hRk, hSh⟩ := hG; have hV := hT.1; have ha : sk_isP 15 := Or.inl rfl; obtain ⟨n1, n2, n3, n4, n5, n6, n7, n8, n9, n10, n11, n12⟩ := hV.1
  have e39 := m39 (S := S) (I := I) (d := 19) (by omega) hS ha hv hV p1 p2
  have e148 := m148 (S := S) (I := I) (d := 19) (by omega) hS hR hV p1 p2
  have e144 := m144 (d := 19) (by omega) (x := w) (l := 0) (h := 5) w1 w2 (by omega) (by omega) (by omega) (by omega) (w := sk_mk S I)
  have e135 := m135 (d := 19) (by omega) w1 w2 (w := sk_mk S I)
  by_cases hp : 0 ≤ p ∧ p < v 0 1
  · obtain ⟨n, rfl⟩ : ∃ n : Nat, p = n := ⟨p.toNat, by omega⟩
    have hp2 := hp.2
    obtain ⟨q1, q2, q3, q4, q5, q6, q7, q8, q9, q10, q11, q12, q13⟩ := vo_p hV (p := n) hp2
    obtain ⟨r1, r2, r3, r4, r5, r6⟩ := hR.2.1 n hp2
    have t7 : (7 + (n : Int)).toNat = 7 + n := by omega
    rw [decide_eq_true hp] at e39 e148
    by_cases hw : 0 ≤ w ∧ w ≤ 5
    · rw [decide_eq_true hw] at e144 e135
      have e1 := m1 (d := 19) (by omega) (k := v 1 n) (b := w) q1 q2 hw.1 hw.2 (w := sk_mk S I)
      have e149 := m149 (d := 19) (by omega) (k := v 1 n) (b := w) q1 q2 hw.1 hw.2 (w := sk_mk S I)
      have e32 := p32 (S := S) (I := I) (d := 19) (by omega) hS ha hv hV hp2 (o := 0) (Or.inl rfl)
      have e151 := m151 (S := S) (I := I) (d := 19) (by omega) hS hR hV hp2 (o := 0) (Or.inl rfl)
      have e152 := m152 (S := S) (I := I) (d := 19) (by omega) hS hR hV hp2 (o := 0) (Or.inl rfl)
      refine FC_same hG0 (if und (v 1 n) w = true then v 2 n * tal v n 0 else -13) ?_ ?_
      · rw [sk_e106]
        simp (disch := omega) only [↓g1_r0b hS, ↓g1_r1b hS, ↓g1_r2b hS, ↓g1_r3b hS, ↓g1_r4b hS, ↓g1_r5b hS, ↓g1_r6b hS, ↓g1_r7b hS, ↓g1_r8b hS, ↓g1_i9b hS, ↓g1_u9b hS, ↓g1_ob hS, ↓pl_ob hS ha, ↓pl_r0b hS ha, ↓pl_pb hS ha, ↓pq_i0b hS ha, ↓pq_u0b hS ha, ↓pq_i1b hS ha, ↓pq_u1b hS ha, ↓pq_i2b hS ha, ↓pq_u2b hS ha, ↓pq_i3b hS ha, ↓pq_u3b hS ha, ↓pq_i4b hS ha, ↓pq_u4b hS ha, ↓pq_i5b hS ha, ↓pq_u5b hS ha, ↓pq_i6b hS ha, ↓pq_u6b hS ha, ↓pq_i7b hS ha, ↓pq_u7b hS ha, ↓pq_i8b hS ha, ↓pq_u8b hS ha, ↓pq_i9b hS ha, ↓pq_u9b hS ha, ↓pq_ob hS ha, ↓Option.bind_some, ↓sk_ci_some, ↓sk_cv_some, ↓sk_cf_some, if_true, eq_self, ite_self, Bool.true_eq_false, Bool.false_eq_true, if_false, e39, e135, e1, e32, vc4 hv, vc5 hv, vc6 hv, vc7 hv, vc8 hv, vcz hv, vp0 hv, vp1 hv, vp2 hv, vp3 hv, vp4 hv, vp5 hv, vp6 hv, vp7 hv, vp8 hv, vp9 hv, vo_ hv, vs_ hv, vx0 hv, vx1 hv, vx2 hv, vx3 hv, Int.toNat_natCast, sj_mul, sj_ceq, sj_cne, sj_clt, sj_cge, sj_cgt, sj_cle, bi_ceq, bi_cne, bi_01]
        cases und (v 1 n) w <;> rfl
      · rw [sk_e166]
        simp (disch := omega) only [↓g105_ob hS, ↓g105_r1b hS, ↓g107_ab hS, e148, e144, e149, e151, e152, ↓Option.bind_some, ↓sk_ci_some, ↓sk_cv_some, ↓sk_cf_some, if_true, eq_self, ite_self, Bool.true_eq_false, Bool.false_eq_true, if_false, sj_add, sj_mul, t7, r1, sj_ceq, sj_cne, sj_clt, sj_cge, sj_cgt, sj_cle, bi_ceq, bi_cne, bi_01]
        cases und (v 1 n) w <;> rfl
    · rw [decide_eq_false hw] at e144 e135
      refine FC_same hG0 (-2) ?_ ?_
      · rw [sk_e106, g1_r1b hS, pl_ob hS ha, e39, sk_ci_some, if_neg (by rw [bi_ceq]; simp), e135, sk_ci_some, if_neg (by rw [bi_cne]; simp)]
      · rw [sk_e166, g105_ob hS, e148, sk_ci_some, if_neg (by rw [bi_ceq]; simp), e144, sk_ci_some, if_neg (by rw [bi_cne]; simp)]
  · rw [decide_eq_false hp] at e39 e148
    refine FC_same hG0 (-2) ?_ ?_
    · rw [sk_e106, g1_r1b hS, pl_ob hS ha, e39, sk_ci_some, if_pos (by rw [bi_ceq])]
    · rw [sk_e166, g105_ob hS, e148, sk_ci_some, if_pos (by rw [bi_ceq])]
theorem f_swap (hS : sk_G S) (hG : GI I v) {i j : Int} (p1 : -2147483648 ≤ i) (p2 : i < 2147483648) (w1 : -2147483648 ≤ j) (w2 : j < 2147483648) : FC S I 109 172 [.int (sj i), .int (sj j)] := by
  have hG0 := hG
  obtain ⟨hv, hT, hR, hTp, hM, hRk, hSh⟩ := hG; have hV := hT.1; have ha : sk_isP 15 := Or.inl rfl; obtain ⟨n1, n2, n3, n4, n5, n6, n7, n8, n9, n10, n11, n12⟩ := hV.1
  have r2 : I 107 2 = v 0 2 := hR.1 2 (by omega)
  have z2 : (2 : Int).toNat = 2 := rfl
  have e144 := m144 (d := 19) (by omega) (x := i) (l := 0) (h := v 0 2 - 1) p1 p2 (by omega) (by omega) (by omega) (by omega) (w := sk_mk S I)
  have e144' := m144 (d := 19) (by omega) (x := j) (l := 0) (h := v 0 2 - 1) w1 w2 (by omega) (by omega) (by omega) (by omega) (w := sk_mk S I)
  by_cases hp : (0 ≤ i ∧ i < v 0 2) ∧ 0 ≤ j ∧ j < v 0 2
  · obtain ⟨n, rfl⟩ : ∃ n : Nat, i = n := ⟨i.toNat, by omega⟩
    obtain ⟨m, rfl⟩ : ∃ n : Nat, j = n := ⟨j.toNat, by omega⟩
    rw [decide_eq_true (by omega)] at e144 e144'
    obtain ⟨I1, e1, h1, f1⟩ := m47 (S := S) (I := I) (d := 19) (by omega) hS ha hv (i := n) (j := m) (by omega) (by omega)
    have hR1 : RP I1 107 v := hR.fr (f1 107 (by omega))
    obtain ⟨I2, e2, h2, f2⟩ := m171 (S := S) (I := I1) (d := 19) (by omega) hS hR1 hV (i := n) (j := m) hp.1.2 hp.2.2
    have q2 : I1 107 2 = v 0 2 := hR1.1 2 (by omega)
    have e144a := m144 (d := 19) (by omega) (x := n) (l := 0) (h := v 0 2 - 1) p1 p2 (by omega) (by omega) (by omega) (by omega) (w := sk_mk S I1)
    have e144b := m144 (d := 19) (by omega) (x := m) (l := 0) (h := v 0 2 - 1) w1 w2 (by omega) (by omega) (by omega) (by omega) (w := sk_mk S I1)
    rw [decide_eq_true (by omega)] at e144a e144b
    have ho : I2 107 (87 + n) = exV v n m 9 n := h2.2.2.1 n (by rw [exV_ne _ _ _ (by omega)]; exact hp.1.2)
    have t87 : (87 + (n : Int)).toNat = 87 + n := by omega
    refine ⟨sj (exV v n m 9 n), I1, I2, exV v n m, ?_, ?_, ?_⟩
    · rw [sk_e109]
      simp (disch := omega) only [↓g1_r0b hS, ↓g1_r1b hS, ↓g1_r2b hS, ↓g1_r3b hS, ↓g1_r4b hS, ↓g1_r5b hS, ↓g1_r6b hS, ↓g1_r7b hS, ↓g1_r8b hS, ↓g1_i9b hS, ↓g1_u9b hS, ↓g1_ob hS, ↓pl_ob hS ha, ↓pl_r1b hS ha, ↓pl_i6b hS ha, ↓po_ab hS ha, ↓Option.bind_some, ↓sk_ci_some, ↓sk_cv_some, ↓sk_cf_some, if_true, eq_self, ite_self, Bool.true_eq_false, Bool.false_eq_true, if_false, vc6 hv, e1, vo_ h1, Int.toNat_natCast, sj_ceq, sj_cne, sj_clt, sj_cge, sj_cgt, sj_cle, bi_ceq, bi_cne, bi_01]
      rw [if_neg (by omega), if_neg (by omega), if_neg (by omega), if_pos (by omega)]
    · rw [sk_e172]
      simp (disch := omega) only [↓g105_ob hS, ↓g105_r1b hS, ↓g107_ab hS, ↓Option.bind_some, ↓sk_ci_some, ↓sk_cv_some, ↓sk_cf_some, if_true, eq_self, ite_self, Bool.true_eq_false, Bool.false_eq_true, if_false, sj_add, sj_sub, z2, q2, e144a, e144b, e2, t87, ho, sj_ceq, sj_cne, sj_clt, sj_cge, sj_cgt, sj_cle, bi_ceq, bi_cne, bi_01]
    · have hx : vC I2 15 = exV v n m := (vC_fr (fun b b1 b2 => f2 b (by omega))).trans h1
      exact GI_GP hG0 ((GP.ofC (fun b hb => f1 b (by omega))).trans (GP.ofR f2)) hx (VT_exV hT hp.1.2 hp.2.2) h2 (by rw [exV_ne _ _ _ (by omega)]; exact Int.le_refl _)
  · refine FC_same hG0 (-12) ?_ ?_
    · rw [sk_e109]
      by_cases c1 : i < 0
      · rw [if_pos (by rw [sj_clt (by omega) (by omega) (by omega) (by omega)]; exact c1)]
      rw [if_neg (by rw [sj_clt (by omega) (by omega) (by omega) (by omega)]; exact c1), g1_r1b hS, pl_i6b hS ha, vc6 hv]
      by_cases c2 : v 0 2 ≤ i
      · rw [if_pos (by rw [sj_cge (by omega) (by omega) (by omega) (by omega)]; exact c2)]
      rw [if_neg (by rw [sj_cge (by omega) (by omega) (by omega) (by omega)]; exact c2)]
      by_cases c3 : j < 0
      · rw [if_pos (by rw [sj_clt (by omega) (by omega) (by omega) (by omega)]; exact c3)]
      rw [if_neg (by rw [sj_clt (by omega) (by omega) (by omega) (by omega)]; exact c3), g1_r1b hS, pl_i6b hS ha, vc6 hv, if_neg (by rw [sj_clt (by omega) (by omega) (by omega) (by omega)]; omega)]
    · rw [sk_e172, g105_r1b hS, g107_ab hS (by omega) (by omega), z2, r2, sj_sub, e144, sk_ci_some]
      by_cases c1 : 0 ≤ i ∧ i ≤ v 0 2 - 1
      · rw [decide_eq_true c1, if_neg (by rw [bi_ceq]; simp), g105_r1b hS, g107_ab hS (by omega) (by omega), z2, r2, sj_sub, e144', sk_ci_some, decide_eq_false (by omega), if_neg (by rw [bi_cne]; simp)]
      · rw [decide_eq_false c1, if_pos (by rw [bi_ceq])]
end FAC
