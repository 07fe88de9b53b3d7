/-! ===== drawn, chance ===== -/
def dz (z : Int32) : Int32 := z * Int32.ofNat 1103515245 + sj 12345
def ixE (z m : Int32) : Int32 := (z.toUInt32 >>> ((sj 9).toUInt32 &&& Int32.toUInt32 31)).toInt32 - (z.toUInt32 >>> ((sj 9).toUInt32 &&& Int32.toUInt32 31)).toInt32 / m * m
def ixN (z : Int32) (m : Nat) : Nat := (z.toUInt32 >>> 9).toNat % m
theorem ix_ok (z : Int32) {m : Nat} (m1 : 1 ≤ m) (m2 : m ≤ 10) : ixE z (sj (m : Int)) = sj (ixN z m : Int) ∧ ixN z m < m := by
  refine ⟨?_, Nat.mod_lt _ (by omega)⟩
  have hs : ((sj 9).toUInt32 &&& Int32.toUInt32 31) = 9 := by decide
  unfold ixE ixN
  rw [hs]
  have hn : (z.toUInt32 >>> 9).toNat < 8388608 := by
    rw [UInt32.toNat_shiftRight]
    have := z.toUInt32.toNat_lt
    show z.toUInt32.toNat >>> 9 < 8388608
    rw [Nat.shiftRight_eq_div_pow]
    omega
  generalize z.toUInt32 >>> 9 = u at *
  have hu : u.toInt32 = sj (u.toNat : Int) := by
    have h1 : u = UInt32.ofNat u.toNat := by simp
    rw [h1, UInt32.toInt32_ofNat']
    simp
    rfl
  rw [hu, sj_rem (by omega) (by omega) (by omega) (by omega)]
  rfl
def drS (v : sk_H) (z : Int32) (n : Nat) : sk_H × Int32 := fld n (fun _ s => (exV s.1 (ixN (dz s.2) (v 0 2).toNat) (ixN (dz (dz s.2)) (v 0 2).toNat), dz (dz s.2))) (v, z)
def drW (v : sk_H) (z : Int32) (n : Nat) : sk_H := if v 0 2 ≤ 0 then v else (drS v z n).1
def drT (v : sk_H) (z : Int32) (n : Nat) : Int := topV (rnV (drW v z n)).1
theorem drS_succ (v : sk_H) (z : Int32) (n : Nat) : drS v z (n + 1) = (exV (drS v z n).1 (ixN (dz (drS v z n).2) (v 0 2).toNat) (ixN (dz (dz (drS v z n).2)) (v 0 2).toNat), dz (dz (drS v z n).2)) := rfl
theorem drS_inv {v : sk_H} (hT : VT v) (h : 0 < v 0 2) (z : Int32) (n : Nat) : VT (drS v z n).1 ∧ (drS v z n).1 0 2 = v 0 2 := by
  have hV := hT.1
  obtain ⟨n1, n2, n3, n4, n5, n6, n7, n8, n9, n10, n11, n12⟩ := hV.1
  induction n with
  | zero => exact ⟨hT, rfl⟩
  | succ n ih =>
    rw [drS_succ]
    have i1 := ix_ok (dz (drS v z n).2) (m := (v 0 2).toNat) (by omega) (by omega)
    have i2 := ix_ok (dz (dz (drS v z n).2)) (m := (v 0 2).toNat) (by omega) (by omega)
    refine ⟨VT_exV ih.1 (by rw [ih.2]; omega) (by rw [ih.2]; omega), ?_⟩
    dsimp only
    rw [exV_ne _ _ _ (by omega)]
    exact ih.2
theorem drW_VT {v : sk_H} (hT : VT v) (z : Int32) (n : Nat) : VT (drW v z n) := by
  unfold drW
  split
  · exact hT
  · exact (drS_inv hT (by omega) z n).1
theorem drT_rng {v : sk_H} (hT : VT v) (z : Int32) (n : Nat) : 0 ≤ drT v z n ∧ drT v z n ≤ 1000 := topV_rng (rnV_inv (drW_VT hT z n).1).1.1
/-- what the class changes in thought -/
def GC (I I' : sk_H) : Prop := ∀ b, ¬ (53 ≤ b ∧ b < 72) → b ≠ 73 → I' b = I b
theorem GC.trans {I J K : sk_H} (h1 : GC I J) (h2 : GC J K) : GC I K := fun b hb hc => (h2 b hb hc).trans (h1 b hb hc)
theorem GC.gf {I J : sk_H} (h : GC I J) : GF I J := GF.of (fun b hb => h b (by unfold Gb at hb; omega) (by unfold Gb at hb; omega))
def gcF : Nat → Nat → Nat → Nat
  | 0, _, b => b
  | f + 1, a, b => if a = 0 then b else gcF f (b % a) a
def cdF (l m : Nat) : Nat → Nat
  | 0 => 0
  | c + 1 => if l % (c + 1) = 0 ∧ m % (c + 1) = 0 then c + 1 else cdF l m c
theorem gc_cd : ∀ m, m < 9 → ∀ l, l < 9 → 1 ≤ m → l ≤ m → gcF 64 l m = cdF l m m ∧ 1 ≤ cdF l m m := by decide +kernel
theorem cdF_le (l m : Nat) : ∀ c, cdF l m c ≤ c := by
  intro c
  induction c with
  | zero => exact Nat.le_refl _
  | succ c ih => unfold cdF; split <;> omega
section DRW
variable {S : List sk_Sh} {I v : sk_H}
theorem m141 {d : Nat} (hd : 12 ≤ d) (hS : sk_G S) (hv : vC I 15 = v) (hT : VT v) (z : Int32) {n : Nat} (hn : n ≤ 100) : ∃ I' w, sk_c d 141 [.ref 1, .int z, .int (sj n)] (sk_mk S I) = some (some (.int (sj (drT w z n))), sk_mk S I') ∧ VA v w ∧ GC I I' := by
  have hV := hT.1
  have h53 : sk_isP 53 := Or.inr (Or.inr rfl)
  obtain ⟨n1, n2, n3, n4, n5, n6, n7, n8, n9, n10, n11, n12⟩ := hV.1
  obtain ⟨d, rfl⟩ : ∃ e, d = e + 1 := ⟨d - 1, by omega⟩; rw [sk_e141]
  obtain ⟨I1, e1, h1, f1⟩ := m36 (S := S) (I := I) (d := d) (by omega) hS (a := 53) (b := 15) h53 (Or.inl rfl) (by omega) hv hV
  generalize hw : vC I1 53 = w at h1
  have hTw : VT w := VT_VA hT h1
  have hw2 : w 0 2 = v 0 2 := h1.1 2 (by omega)
  have fin : ∀ (J u : sk_H) (z' : Int32) (k : Nat) (o6 o7 : Option Value), vC J 53 = u → VT u → GC I J → ∃ I', sk_ci (sk_c d 18 [.ref 72, .ref 53] (sk_mk S J)) (fun v4 w3 => (sk_getr w3 1 10 3).bind fun v5 => if sk_isO w3 v5 3 = true then sk_ci (sk_c d 43 [.ref v5] w3) fun v7 w6 => some (some (.int v7), w6) else none) = some (some (.int (sj (topV (rnV u).1))), sk_mk S I') ∧ GC I I' := by
    intro J u z' k o6 o7 a1 a2 a3
    obtain ⟨K, ek, ck, fk⟩ := m18 (S := S) (I := J) (d := d) (by omega) hS h53 a1 a2.1
    have hr := rnV_inv a2.1
    refine ⟨K, ?_, a3.trans (fun b b1 b2 => fk b (by omega) b2)⟩
    rw [ek, sk_ci_some, g1_r3b hS, pl_ob hS h53, m43 (by omega) hS h53 ck hr.1.1, sk_ci_some]
  by_cases hc : v 0 2 ≤ 0
  · obtain ⟨I2, e2, f2⟩ := fin I1 w z 0 none none hw hTw (fun b b1 b2 => f1 b (by omega))
    refine ⟨I2, w, ?_, h1, f2⟩
    have hd : drT w z n = topV (rnV w).1 := by unfold drT drW; rw [if_pos (by omega)]
    rw [hd, g1_r3b hS, g1_r1b hS, pl_ob hS h53, e1, sk_cv_some, g1_r3b hS, pl_i6b hS h53, vc6 hw, hw2, sk_e141_25]
    by_cases hn0 : n = 0
    · subst hn0
      rw [if_pos (ky_ge (by omega) (by omega) (by omega) (by omega) (by omega)), g1_r4b hS, g1_r3b hS, g72_ob hS, e2]
    · rw [if_neg (kn_ge (by omega) (by omega) (by omega) (by omega) (by omega)), if_pos (ky_le (by omega) (by omega) (by omega) (by omega) hc), g1_r4b hS, g1_r3b hS, g72_ob hS, e2]
  · obtain ⟨m, hm⟩ : ∃ m : Nat, v 0 2 = m := ⟨(v 0 2).toNat, by omega⟩
    have key := lp_run (fun k (X : Option sk_R) => ∃ I' o6 o7, X = sk_D141 d 25 [some (.ref 1), some (.int z), some (.int (sj n)), some (.int (sj (m : Int))), some (.int (drS w z k).2), some (.int (sj (k : Int))), o6, o7] [] (sk_mk S I') ∧ vC I' 53 = (drS w z k).1 ∧ GC I I') n (fun k X hk hX => by
      obtain ⟨I2, o6, o7, rfl, a1, a2⟩ := hX
      have inv := drS_inv hTw (by omega) z k
      have i1 := ix_ok (dz (drS w z k).2) (m := m) (by omega) (by omega)
      have i2 := ix_ok (dz (dz (drS w z k).2)) (m := m) (by omega) (by omega)
      obtain ⟨I3, e3, c3, f3⟩ := m47 (S := S) (I := I2) (d := d) (by omega) hS h53 a1 (i := ixN (dz (drS w z k).2) m) (j := ixN (dz (dz (drS w z k).2)) m) (by omega) (by omega)
      have t1 : (k : Int) + 1 = ((k + 1 : Nat) : Int) := rfl
      have hm0 : ¬ sj (m : Int) = 0 := by rw [sj_v0 (by omega) (by omega)]; omega
      refine ⟨I3, some (.int (ixE (dz (drS w z k).2) (sj (m : Int)))), some (.int (ixE (dz (dz (drS w z k).2)) (sj (m : Int)))), ?_, ?_, a2.trans (fun b b1 b2 => f3 b (by omega))⟩
      · rw [sk_e141_25, if_neg (kn_ge (by omega) (by omega) (by omega) (by omega) (by omega)), if_neg (kn_le (by omega) (by omega) (by omega) (by omega) (by omega)), if_neg hm0, if_neg hm0, g1_r3b hS, pl_ob hS h53]
        show sk_cv (sk_c d 47 [.ref 53, .int (ixE (dz (drS w z k).2) (sj (m : Int))), .int (ixE (dz (dz (drS w z k).2)) (sj (m : Int)))] (sk_mk S I2)) _ = _
        rw [i1.1, i2.1, e3, sk_cv_some, sj_add, t1, ← i1.1, ← i2.1]
        rfl
      · rw [c3, drS_succ, hw2, hm, Int.toNat_natCast]) ⟨I1, none, none, rfl, hw, fun b b1 b2 => f1 b (by omega)⟩
    obtain ⟨I2, o6, o7, e2, c2, f2⟩ := key
    have inv := drS_inv hTw (by omega) z n
    obtain ⟨I3, e3, f3⟩ := fin I2 _ z 0 none none c2 inv.1 f2
    refine ⟨I3, w, ?_, h1, f3⟩
    have hd : drT w z n = topV (rnV (drS w z n).1).1 := by unfold drT drW; rw [if_neg (by omega)]
    rw [hd, g1_r3b hS, g1_r1b hS, pl_ob hS h53, e1, sk_cv_some, g1_r3b hS, pl_i6b hS h53, vc6 hw, hw2, hm]
    refine e2.trans ?_
    rw [sk_e141_25, if_pos (ky_ge (by omega) (by omega) (by omega) (by omega) (by omega)), g1_r4b hS, g1_r3b hS, g72_ob hS, e3]
theorem m214 {d : Nat} (hd : 8 ≤ d) (hS : sk_G S) (hR : RP I 107 v) (hT : VT v) (z : Int32) {n : Nat} (hn : n ≤ 100) : ∃ I', sk_c d 214 [.ref 105, .int z, .int (sj n)] (sk_mk S I) = some (some (.int (sj (drT v z n))), sk_mk S I') ∧ GF I I' := by
  have hV := hT.1
  obtain ⟨n1, n2, n3, n4, n5, n6, n7, n8, n9, n10, n11, n12⟩ := hV.1
  obtain ⟨d, rfl⟩ : ∃ e, d = e + 1 := ⟨d - 1, by omega⟩; rw [sk_e214]
  have z2 : (2 : Int).toNat = 2 := rfl
  have r2 : I 107 2 = v 0 2 := hR.1 2 (by omega)
  obtain ⟨I1, e1, h1, f1⟩ := m146 (S := S) (I := I) (d := d) (by omega) hS (m := 2) (by omega)
  have e1 : sk_c d 146 [.ref 105, .int (sj 2)] (sk_mk S I) = some (none, sk_mk S I1) := e1
  have hR1 : RP I1 107 v := hR.fr (f1 107 (by omega))
  -- the run in thought, and all laid back
  have fin : ∀ (J u : sk_H), RP J 107 u → VT u → (∀ b, b ≠ 107 → J b = I1 b) → ∃ I', sk_ci (sk_c d 184 [.ref 105] (sk_mk S J)) (fun v2 w1 => if sk_isO w1 105 11 = true then sk_ci (sk_c d 185 [.ref 105] w1) (fun v4 w3 => if sk_isO w3 105 11 = true then sk_cv (sk_c d 147 [.ref 105, .int (sj 2)] w3) (fun w5 => some (some (.int v4), w5)) else none) else none) = some (some (.int (sj (topV (rnV u).1))), sk_mk S I') ∧ GF I I' := by
    intro J u a1 a2 a3
    obtain ⟨K, ek, ck, fk⟩ := m184 (S := S) (I := J) (d := d) (by omega) hS a1 a2.1
    have hr := rnV_inv a2.1
    obtain ⟨L, el, cl, fl⟩ := m147 (S := S) (I := K) (d := d) (by omega) hS (m := 2) (by omega)
    have el : sk_c d 147 [.ref 105, .int (sj 2)] (sk_mk S K) = some (none, sk_mk S L) := el
    refine ⟨L, ?_, ?_⟩
    · rw [ek, sk_ci_some, g105_ob hS, m185 (by omega) hS ck hr.1.1, sk_ci_some, g105_ob hS, el, sk_cv_some]
    · refine ⟨fun b b1 b2 b3 b4 => ?_, fun k hk => ?_, fun k hk => ?_, fun k _ => ?_⟩
      · rw [fl b b3, fk.1 b b2 b3, a3 b b3, f1 b (by unfold Gb at b1; omega)]
      · rw [fl 105 (by omega), fk.2 k (by omega), a3 105 (by omega), f1 105 (by omega)]
      · rw [cl k hk]
        show K 109 k = _
        rw [fk.1 109 (by omega) (by omega), a3 109 (by omega)]
        exact h1 k hk
      · rw [fl 2 (by omega), fk.1 2 (by omega) (by omega), a3 2 (by omega), f1 2 (by omega)]
  rw [g105_r1b hS, g107_ab hS (by omega) (by omega), z2, r2, g105_ob hS, e1, sk_cv_some]
  by_cases hc : v 0 2 ≤ 0
  · obtain ⟨I2, e2, f2⟩ := fin I1 v hR1 hT (fun _ _ => rfl)
    have hd : drT v z n = topV (rnV v).1 := by unfold drT drW; rw [if_pos hc]
    refine ⟨I2, ?_, f2⟩
    rw [hd, sk_e214_18]
    by_cases hn0 : n = 0
    · subst hn0
      rw [if_pos (ky_ge (by omega) (by omega) (by omega) (by omega) (by omega)), g105_ob hS, e2]
    · rw [if_neg (kn_ge (by omega) (by omega) (by omega) (by omega) (by omega)), if_pos (ky_le (by omega) (by omega) (by omega) (by omega) hc), g105_ob hS, e2]
  · obtain ⟨m, hm⟩ : ∃ m : Nat, v 0 2 = m := ⟨(v 0 2).toNat, by omega⟩
    rw [hm]
    have key := lp_run (fun k (X : Option sk_R) => ∃ I' o6, X = sk_D214 d 18 [some (.ref 105), some (.int z), some (.int (sj n)), some (.int (drS v z k).2), some (.int (sj (m : Int))), some (.int (sj (k : Int))), o6] [] (sk_mk S I') ∧ RP I' 107 (drS v z k).1 ∧ ∀ b, b ≠ 107 → I' b = I1 b) n (fun k X hk hX => by
      obtain ⟨I2, o6, rfl, a1, a2⟩ := hX
      have inv := drS_inv hT (by omega) z k
      have i1 := ix_ok (dz (drS v z k).2) (m := m) (by omega) (by omega)
      have i2 := ix_ok (dz (dz (drS v z k).2)) (m := m) (by omega) (by omega)
      obtain ⟨I3, e3, c3, f3⟩ := m171 (S := S) (I := I2) (d := d) (by omega) hS a1 inv.1.1 (i := ixN (dz (drS v z k).2) m) (j := ixN (dz (dz (drS v z k).2)) m) (by rw [inv.2]; omega) (by rw [inv.2]; omega)
      have t1 : (k : Int) + 1 = ((k + 1 : Nat) : Int) := rfl
      have hm0 : ¬ sj (m : Int) = 0 := by rw [sj_v0 (by omega) (by omega)]; omega
      refine ⟨I3, some (.int (ixE (dz (drS v z k).2) (sj (m : Int)))), ?_, ?_, fun b hb => (f3 b hb).trans (a2 b hb)⟩
      · rw [sk_e214_18, if_neg (kn_ge (by omega) (by omega) (by omega) (by omega) (by omega)), if_neg (kn_le (by omega) (by omega) (by omega) (by omega) (by omega)), if_neg hm0, if_neg hm0, g105_ob hS]
        show sk_cv (sk_c d 171 [.ref 105, .int (ixE (dz (drS v z k).2) (sj (m : Int))), .int (ixE (dz (dz (drS v z k).2)) (sj (m : Int)))] (sk_mk S I2)) _ = _
        rw [i1.1, i2.1, e3, sk_cv_some, sj_add, t1, ← i1.1]
        rfl
      · rw [drS_succ, hm, Int.toNat_natCast]
        exact c3) ⟨I1, none, rfl, hR1, fun _ _ => rfl⟩
    obtain ⟨I2, o6, e2, c2, f2⟩ := key
    have inv := drS_inv hT (by omega) z n
    obtain ⟨I3, e3, f3⟩ := fin I2 _ c2 inv.1 f2
    have hd : drT v z n = topV (rnV (drS v z n).1).1 := by unfold drT drW; rw [if_neg (by omega)]
    refine ⟨I3, ?_, f3⟩
    rw [hd]
    refine e2.trans ?_
    rw [sk_e214_18, if_pos (ky_ge (by omega) (by omega) (by omega) (by omega) (by omega)), g105_ob hS, e3]
/-- what is drawn doesn't depend on what doesn't count -/
theorem drT_VA (hS : sk_G S) (hR : RP I 107 v) (hT : VT v) {w : sk_H} (hA : VA v w) (z : Int32) {n : Nat} (hn : n ≤ 100) : drT w z n = drT v z n := by
  have hTw := VT_VA hT hA
  obtain ⟨I1, e1, -⟩ := m214 (S := S) (I := I) (d := 19) (by omega) hS hR hT z hn
  obtain ⟨I2, e2, -⟩ := m214 (S := S) (I := I) (d := 19) (by omega) hS (RP_VA hR hA) hTw z hn
  rw [e1] at e2
  have h : sj (drT v z n) = sj (drT w z n) := by
    injection e2 with e2
    injection e2 with e2 _
    injection e2 with e2
    injection e2
  have a := drT_rng hT z n
  have b := drT_rng hTw z n
  exact ((sj_inj (by omega) (by omega) (by omega) (by omega)).mp h).symm
theorem f_drawn (hS : sk_G S) (hG : GI I v) (z : Int32) {n : Int} (p1 : -2147483648 ≤ n) (p2 : n < 2147483648) : FC S I 121 215 [.int z, .int (sj n)] := by
  have hG0 := hG
  obtain ⟨hv, hT, hR, hTp, hM, hRk, hSh⟩ := hG; have hV := hT.1; have ha : sk_isP 15 := Or.inl rfl; obtain ⟨n1, n2, n3, n4, n5, n6, n7, n8, n9, n10, n11, n12⟩ := hV.1
  have cc := sk_e121 19 1 z (sj n) (sk_mk S I)
  have rr := fun J : sk_H => sk_e215 19 105 z (sj n) (sk_mk S J)
  have e144 := fun J : sk_H => m144 (d := 19) (by omega) (x := n) (l := 0) (h := 20) p1 p2 (by omega) (by omega) (by omega) (by omega) (w := sk_mk S J)
  by_cases hn : 0 ≤ n ∧ n ≤ 20
  · obtain ⟨m, rfl⟩ : ∃ m : Nat, n = m := ⟨n.toNat, by omega⟩
    obtain ⟨I1, w, e1, hA, f1⟩ := m141 (S := S) (I := I) (d := 19) (by omega) hS hv hT z (n := m) (by omega)
    have hR1 : RP I1 107 v := hR.fr (f1 107 (by omega) (by omega))
    obtain ⟨I2, e2, f2⟩ := m214 (S := S) (I := I1) (d := 19) (by omega) hS hR1 hT z (n := m) (by omega)
    rw [drT_VA hS hR hT hA z (by omega)] at e1
    rw [if_neg (kn_lt (by omega) (by omega) (by omega) (by omega) (by omega)), if_pos (ky_le (by omega) (by omega) (by omega) (by omega) (by omega)), g1_ob hS, e1, sk_ci_some] at cc
    refine ⟨_, I1, I2, v, cc, ?_, GI_GF hG0 (f1.gf.trans f2)⟩
    rw [rr, e144, sk_ci_some, decide_eq_true hn, if_neg ct_beq, g105_ob hS, e2, sk_ci_some]
  · refine FC_same hG0 (-2) ?_ ?_
    · rw [cc]
      by_cases c : n < 0
      · rw [if_pos (ky_lt (by omega) (by omega) (by omega) (by omega) c)]
      · rw [if_neg (kn_lt (by omega) (by omega) (by omega) (by omega) (by omega)), if_neg (kn_le (by omega) (by omega) (by omega) (by omega) (by omega))]
    · rw [rr, e144, sk_ci_some, decide_eq_false hn, if_pos cf_beq]
theorem m138 {d : Nat} (hd : 1 ≤ d) {l m : Nat} (hl : l ≤ 8) (hm : m ≤ 8) {w : sk_W} : sk_c d 138 [.int (sj l), .int (sj m)] w = some (some (.int (sj (gcF 64 l m : Int))), w) := by
  obtain ⟨d, rfl⟩ : ∃ e, d = e + 1 := ⟨d - 1, by omega⟩; rw [sk_e138]
  have key : ∀ f a b s : Nat, a ≤ 8 → b ≤ 8 → s + f = 64 → ∀ o0 o1 o5 : Option Value, sk_D138 d 7 [o0, o1, some (.int (sj a)), some (.int (sj b)), some (.int (sj (s : Int))), o5] [] w = some (some (.int (sj (gcF f a b : Int))), w) := by
    intro f
    induction f with
    | zero =>
      intro a b s h1 h2 h3 o0 o1 o5
      rw [sk_e138_7, if_pos (ky_ge (by omega) (by omega) (by omega) (by omega) (by omega))]
      rfl
    | succ f ih =>
      intro a b s h1 h2 h3 o0 o1 o5
      have t1 : (s : Int) + 1 = ((s + 1 : Nat) : Int) := rfl
      rw [sk_e138_7, if_neg (kn_ge (by omega) (by omega) (by omega) (by omega) (by omega))]
      unfold gcF
      by_cases c : a = 0
      · rw [if_pos (ky_eq (by omega)), if_pos c]
      · have hlt : b % a < a := Nat.mod_lt _ (by omega)
        rw [if_neg (kn_eq (by omega) (by omega) (by omega) (by omega) (by omega)), if_neg c, if_neg (by rw [sj_v0 (by omega) (by omega)]; omega), sj_rem (by omega) (by omega) (by omega) (by omega), sj_add, t1]
        exact ih (b % a) a (s + 1) (by omega) h1 (by omega) _ _ _
  exact key 64 l m 0 hl hm rfl _ _ _
theorem r216_65 {d : Nat} {l m : Nat} (hl : l ≤ 8) (hm : m ≤ 8) {p : Int} (p1 : 0 ≤ p) (p2 : p ≤ 1) {w : sk_W} : ∀ c, c ≤ 8 → 1 ≤ cdF l m c → ∀ o0 o1 o3 : Option Value, sk_D216 d 65 [o0, o1, some (.int (sj m)), o3, some (.int (sj p)), some (.int (sj l)), some (.int (sj (c : Int)))] [] w = some (some (.int (sj (((if p = 0 then l else m) / cdF l m c : Nat) : Int))), w) := by
  intro c
  induction c with
  | zero => intro _ h; exact absurd h (by unfold cdF; omega)
  | succ c ih =>
    intro hc h o0 o1 o3
    have t1 : ((c + 1 : Nat) : Int) + -1 = (c : Int) := by omega
    have h0 : ¬ sj ((c + 1 : Nat) : Int) = 0 := by rw [sj_v0 (by omega) (by omega)]; omega
    have hl1 : l % (c + 1) < c + 1 := Nat.mod_lt _ (by omega)
    have hm1 : m % (c + 1) < c + 1 := Nat.mod_lt _ (by omega)
    have el : sj (l : Int) - sj (l : Int) / sj ((c + 1 : Nat) : Int) * sj ((c + 1 : Nat) : Int) = sj ((l % (c + 1) : Nat) : Int) := sj_rem (by omega) (by omega) (by omega) (by omega)
    have em : sj (m : Int) - sj (m : Int) / sj ((c + 1 : Nat) : Int) * sj ((c + 1 : Nat) : Int) = sj ((m % (c + 1) : Nat) : Int) := sj_rem (by omega) (by omega) (by omega) (by omega)
    rw [sk_e216_65, if_neg h0, el, em, sj_add, t1]
    unfold cdF at h ⊢
    by_cases c1 : l % (c + 1) = 0
    · rw [if_neg (kn_ne (by omega)), if_neg h0]
      by_cases c2 : m % (c + 1) = 0
      · rw [if_pos (ky_eq (by omega)), if_pos (show l % (c + 1) = 0 ∧ m % (c + 1) = 0 from ⟨c1, c2⟩)]
        by_cases c3 : p = 0
        · rw [if_neg (kn_ne c3), if_neg h0, if_pos c3, sj_div (by omega) (by omega) (by omega) (by omega)]
          rfl
        · rw [if_pos (ky_ne (by omega) (by omega) (by omega) (by omega) c3), if_neg h0, if_neg c3, sj_div (by omega) (by omega) (by omega) (by omega)]
          rfl
      · rw [if_neg (kn_eq (by omega) (by omega) (by omega) (by omega) (by omega)), if_neg (show ¬ (l % (c + 1) = 0 ∧ m % (c + 1) = 0) from fun q => c2 q.2)]
        rw [if_neg (show ¬ (l % (c + 1) = 0 ∧ m % (c + 1) = 0) from fun q => c2 q.2)] at h
        exact ih (by omega) h _ _ _
    · rw [if_pos (ky_ne (by omega) (by omega) (by omega) (by omega) (by omega)), if_neg (show ¬ (l % (c + 1) = 0 ∧ m % (c + 1) = 0) from fun q => c1 q.1)]
      rw [if_neg (show ¬ (l % (c + 1) = 0 ∧ m % (c + 1) = 0) from fun q => c1 q.1)] at h
      exact ih (by omega) h _ _ _
theorem f_chance (hS : sk_G S) (hG : GI I v) (z : Int32) {m t p : Int} (m1 : -2147483648 ≤ m) (m2 : m < 2147483648) (t1 : -2147483648 ≤ t) (t2 : t < 2147483648) (p1 : -2147483648 ≤ p) (p2 : p < 2147483648) : FC S I 122 216 [.int z, .int (sj m), .int (sj t), .int (sj p)] := by
  have hG0 := hG
  obtain ⟨hv, hT, hR, hTp, hM, hRk, hSh⟩ := hG; have hV := hT.1; have ha : sk_isP 15 := Or.inl rfl; obtain ⟨n1, n2, n3, n4, n5, n6, n7, n8, n9, n10, n11, n12⟩ := hV.1
  have cc := sk_e122 19 1 z (sj m) (sj t) (sj p) (sk_mk S I)
  have rr := fun J : sk_H => sk_e216 19 105 z (sj m) (sj t) (sj p) (sk_mk S J)
  have em := fun J : sk_H => m144 (d := 19) (by omega) (x := m) (l := 1) (h := 8) m1 m2 (by omega) (by omega) (by omega) (by omega) (w := sk_mk S J)
  have ep := fun J : sk_H => m144 (d := 19) (by omega) (x := p) (l := 0) (h := 1) p1 p2 (by omega) (by omega) (by omega) (by omega) (w := sk_mk S J)
  by_cases hm : 1 ≤ m ∧ m ≤ 8
  rotate_left
  · refine FC_same hG0 (-2) ?_ ?_
    · rw [cc]
      by_cases c : m < 1
      · rw [if_pos (ky_lt (by omega) (by omega) (by omega) (by omega) c)]
      · rw [if_neg (kn_lt (by omega) (by omega) (by omega) (by omega) (by omega)), if_pos (ky_gt (by omega) (by omega) (by omega) (by omega) (by omega))]
    · rw [rr, em, sk_ci_some, decide_eq_false hm, if_pos cf_beq]
  rw [if_neg (kn_lt (by omega) (by omega) (by omega) (by omega) (by omega)), if_neg (kn_gt (by omega) (by omega) (by omega) (by omega) (by omega))] at cc
  by_cases ht : t < 0
  · rw [if_pos (ky_lt (by omega) (by omega) (by omega) (by omega) ht)] at cc
    refine FC_same hG0 (-2) cc ?_
    rw [rr, em, sk_ci_some, decide_eq_true hm, if_neg ct_beq, if_pos (ky_lt (by omega) (by omega) (by omega) (by omega) ht)]
  rw [if_neg (kn_lt (by omega) (by omega) (by omega) (by omega) (by omega))] at cc
  by_cases hp : 0 ≤ p ∧ p ≤ 1
  rotate_left
  · refine FC_same hG0 (-2) ?_ ?_
    · rw [cc]
      by_cases c : p < 0
      · rw [if_pos (ky_lt (by omega) (by omega) (by omega) (by omega) c)]
      · rw [if_neg (kn_lt (by omega) (by omega) (by omega) (by omega) (by omega)), if_neg (kn_le (by omega) (by omega) (by omega) (by omega) (by omega))]
    · rw [rr, em, sk_ci_some, decide_eq_true hm, if_neg ct_beq, if_neg (kn_lt (by omega) (by omega) (by omega) (by omega) (by omega)), ep, sk_ci_some, decide_eq_false hp, if_neg cf_bne]
  rw [if_neg (kn_lt (by omega) (by omega) (by omega) (by omega) (by omega)), if_pos (ky_le (by omega) (by omega) (by omega) (by omega) (by omega))] at cc
  obtain ⟨n, rfl⟩ : ∃ n : Nat, m = n := ⟨m.toNat, by omega⟩
  have key := lp_run (fun k (X : Option sk_R) => ∃ I', X = sk_D122 19 35 [some (.ref 1), some (.int z), some (.int (sj n)), some (.int (sj t)), some (.int (sj p)), some (.int (sj (cntTo k (fun k => decide (drT v (z + sj (k : Int)) 6 ≤ t))))), some (.int (sj (k : Int)))] [] (sk_mk S I') ∧ GC I I') n (fun k X hk hX => by
    obtain ⟨I2, rfl, f2⟩ := hX
    have hv2 : vC I2 15 = v := (vC_fr (fun b b1 b2 => f2 b (by omega) (by omega))).trans hv
    obtain ⟨I3, w, e3, hA, f3⟩ := m141 (S := S) (I := I2) (d := 19) (by omega) hS hv2 hT (z + sj (k : Int)) (n := 6) (by omega)
    rw [drT_VA hS hR hT hA _ (by omega)] at e3
    have e3 : sk_c 19 141 [.ref 1, .int (z + sj (k : Int)), .int (sj 6)] (sk_mk S I2) = _ := e3
    have hr := drT_rng hT (z + sj (k : Int)) 6
    have hq : (k : Int) + 1 = ((k + 1 : Nat) : Int) := rfl
    refine ⟨I3, ?_, f2.trans f3⟩
    rw [sk_e122_35, if_neg (kn_ge (by omega) (by omega) (by omega) (by omega) (by omega)), g1_ob hS, e3, sk_ci_some, cntTo_succ]
    by_cases c : drT v (z + sj (k : Int)) 6 ≤ t
    · rw [if_neg (kn_gt (by omega) (by omega) (by omega) (by omega) c), if_pos (decide_eq_true c), sj_add, sj_add, hq]
    · rw [if_pos (ky_gt (by omega) (by omega) (by omega) (by omega) (by omega)), if_neg (by simp [c]), sj_add, hq]) ⟨I, rfl, fun _ _ _ => rfl⟩
  obtain ⟨I1, e1, f1⟩ := key
  have hR1 : RP I1 107 v := hR.fr (f1 107 (by omega) (by omega))
  have key2 := lp_run (fun k (X : Option sk_R) => ∃ I', X = sk_D216 19 33 [some (.ref 105), some (.int z), some (.int (sj n)), some (.int (sj t)), some (.int (sj p)), some (.int (sj (cntTo k (fun k => decide (drT v (z + sj (k : Int)) 6 ≤ t))))), some (.int (sj (k : Int)))] [] (sk_mk S I') ∧ GF I1 I') n (fun k X hk hX => by
    obtain ⟨I2, rfl, f2⟩ := hX
    have hR2 : RP I2 107 v := RP_of hV.1 hR1 f2.2.2.1
    obtain ⟨I3, e3, f3⟩ := m214 (S := S) (I := I2) (d := 19) (by omega) hS hR2 hT (z + sj (k : Int)) (n := 6) (by omega)
    have e3 : sk_c 19 214 [.ref 105, .int (z + sj (k : Int)), .int (sj 6)] (sk_mk S I2) = _ := e3
    have hr := drT_rng hT (z + sj (k : Int)) 6
    have hq : (k : Int) + 1 = ((k + 1 : Nat) : Int) := rfl
    refine ⟨I3, ?_, f2.trans f3⟩
    rw [sk_e216_33, if_neg (kn_ge (by omega) (by omega) (by omega) (by omega) (by omega)), g105_ob hS, e3, sk_ci_some, cntTo_succ]
    by_cases c : drT v (z + sj (k : Int)) 6 ≤ t
    · rw [if_neg (kn_gt (by omega) (by omega) (by omega) (by omega) c), if_pos (decide_eq_true c), sj_add, sj_add, hq]
    · rw [if_pos (ky_gt (by omega) (by omega) (by omega) (by omega) (by omega)), if_neg (by simp [c]), sj_add, hq]) ⟨I1, rfl, GF.rfl' I1⟩
  obtain ⟨I2, e2, f2⟩ := key2
  have hc := cntTo_rng n (fun k => decide (drT v (z + sj (k : Int)) 6 ≤ t))
  obtain ⟨l, hl⟩ : ∃ l : Nat, cntTo n (fun k => decide (drT v (z + sj (k : Int)) 6 ≤ t)) = l := ⟨(cntTo n (fun k => decide (drT v (z + sj (k : Int)) 6 ≤ t))).toNat, by omega⟩
  rw [hl] at e1 e2 hc
  have hg := gc_cd n (by omega) l (by omega) (by omega) (by omega)
  have hle := cdF_le l n n
  have e138 := m138 (d := 19) (by omega) (l := l) (m := n) (by omega) (by omega) (w := sk_mk S I1)
  rw [hg.1] at e138
  have h0 : ¬ sj (cdF l n n : Int) = 0 := by rw [sj_v0 (by omega) (by omega)]; omega
  refine ⟨sj (((if p = 0 then l else n) / cdF l n n : Nat) : Int), I1, I2, v, ?_, ?_, GI_GF hG0 (f1.gf.trans f2)⟩
  · refine cc.trans (e1.trans ?_)
    rw [sk_e122_35, if_pos (ky_ge (by omega) (by omega) (by omega) (by omega) (by omega)), e138, sk_ci_some]
    by_cases c3 : p = 0
    · rw [if_neg (kn_ne c3), if_neg h0, if_pos c3, sj_div (by omega) (by omega) (by omega) (by omega)]
      rfl
    · rw [if_pos (ky_ne (by omega) (by omega) (by omega) (by omega) c3), if_neg h0, if_neg c3, sj_div (by omega) (by omega) (by omega) (by omega)]
      rfl
  · rw [rr, em, sk_ci_some, decide_eq_true hm, if_neg ct_beq, if_neg (kn_lt (by omega) (by omega) (by omega) (by omega) (by omega)), ep, sk_ci_some, decide_eq_true hp, if_pos ct_bne]
    refine e2.trans ?_
    rw [sk_e216_33, if_pos (ky_ge (by omega) (by omega) (by omega) (by omega) (by omega))]
    exact r216_65 (by omega) (by omega) hp.1 hp.2 n (by omega) hg.2 _ _ _
end DRW
