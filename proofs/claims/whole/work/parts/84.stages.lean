/-! ===== stages ===== -/
section STG
variable {S : List sk_Sh} {I v : sk_H}
theorem m210 {d : Nat} (hd : 7 ≤ d) (hS : sk_G S) (hR : RP I 107 v) (hV : VO v) {a : Nat} (ha : a < 2) : ∃ x J, sk_c d 210 [.ref 105, .int (sj (a : Int))] (sk_mk S I) = some (some (.int (sj x)), sk_mk S J) ∧ RsR (layN v) (loW v) (hiW v) a x ∧ ∀ c, c ≠ 115 → c ≠ 116 → J c = I c := by
  obtain ⟨d, rfl⟩ : ∃ e, d = e + 1 := ⟨d - 1, by omega⟩; rw [sk_e210]
  have n4 := hV.1.2.2.2.1
  have ini := lp_run (fun k (X : Option sk_R) => ∃ J : sk_H, X = sk_D210 d 2 [some (.ref 105), some (.int (sj (a : Int))), some (.int (sj (k : Int)))] [] (sk_mk S J) ∧ (∀ q, q < k → J 115 q = 0) ∧ ∀ c, c ≠ 115 → J c = I c) 10 (fun k X hk hX => by
    obtain ⟨J, rfl, j1, j2⟩ := hX
    have t2 : (k : Int) + 1 = ((k + 1 : Nat) : Int) := rfl
    rw [sk_e210_2, if_neg (kn_ge (by omega) (by omega) (by omega) (by omega) (by omega)), g105_r14b hS, g115_sb hS (by omega) (by omega), Int.toNat_natCast, sj_add, t2]
    refine ⟨_, rfl, fun q hq => ?_, fun c hc => (funext fun k => u2_ne _ _ (by omega)).trans (j2 c hc)⟩
    by_cases f : q = k
    · rw [f, u2_eq]
    · rw [u2_ne _ _ (by omega)]; exact j1 q (by omega)) ⟨I, rfl, fun q hq => absurd hq (by omega), fun _ _ => rfl⟩
  obtain ⟨J0, e0, i1, i2⟩ := ini
  have key : ∀ m t, t + m = 23 → ∀ J : sk_H, LR J v → RLq J v (sqL (layN v) (loW v) (hiW v) a t) → (∀ s, s < t → nbL (layN v) (sqL (layN v) (loW v) (hiW v) a s) ≠ layN v) → (∀ c, c ≠ 115 → c ≠ 116 → J c = I c) → ∃ x Q, sk_D210 d 23 [some (.ref 105), some (.int (sj (a : Int))), some (.int (sj (t : Int)))] [] (sk_mk S J) = some (some (.int (sj x)), sk_mk S Q) ∧ RsR (layN v) (loW v) (hiW v) a x ∧ ∀ c, c ≠ 115 → c ≠ 116 → Q c = I c := by
    intro m
    induction m with
    | zero =>
      intro t ht J j1 j2 j3 j4
      have hRJ : RP J 107 v := hR.fr (j4 107 (by omega) (by omega))
      obtain ⟨b, e, hb⟩ := m209 (d := d) (by omega) hS hRJ hV j1 j2 (CNL_sq _ _ _ _ _)
      rw [sk_e210_23, g105_ob hS, e, sk_ci_some]
      cases b with
      | true =>
        rw [if_pos ct_bne]
        exact ⟨_, J, rfl, Or.inl ⟨t, by omega, rfl, hb.mp rfl, j3⟩, j4⟩
      | false =>
        rw [if_neg cf_bne, if_neg (kn_le (by omega) (by omega) (by omega) (by omega) (by omega))]
        refine ⟨-1, J, rfl, Or.inr ⟨rfl, fun s hs => ?_⟩, j4⟩
        by_cases f : s = t
        · rw [f]; intro h; cases hb.mpr h
        · exact j3 s (by omega)
    | succ m ih =>
      intro t ht J j1 j2 j3 j4
      have hRJ : RP J 107 v := hR.fr (j4 107 (by omega) (by omega))
      have t2 : (t : Int) + 1 = ((t + 1 : Nat) : Int) := rfl
      obtain ⟨b, e, hb⟩ := m209 (d := d) (by omega) hS hRJ hV j1 j2 (CNL_sq _ _ _ _ _)
      rw [sk_e210_23, g105_ob hS, e, sk_ci_some]
      cases b with
      | true =>
        rw [if_pos ct_bne]
        exact ⟨_, J, rfl, Or.inl ⟨t, by omega, rfl, hb.mp rfl, j3⟩, j4⟩
      | false =>
        have ex : (sj (a : Int) + sj (t : Int)) - ((sj (a : Int) + sj (t : Int)) / sj 2) * sj 2 = sj (((a + t) % 2 : Nat) : Int) := by
          rw [sj_add, sj_div (by omega) (by omega) (by omega) (by omega), sj_mul, sj_sub, ie_rem]
          rfl
        obtain ⟨Q, e2, q1, q2, q3⟩ := m208 (d := d) (by omega) hS hRJ hV j1 j2 (a := (a + t) % 2) (by omega)
        rw [if_neg cf_bne, if_pos (ky_le (by omega) (by omega) (by omega) (by omega) (by omega)), g105_ob hS, ex, e2, sk_cv_some, sj_add, t2]
        refine ih (t + 1) (by omega) Q q2 (by rw [sqL_s]; exact q1) (fun s hs => ?_) (fun c h1 h2 => (q3 c h1 h2).trans (j4 c h1 h2))
        by_cases f : s = t
        · rw [f]; intro h; cases hb.mpr h
        · exact j3 s (by omega)
  obtain ⟨x, Q, e, q⟩ := key 23 0 rfl J0 (fun p hp => by rw [i1 p (by omega)]; omega) (fun p q hp hq _ _ => by rw [i1 p (by omega), i1 q (by omega)]; exact ⟨fun _ => rfl, fun _ => rfl⟩) (fun s hs => absurd hs (by omega)) (fun c hc _ => i2 c hc)
  refine ⟨x, Q, e0.trans ?_, q⟩
  rw [sk_e210_2, if_pos (ky_ge (by omega) (by omega) (by omega) (by omega) (by omega))]
  exact e
theorem RsR_rng {L : Nat} {lo hi : Nat → Nat → Int} {a : Nat} {x : Int} (h : RsR L lo hi a x) : -1 ≤ x ∧ x ≤ 23 := by
  rcases h with ⟨t, t1, t2, -⟩ | ⟨h, -⟩ <;> omega
theorem f_stages (hS : sk_G S) (hG : GI I v) : FC S I 119 211 [] := by
  have hG0 := hG
  obtain ⟨hv, hT, hR, hTp, hM, hRk, hSh⟩ := hG; have hV := hT.1; have ha : sk_isP 15 := Or.inl rfl; obtain ⟨n1, n2, n3, n4, n5, n6, n7, n8, n9, n10, n11, n12⟩ := hV.1
  have cc := sk_e119 19 1 (sk_mk S I)
  have rr := fun J : sk_H => sk_e211 19 105 (sk_mk S J)
  have hL : layN v ≤ 10 := by
    have := lyC_le v (v 0 1).toNat
    show lyC v (v 0 1).toNat ≤ 10
    omega
  obtain ⟨K, e1, k6, k81, k82, k83, k84, kf⟩ := m11 (S := S) (K := I) (d := 19) (by omega) hS ha hv hV
  obtain ⟨x, J, e2, jf, j1, j2⟩ := m12 (S := S) (K := K) (d := 19) (by omega) hS hL k6 (lo := loW v) (hi := hiW v) k81 k82 k83 k84 (fun a k hk => lh_rng hV a k hk)
  have fJ : ∀ c, ¬ (80 ≤ c ∧ c ≤ 86) → J c = I c := fun c hc => (jf c (by omega) (by omega)).trans (kf c (by omega) (by omega) (by omega) (by omega) (by omega))
  have hR1 : RP J 107 v := hR.fr (fJ 107 (by omega))
  obtain ⟨xr, J1, er, rr1, f1⟩ := m210 (S := S) (I := J) (d := 19) (by omega) hS hR1 hV (a := 0) (by omega)
  have er : sk_c 19 210 [.ref 105, .int (sj 0)] (sk_mk S J) = _ := er
  have hR2 : RP J1 107 v := hR1.fr (f1 107 (by omega) (by omega))
  obtain ⟨yr, J2, er', rr2, f2⟩ := m210 (S := S) (I := J1) (d := 19) (by omega) hS hR2 hV (a := 1) (by omega)
  have er' : sk_c 19 210 [.ref 105, .int (sj 1)] (sk_mk S J1) = _ := er'
  have b1 := RsR_rng rr1
  have b2 := RsR_rng rr2
  have ex : x = (if xr = -1 then -1 else if yr ≠ -1 then (if yr < xr then yr else xr) else -1) := by
    by_cases c : layN v ≤ 1
    · rw [j1 c, rs_few c rr1 rr2]
    · obtain ⟨xc, yc, a1, a2, a3⟩ := j2 (by omega)
      rw [a3]
      exact rs_comb (fun a k hk => ⟨(lh_rng hV a k hk).1, (lh_rng hV a k hk).2.1⟩) (by omega) a1 a2 rr1 rr2
  refine ⟨sj x, J, J2, v, ?_, ?_, GI_GF hG0 (GF.of fun b hb => ?_)⟩
  · rw [cc, g1_r6b hS, g1_r1b hS, g80_ob hS, e1, sk_cv_some, g1_r6b hS, g80_ob hS, e2, sk_ci_some]
  · rw [rr, g105_ob hS, er, sk_ci_some, g105_ob hS, er', sk_ci_some, ex]
    by_cases c1 : xr = -1
    · rw [if_pos (ky_eq c1), if_pos c1]
    rw [if_neg (kn_eq (by omega) (by omega) (by omega) (by omega) c1), if_neg c1]
    by_cases c2 : yr = -1
    · rw [if_neg (kn_ne c2), if_neg (fun h => h c2)]
    rw [if_pos (ky_ne (by omega) (by omega) (by omega) (by omega) c2), if_pos c2, m240 (by omega) (by omega) (by omega) (by omega) (by omega), sk_ci_some]
  · have h80 : ¬ (80 ≤ b ∧ b ≤ 86) := by unfold Gb at hb; omega
    have h115 : b ≠ 115 := by unfold Gb at hb; omega
    have h116 : b ≠ 116 := by unfold Gb at hb; omega
    rw [f2 b h115 h116, f1 b h115 h116, fJ b h80]
end STG
