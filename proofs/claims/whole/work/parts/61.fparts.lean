section FPA
variable {S : List sk_Sh} {I v : sk_H}
theorem f_parts (hS : sk_G S) (hG : GI I v) : FC S I 104 164 [] := by
  have hG0 := hG
  obtain ⟨hv, hT, hR, hTp, hM, hRk, hSh⟩ := hG; have hV := hT.1; have ha : sk_isP 15 := Or.inl rfl; obtain ⟨n1, n2, n3, n4, n5, n6, n7, n8, n9, n10, n11, n12⟩ := hV.1
  obtain ⟨n, t1, t2, t3, t4, t5⟩ := hTp
  have hB : OKB (I 110) n := ⟨t1, fun k hk => (t4 k hk).2⟩
  have z1 : (1 : Int).toNat = 1 := rfl
  have c0 : TP (I 110) n (u2 (u2 I 2 4 0) 2 3 0) 0 := ⟨by rw [u2_ne _ _ (by omega), u2_ne _ _ (by omega)]; exact t2, fun k hk => by rw [u2_ne _ _ (by omega), u2_ne _ _ (by omega)]; exact (t4 k hk).1, by rw [u2_ne _ _ (by omega), u2_eq]; rfl⟩
  have hg0 : GG (v 0 0) (fun _ _ => 0) 0 := fun j hj => absurd hj (by omega)
  obtain ⟨J, cf, x1, x2⟩ := c86 (S := S) (B := I 110) (n := n) (d := 18) (by omega) hS hB (W := v 0 0) n1 n2 60 0 0 (fun _ _ => 0) (u2 (u2 I 2 4 0) 2 3 0) (by omega) (by omega) (by omega) c0 hg0 (by rw [u2_eq]; rfl) (fun j hj => absurd hj (by omega))
  -- what the class's reading leaves
  have cJ : ∀ b, b ≠ 2 → ¬ (5 ≤ b ∧ b < 15) → J b = I b := fun b h1 h2 => (cf.1 b h1 h2).trans (funext fun k => by rw [u2_ne _ _ (by omega), u2_ne _ _ (by omega)])
  have cJ5 : ∀ q, q < 10 → ∀ f, 4 ≤ f → J (5 + q) f = I (5 + q) f := fun q hq f hf => (cf.2.2 q hq f hf).trans (by rw [u2_ne _ _ (by omega), u2_ne _ _ (by omega)])
  have cc := sk_e104 19 1 (sk_mk S I)
  have c86' := sk_e86 18 2 (sj (v 0 0)) (sk_mk S I)
  rw [g2_u4b hS, g2_u3b hS] at c86'
  rw [g1_r0b hS, g1_r1b hS, pl_i4b hS ha, vc4 hv, g2_ob hS, c86'] at cc
  have rr := fun K : sk_H => sk_e164 19 105 (sk_mk S K)
  have r163 := fun K : sk_H => sk_e163 18 105 (sk_mk S K)
  -- the reference reads the same, whatever the class did to its own
  have ref : ∀ K : sk_H, (∀ b, b ≠ 2 → ¬ (5 ≤ b ∧ b < 34) → K b = I b) → ∃ L, RF (u2 K 105 6 0) L ∧ ((rdL (I 110) n (v 0 0) 60 0 0 (fun _ _ => 0)).2 = none → sk_c 19 163 [.ref 105] (sk_mk S K) = some (some (.int (sj ((rdL (I 110) n (v 0 0) 60 0 0 (fun _ _ => 0)).1 : Int))), sk_mk S L)) ∧ ∀ N' g', (rdL (I 110) n (v 0 0) 60 0 0 (fun _ _ => 0)).2 = some (N', g') → sk_c 19 163 [.ref 105] (sk_mk S K) = some (some (.int (sj (-1))), sk_mk S L) ∧ RIT L g' N' := by
    intro K hK
    have hRT : RT (I 110) n (u2 K 105 6 0) := ⟨by rw [u2_ne _ _ (by omega), hK 105 (by omega) (by omega)]; exact t3, fun k hk => by rw [u2_ne _ _ (by omega), hK 110 (by omega) (by omega)]⟩
    have hW : (u2 K 105 6 0) 107 0 = v 0 0 := by rw [u2_ne _ _ (by omega), hK 107 (by omega) (by omega)]; exact hR.1 0 (by omega)
    have e7 := r163_7 (S := S) (J := u2 K 105 6 0) (d := 18) (by omega) hS hB hRT 60 0 (by omega) (by omega)
    obtain ⟨L, f, y1, y2⟩ := r163_21 (S := S) (d := 18) (by omega) hS hB n1 n2 60 0 0 (fun _ _ => 0) (u2 K 105 6 0) (by omega) (by omega) (by omega) hRT hW ⟨u2_eq _ _ _ _, fun j hj => absurd hj (by omega)⟩ none none none none none none none
    have e0 : sk_c 19 163 [.ref 105] (sk_mk S K) = sk_D163 18 7 [some (.ref 105), some (.int (sj ((0 : Nat) : Int))), none, none, none, none, none, none, none] [] (sk_mk S (u2 K 105 6 0)) := by
      rw [r163 K, g105_u6b hS]; rfl
    exact ⟨L, f, fun h => (e0.trans e7).trans (y1 h), fun N' g' h => ⟨(e0.trans e7).trans (y2 N' g' h).1, (y2 N' g' h).2⟩⟩
  -- what stands when nothing is added
  have plain : ∀ (K L : sk_H), K = u2 J 2 1 0 → RF (u2 K 105 6 0) L → GI (u2 L 105 4 0) v := by
    intro K L hK hL
    subst hK
    have f1 : ∀ b, b ≠ 2 → b ≠ 105 → b ≠ 111 → ¬ (5 ≤ b ∧ b < 15) → (u2 L 105 4 0) b = I b := fun b h1 h2 h3 h4 => by
      rw [show (u2 L 105 4 0) b = L b from funext fun k => u2_ne _ _ (by omega), hL.1 b h2 h3]
      exact (funext fun k => by rw [u2_ne _ _ (by omega), u2_ne _ _ (by omega)]).trans (cJ b h1 h4)
    refine GI_TP hG0 (fun b h1 h2 h3 h4 h5 => f1 b h1 h3 h5 (by omega)) ?_ ?_ (u2_eq _ _ _ _) (fun k hk j j1 j2 => ?_) ?_ hT (hR.fr (f1 107 (by omega) (by omega) (by omega) (by omega))) (Int.le_refl _)
    · rw [u2_ne _ _ (by omega), hL.2 2 (by omega), u2_ne _ _ (by omega), u2_ne _ _ (by omega), cJ 105 (by omega) (by omega)]
    · rw [u2_ne _ _ (by omega), hL.1 2 (by omega) (by omega), u2_ne _ _ (by omega), u2_eq]
    · rw [u2_ne _ _ (by omega), hL.1 (5 + k) (by omega) (by omega), u2_ne _ _ (by omega), u2_ne _ _ (by omega), cJ5 k hk j j1]
      exact t5 k hk j j1 j2
    · exact (vC_fr (fun b b1 b2 => f1 b (by omega) (by omega) (by omega) (by omega))).trans hv
  have toK : ∀ b, b ≠ 2 → ¬ (5 ≤ b ∧ b < 34) → (u2 J 2 1 0) b = I b := fun b h1 h2 => (funext fun k => u2_ne _ _ (by omega)).trans (cJ b h1 (by omega))
  cases hrd : (rdL (I 110) n (v 0 0) 60 0 0 (fun _ _ => 0)).2 with
  | none =>
    obtain ⟨e, ef⟩ := x1 hrd
    obtain ⟨L, f, y1, -⟩ := ref (u2 J 2 1 0) toK
    have ey := y1 hrd
    generalize (rdL (I 110) n (v 0 0) 60 0 0 (fun _ _ => 0)).1 = F at *
    have e : sk_D86 18 12 [some (.ref 2), some (.int (sj (v 0 0))), some (.int (sj 0))] [] (sk_mk S (u2 (u2 I 2 4 0) 2 3 0)) = some (some (.int (sj (-100 - (F : Int)))), sk_mk S J) := e
    rw [e, sk_ci_some, g1_r0b hS, g2_u1b hS, if_neg (kn_ge (by omega) (by omega) (by omega) (by omega) (by omega))] at cc
    refine ⟨_, u2 J 2 1 0, u2 L 105 4 0, v, cc, ?_, plain _ L rfl f⟩
    rw [rr, g105_ob hS, ey, sk_ci_some, g105_u4b hS, if_neg (kn_eq (by omega) (by omega) (by omega) (by omega) (by omega)), sj_sub]
  | some r =>
    obtain ⟨N, g⟩ := r
    obtain ⟨e, hg, hL, hN⟩ := x2 N g hrd
    have tr := TT_rng hg
    obtain ⟨T, hTT⟩ : ∃ T : Nat, TT g N = T := ⟨(TT g N).toNat, by omega⟩
    rw [hTT] at e
    have e : sk_D86 18 12 [some (.ref 2), some (.int (sj (v 0 0))), some (.int (sj 0))] [] (sk_mk S (u2 (u2 I 2 4 0) 2 3 0)) = some (some (.int (sj (T : Int))), sk_mk S J) := e
    have J15 : (u2 J 2 1 0) 15 5 = v 0 1 := by rw [u2_ne _ _ (by omega), cJ 15 (by omega) (by omega)]; exact vc5 hv
    rw [e, sk_ci_some, g1_r0b hS, g2_u1b hS, if_pos (ky_ge (by omega) (by omega) (by omega) (by omega) (by omega)), g1_r1b hS, pl_i5b hS ha, J15, sj_add] at cc
    -- the reference up to its own check
    have refc : ∀ K : sk_H, (∀ b, b ≠ 2 → ¬ (5 ≤ b ∧ b < 34) → K b = I b) → ∃ L, RF (u2 K 105 6 0) L ∧ RIT (u2 L 105 4 0) g N ∧ RP (u2 L 105 4 0) 107 v ∧ sk_c 20 164 [.ref 105] (sk_mk S K) = if sk_cond .le (sj (v 0 1 + T)) (sj 10) = true then sk_D164 19 69 [some (.ref 105), some (.int (sj (-1))), some (.int (sj (T : Int))), some (.int (sj 0)), none, none] [] (sk_mk S (u2 L 105 4 0)) else some (some (.int (sj (-4))), sk_mk S (u2 L 105 4 0)) := by
      intro K hK
      obtain ⟨L, f, -, y2⟩ := ref K hK
      obtain ⟨ey, hI⟩ := y2 N g hrd
      have hI' : RIT (u2 L 105 4 0) g N := ⟨by rw [u2_ne _ _ (by omega)]; exact hI.1, fun j hj f hf => by rw [u2_ne _ _ (by omega)]; exact hI.2 j hj f hf⟩
      have hRP : RP (u2 L 105 4 0) 107 v := hR.fr (by
        rw [show (u2 L 105 4 0) 107 = L 107 from funext fun k => u2_ne _ _ (by omega), f.1 107 (by omega) (by omega), show (u2 K 105 6 0) 107 = K 107 from funext fun k => u2_ne _ _ (by omega)]
        exact hK 107 (by omega) (by omega))
      refine ⟨L, f, hI', hRP, ?_⟩
      have e24 := r164_24 (S := S) (J := u2 L 105 4 0) (d := 19) hS hg hN hI' (some (.int (sj (-1))))
      have q1 : (u2 L 105 4 0) 107 1 = v 0 1 := hRP.1 1 (by omega)
      rw [rr, g105_ob hS, ey, sk_ci_some, g105_u4b hS, if_pos (ky_eq rfl)]
      refine e24.trans ?_
      rw [sk_e164_24, g105_i6b hS, hI'.1, if_pos (ky_ge (by omega) (by omega) (by omega) (by omega) (by omega)), g105_r1b hS, g107_ab hS (by omega) (by omega), z1, q1, hTT, sj_add]
    by_cases h10 : v 0 1 + T ≤ 10
    rotate_left
    · rw [if_neg (kn_le (by omega) (by omega) (by omega) (by omega) (by omega))] at cc
      obtain ⟨L, f, -, -, ey⟩ := refc (u2 J 2 1 0) toK
      refine ⟨_, u2 J 2 1 0, u2 L 105 4 0, v, cc, ?_, plain _ L rfl f⟩
      rw [ey, if_neg (kn_le (by omega) (by omega) (by omega) (by omega) (by omega))]
    rw [if_pos (ky_le (by omega) (by omega) (by omega) (by omega) (by omega))] at cc
    have eK : EI (u2 J 2 1 0) = EI J := funext fun q => funext fun f => u2_ne _ _ (by omega)
    have hEg : ∀ j, j < N → ∀ q : Nat, TT g j ≤ q → (q : Int) < TT g (j + 1) → ∀ f, f < 4 → EI J q f = g j f := fun j hj q h1 h2 f hf => by
      have := TT_mono hg (j := j + 1) (k := N) (by omega) (Nat.le_refl _)
      exact hL j hj q (by omega) h1 h2 f hf
    have hE : OKE v (EI J) T := by
      -- each of the T lies under one of the N
      have fnd : ∀ M, M ≤ N → ∀ q : Nat, (q : Int) < TT g M → ∃ j, j < M ∧ TT g j ≤ q ∧ (q : Int) < TT g (j + 1) := by
        intro M
        induction M with
        | zero => intro _ q hq; exact absurd hq (by show ¬ (q : Int) < 0; omega)
        | succ M ih =>
          intro hM q hq
          by_cases c : (q : Int) < TT g M
          · obtain ⟨j, a, b, c⟩ := ih (by omega) q c
            exact ⟨j, by omega, b, c⟩
          · exact ⟨M, by omega, by omega, hq⟩
      intro q hq
      obtain ⟨j, j1, j2, j3⟩ := fnd N (Nat.le_refl _) q (by omega)
      have h := hEg j j1 q j2 j3
      have gj := hg j j1
      rw [h 0 (by omega), h 1 (by omega), h 2 (by omega), h 3 (by omega)]
      omega
    obtain ⟨K, ek, k1, k2⟩ := c104 (S := S) (J := u2 J 2 1 0) (d := 19) (by omega) hS ((vC_fr (fun b b1 b2 => (funext fun k => u2_ne _ _ (by omega)).trans (cJ b (by omega) (by omega)))).trans hv) hT (T := T) (by rw [eK]; exact hE) h10 (fun q hq j j1 j2 => by rw [u2_ne _ _ (by omega), cJ5 q hq j j1]; exact t5 q hq j j1 j2)
    rw [ek] at cc
    rw [eK] at k1
    obtain ⟨L, f, hI, hRP, ey⟩ := refc K (fun b h1 h2 => (k2 b (by omega)).trans (toK b h1 h2))
    obtain ⟨M, em, m1, m2⟩ := r164_69 (S := S) (J := u2 L 105 4 0) (d := 19) hS hT hRP hg hTT hE h10 hEg hN hI (some (.int (sj (-1)))) (some (.int (sj (T : Int)))) none none
    refine ⟨_, K, M, adN v (EI J) T, cc, ?_, ?_⟩
    · rw [ey, if_pos (ky_le (by omega) (by omega) (by omega) (by omega) (by omega))]
      exact em
    have fM : ∀ b, b ≠ 2 → b ≠ 105 → b ≠ 107 → b ≠ 111 → M b = K b := fun b h1 h2 h3 h4 => by
      rw [m2 b h3, show (u2 L 105 4 0) b = L b from funext fun k => u2_ne _ _ (by omega), f.1 b h2 h4]
      exact funext fun k => u2_ne _ _ (by omega)
    refine GI_TP hG0 (fun b h1 h2 h3 h4 h5 => ?_) ?_ ?_ ?_ (fun k hk j j1 j2 => ?_) ?_ (VT_adN hT hE h10 T (Nat.le_refl _)) m1 (by rw [(adN_0 v (EI J) T).1]; omega)
    · rw [fM b h1 h3 h4 h5, k2 b (by omega)]
      exact toK b h1 h2
    · rw [m2 105 (by omega), u2_ne _ _ (by omega), f.2 2 (by omega), u2_ne _ _ (by omega), k2 105 (by omega), toK 105 (by omega) (by omega)]
    · rw [m2 2 (by omega), u2_ne _ _ (by omega), f.1 2 (by omega) (by omega), u2_ne _ _ (by omega), k2 2 (by omega), u2_eq]
    · rw [m2 105 (by omega), u2_eq]
    · rw [fM (5 + k) (by omega) (by omega) (by omega) (by omega), k2 (5 + k) (by omega), u2_ne _ _ (by omega), cJ5 k hk j j1]
      exact t5 k hk j j1 j2
    · exact (vC_fr (fun b b1 b2 => fM b (by omega) (by omega) (by omega) (by omega))).trans k1
end FPA
