/-! ===== stages, the reference: cuts, alone ===== -/
section ALO
variable {S : List sk_Sh} {I v : sk_H}
theorem LR_fr {K K' w : sk_H} (h : LR K w) (e : K' 115 = K 115) : LR K' w := by
  unfold LR
  rw [e]
  exact h
theorem RLq_fr {K K' w : sk_H} {lab : Nat → Int} (h : RLq K w lab) (e : K' 115 = K 115) : RLq K' w lab := by
  unfold RLq
  rw [e]
  exact h
def gdR (w : sk_H) (A : Nat → Int) (p j : Nat) : Prop := lyB w j = true ∧ A j = A p
theorem r208_36 {d : Nat} (hd : 5 ≤ d) (hS : sk_G S) (hR : RP I 107 v) (hV : VO v) (hL : LR I v) {lab : Nat → Int} (hA : RLq I v lab) {a : Nat} (ha : a < 2) {p : Nat} (hp : (p : Int) < v 0 1) (lp : lyB v p = true) : ∀ m j, j + m = p → (∀ k, k < j → ¬ gdR v (fun q => ctL (layN v) (loW v a) (hiW v a) lab (lyC v q)) p k) → ∃ j' : Nat, sk_D208 d 36 [some (.ref 105), some (.int (sj (a : Int))), some (.int (sj (p : Int))), some (.int (sj (j : Int)))] [] (sk_mk S I) = sk_D208 d 84 [some (.ref 105), some (.int (sj (a : Int))), some (.int (sj (p : Int))), some (.int (sj (j' : Int)))] [] (sk_mk S I) ∧ j' ≤ p ∧ (j' < p → gdR v (fun q => ctL (layN v) (loW v a) (hiW v a) lab (lyC v q)) p j') ∧ (j' = p → ∀ k, k < p → ¬ gdR v (fun q => ctL (layN v) (loW v a) (hiW v a) lab (lyC v q)) p k) := by
  have n4 := hV.1.2.2.2.1
  intro m
  induction m with
  | zero =>
    intro j hj h
    refine ⟨j, ?_, by omega, fun e => by omega, fun _ k hk => h k (by omega)⟩
    rw [sk_e208_36, if_pos (ky_ge (by omega) (by omega) (by omega) (by omega) (by omega))]
  | succ m ih =>
    intro j hj h
    have hj2 : (j : Int) < v 0 1 := by omega
    have t2 : (j : Int) + 1 = ((j + 1 : Nat) : Int) := rfl
    have t77 : (77 + (j : Int)).toNat = 77 + j := by omega
    have r5 := (hR.2.1 j hj2).2.2.2.2.1
    obtain ⟨q1, q2, q3, q4, q5, q6, q7, q8, q9, q10, -⟩ := vo_p hV hj2
    have lj := hL j hj2
    have lpr := hL p hp
    have nx := fun (hh : ¬ gdR v (fun q => ctL (layN v) (loW v a) (hiW v a) lab (lyC v q)) p j) => ih (j + 1) (by omega) (fun k hk => by
      by_cases f : k = j
      · rw [f]; exact hh
      · exact h k (by omega))
    rw [sk_e208_36, if_neg (kn_ge (by omega) (by omega) (by omega) (by omega) (by omega)), g105_r1b hS, sj_add, g107_ab hS (by omega) (by omega), t77, r5]
    by_cases c : v 5 j = 0
    · rw [if_pos (ky_eq c), sj_add, t2]
      exact nx (fun hh => absurd c (of_decide_eq_true hh.1))
    have hl : lyB v j = true := decide_eq_true c
    have tg := ctL_tg (L := layN v) (lo := loW v a) (hi := hiW v a) (lab := lab) (fun k hk => ⟨(lh_rng hV a k hk).1, (lh_rng hV a k hk).2.1⟩) (i := lyC v p) (j := lyC v j) (lyC_lt v (by omega) lp) (lyC_lt v (by omega) hl)
    rw [if_neg (kn_eq (by omega) (by omega) (by omega) (by omega) c), g105_r14b hS, g115_ab hS (by omega) (by omega), Int.toNat_natCast, g105_r14b hS, g115_ab hS (by omega) (by omega), Int.toNat_natCast]
    by_cases c1 : I 115 j = I 115 p
    rotate_left
    · rw [if_pos (ky_ne (by omega) (by omega) (by omega) (by omega) c1), sj_add, t2]
      exact nx (fun hh => c1 ((hA j p hj2 hp hl lp).mpr (tg.mp hh.2.symm).1.symm))
    have el : lab (lyC v p) = lab (lyC v j) := ((hA j p hj2 hp hl lp).mp c1).symm
    obtain ⟨b, e, hb⟩ := m207 (d := d) (by omega) hS hR hV hL ha hp hj2 lp hl
    have hb2 := hb.trans (pa_pt hA hp hj2 lp hl)
    rw [if_neg (kn_ne c1), g105_ob hS, e, sk_ci_some]
    cases b with
    | false =>
      rw [if_pos cf_beq]
      refine ⟨j, rfl, by omega, fun _ => ⟨hl, (tg.mpr ⟨el, fun hh => by cases hb2.mpr hh⟩).symm⟩, fun e => by omega⟩
    | true =>
      rw [if_neg ct_beq, sj_add, t2]
      exact nx (fun hh => (tg.mp hh.2.symm).2 (hb2.mp rfl))
theorem m208 {d : Nat} (hd : 6 ≤ d) (hS : sk_G S) (hR : RP I 107 v) (hV : VO v) (hL : LR I v) {lab : Nat → Int} (hA : RLq I v lab) {a : Nat} (ha : a < 2) : ∃ J, sk_c d 208 [.ref 105, .int (sj (a : Int))] (sk_mk S I) = some (none, sk_mk S J) ∧ RLq J v (ctL (layN v) (loW v a) (hiW v a) lab) ∧ LR J v ∧ ∀ c, c ≠ 115 → c ≠ 116 → J c = I c := by
  have n3 := hV.1.2.2.1
  have n4 := hV.1.2.2.2.1
  have z1 : (1 : Int).toNat = 1 := rfl
  have c0 : I 107 1 = v 0 1 := hR.1 1 (by omega)
  obtain ⟨N, hN⟩ : ∃ N : Nat, v 0 1 = N := ⟨(v 0 1).toNat, by omega⟩
  obtain ⟨d, rfl⟩ : ∃ e, d = e + 1 := ⟨d - 1, by omega⟩; rw [sk_e208]
  have key := lp_run (fun p (X : Option sk_R) => ∃ (J : sk_H) (o3 : Option Value), X = sk_D208 d 2 [some (.ref 105), some (.int (sj (a : Int))), some (.int (sj (p : Int))), o3] [] (sk_mk S J) ∧ (∀ q : Nat, q < p → 0 ≤ J 116 q ∧ J 116 q ≤ q) ∧ (∀ q r : Nat, q < p → r < p → lyB v q = true → lyB v r = true → (J 116 q = J 116 r ↔ ctL (layN v) (loW v a) (hiW v a) lab (lyC v q) = ctL (layN v) (loW v a) (hiW v a) lab (lyC v r))) ∧ ∀ c, c ≠ 116 → J c = I c) N (fun p X hp hX => by
    obtain ⟨J, o3, rfl, j1, j2, j3⟩ := hX
    have hp2 : (p : Int) < v 0 1 := by omega
    have t2 : (p : Int) + 1 = ((p + 1 : Nat) : Int) := rfl
    have t77 : (77 + (p : Int)).toNat = 77 + p := by omega
    have r5 := (hR.2.1 p hp2).2.2.2.2.1
    obtain ⟨q1, q2, q3, q4, q5, q6, q7, q8, q9, q10, -⟩ := vo_p hV hp2
    have e107 : J 107 = I 107 := j3 107 (by omega)
    have u107 : ∀ x, (u2 J 116 p x) 107 = I 107 := fun x => (funext fun k => u2_ne _ _ (by omega)).trans e107
    rw [sk_e208_2, g105_r1b hS, g107_ab hS (by omega) (by omega), z1, e107, c0, if_neg (kn_ge (by omega) (by omega) (by omega) (by omega) (by omega)), g105_r15b hS, g116_sb hS (by omega) (by omega), Int.toNat_natCast, g105_r1b hS, sj_add, g107_ab hS (by omega) (by omega), t77, u107, r5]
    by_cases c : v 5 p = 0
    · rw [if_neg (kn_ne c), sj_add, t2]
      have hb : lyB v p = false := decide_eq_false (fun h => h c)
      refine ⟨_, _, rfl, fun q hq => ?_, fun q r hq hr lq lr => ?_, fun c hc => (funext fun k => u2_ne _ _ (by omega)).trans (j3 c hc)⟩
      · by_cases f : q = p
        · rw [f, u2_eq]; omega
        · rw [u2_ne _ _ (by omega)]; exact j1 q (by omega)
      · have f1 : q ≠ p := fun f => by rw [f, hb] at lq; cases lq
        have f2 : r ≠ p := fun f => by rw [f, hb] at lr; cases lr
        rw [u2_ne _ _ (by omega), u2_ne _ _ (by omega)]
        exact j2 q r (by omega) (by omega) lq lr
    have lp : lyB v p = true := decide_eq_true c
    have e115 : (u2 J 116 p (p : Int)) 115 = I 115 := (funext fun k => u2_ne _ _ (by omega)).trans (j3 115 (by omega))
    obtain ⟨j, e, jp, g1, g2⟩ := r208_36 (I := u2 J 116 p (p : Int)) (d := d) (by omega) hS (hR.fr (u107 _)) hV (LR_fr hL e115) (RLq_fr hA e115) ha hp2 lp p 0 (by omega) (fun k hk => by omega)
    have e : sk_D208 d 36 [some (.ref 105), some (.int (sj (a : Int))), some (.int (sj (p : Int))), some (.int (sj 0))] [] (sk_mk S (u2 J 116 p (p : Int))) = _ := e
    rw [if_pos (ky_ne (by omega) (by omega) (by omega) (by omega) c), e, sk_e208_84, g105_r15b hS]
    by_cases cj : j = p
    · have hno := g2 cj
      rw [if_pos (ky_ge (by omega) (by omega) (by omega) (by omega) (by omega)), g116_sb hS (by omega) (by omega), Int.toNat_natCast, sj_add, t2]
      have vp : ∀ q, (u2 (u2 J 116 p (p : Int)) 116 p (p : Int)) 116 q = if q = p then (p : Int) else J 116 q := fun q => by
        by_cases f : q = p
        · rw [f, u2_eq, if_pos rfl]
        · rw [u2_ne _ _ (by omega), u2_ne _ _ (by omega), if_neg f]
      refine ⟨_, _, rfl, fun q hq => ?_, fun q r hq hr lq lr => ?_, fun c hc => (funext fun k => by rw [u2_ne _ _ (by omega), u2_ne _ _ (by omega)]).trans (j3 c hc)⟩
      · rw [vp]
        split
        · omega
        · exact j1 q (by omega)
      · rw [vp, vp]
        by_cases f1 : q = p
        · by_cases f2 : r = p
          · rw [if_pos f1, if_pos f2, f1, f2]; exact ⟨fun _ => rfl, fun _ => rfl⟩
          · rw [if_pos f1, if_neg f2, f1]
            have := j1 r (by omega)
            exact ⟨fun h => by omega, fun h => absurd ⟨lr, h.symm⟩ (hno r (by omega))⟩
        · by_cases f2 : r = p
          · rw [if_neg f1, if_pos f2, f2]
            have := j1 q (by omega)
            exact ⟨fun h => by omega, fun h => absurd ⟨lq, h⟩ (hno q (by omega))⟩
          · rw [if_neg f1, if_neg f2]; exact j2 q r (by omega) (by omega) lq lr
    · obtain ⟨lj, aj⟩ := g1 (by omega)
      have aj : ctL (layN v) (loW v a) (hiW v a) lab (lyC v j) = ctL (layN v) (loW v a) (hiW v a) lab (lyC v p) := aj
      rw [if_neg (kn_ge (by omega) (by omega) (by omega) (by omega) (by omega)), g105_r15b hS, g116_ab hS (by omega) (by omega), Int.toNat_natCast, g116_sb hS (by omega) (by omega), Int.toNat_natCast, sj_add, t2]
      have ej : (u2 J 116 p (p : Int)) 116 j = J 116 j := u2_ne _ _ (by omega)
      rw [ej]
      have vp : ∀ q, (u2 (u2 J 116 p (p : Int)) 116 p (J 116 j)) 116 q = if q = p then J 116 j else J 116 q := fun q => by
        by_cases f : q = p
        · rw [f, u2_eq, if_pos rfl]
        · rw [u2_ne _ _ (by omega), u2_ne _ _ (by omega), if_neg f]
      refine ⟨_, _, rfl, fun q hq => ?_, fun q r hq hr lq lr => ?_, fun c hc => (funext fun k => by rw [u2_ne _ _ (by omega), u2_ne _ _ (by omega)]).trans (j3 c hc)⟩
      · rw [vp]
        split
        · have := j1 j (by omega); omega
        · exact j1 q (by omega)
      · rw [vp, vp]
        by_cases f1 : q = p
        · by_cases f2 : r = p
          · rw [if_pos f1, if_pos f2, f1, f2]; exact ⟨fun _ => rfl, fun _ => rfl⟩
          · rw [if_pos f1, if_neg f2, f1, ← aj]
            exact j2 j r (by omega) (by omega) lj lr
        · by_cases f2 : r = p
          · rw [if_neg f1, if_pos f2, f2, ← aj]
            exact j2 q j (by omega) (by omega) lq lj
          · rw [if_neg f1, if_neg f2]; exact j2 q r (by omega) (by omega) lq lr) ⟨I, none, rfl, fun q hq => absurd hq (by omega), fun q r hq => absurd hq (by omega), fun _ _ => rfl⟩
  obtain ⟨J, o3, e, j1, j2, j3⟩ := key
  have e107 : J 107 = I 107 := j3 107 (by omega)
  have s115 : S[115]? = some (.inl 10) := (hS 114 (by omega)).trans rfl
  have s116 : S[116]? = some (.inl 10) := (hS 115 (by omega)).trans rfl
  have cp : sk_copy (sk_mk S J) 116 (sj 0) 115 (sj 0) (sj 10) = some (sk_mk S (cpy2 J 116 0 115 0 10)) := mk_copy (S := S) (I := J) (a0 := 116) (a := 115) (n0 := 10) (n1 := 10) (sp := 0) (dp := 0) (n := 10) s116 s115 (by omega) (by omega) (by omega) (by omega) (by omega) (by omega) (by omega) (by omega) (by omega)
  refine ⟨cpy2 J 116 0 115 0 10, e.trans ?_, fun p q hp hq lp lq => ?_, fun p hp => ?_, fun c h1 h2 => (cpy0_ne h1).trans (j3 c h2)⟩
  · rw [sk_e208_2, g105_r1b hS, g107_ab hS (by omega) (by omega), z1, e107, c0, if_pos (ky_ge (by omega) (by omega) (by omega) (by omega) (by omega)), g105_r15b hS, g105_r14b hS, cp]
    rfl
  · rw [cpy0_at (by omega), cpy0_at (by omega)]
    exact j2 p q (by omega) (by omega) lp lq
  · rw [cpy0_at (by omega)]
    have := j1 p (by omega)
    omega
theorem m209 {d : Nat} (hd : 1 ≤ d) (hS : sk_G S) (hR : RP I 107 v) (hV : VO v) (hL : LR I v) {lab : Nat → Int} (hA : RLq I v lab) (hC : CNL (layN v) lab) : ∃ b, sk_c d 209 [.ref 105] (sk_mk S I) = some (some (.int (sj (bi b))), sk_mk S I) ∧ (b = true ↔ nbL (layN v) lab = layN v) := by
  have n3 := hV.1.2.2.1
  have n4 := hV.1.2.2.2.1
  have z1 : (1 : Int).toNat = 1 := rfl
  have c0 : I 107 1 = v 0 1 := hR.1 1 (by omega)
  obtain ⟨N, hN⟩ : ∃ N : Nat, v 0 1 = N := ⟨(v 0 1).toNat, by omega⟩
  have all : nbL (layN v) lab = layN v ↔ ∀ i j : Nat, j < i → i < N → lyB v i = true → lyB v j = true → I 115 i ≠ I 115 j := by
    rw [nb_all hC]
    constructor
    · intro h i j ji hi li lj e
      have := lyC_inj v li lj (h _ _ (lyC_lt v (by omega) li) (lyC_lt v (by omega) lj) ((hA i j (by omega) (by omega) li lj).mp e))
      omega
    · intro h i j hi hj e
      obtain ⟨p, p1, p2, rfl⟩ := lyC_sur v _ i hi
      obtain ⟨q, q1, q2, rfl⟩ := lyC_sur v _ j hj
      have e2 := (hA p q (by omega) (by omega) p2 q2).mpr e
      have : p = q := by
        by_cases c : p < q
        · exact absurd e2.symm (h q p c (by omega) q2 p2)
        · by_cases c2 : q < p
          · exact absurd e2 (h p q c2 (by omega) p2 q2)
          · omega
      rw [this]
  obtain ⟨d, rfl⟩ : ∃ e, d = e + 1 := ⟨d - 1, by omega⟩; rw [sk_e209]
  have key : ∀ m i, i + m = N → (∀ i' j : Nat, j < i' → i' < i → lyB v i' = true → lyB v j = true → I 115 i' ≠ I 115 j) → ∀ o2, ∃ b, sk_D209 d 2 [some (.ref 105), some (.int (sj (i : Int))), o2] [] (sk_mk S I) = some (some (.int (sj (bi b))), sk_mk S I) ∧ (b = true ↔ nbL (layN v) lab = layN v) := by
    intro m
    induction m with
    | zero =>
      intro i hi h o2
      refine ⟨true, ?_, fun _ => all.mpr (fun i' j h1 h2 => h i' j h1 (by omega)), fun _ => rfl⟩
      rw [sk_e209_2, g105_r1b hS, g107_ab hS (by omega) (by omega), z1, c0, if_pos (ky_ge (by omega) (by omega) (by omega) (by omega) (by omega))]
      rfl
    | succ m ih =>
      intro i hi h o2
      have hi2 : (i : Int) < v 0 1 := by omega
      have t2 : (i : Int) + 1 = ((i + 1 : Nat) : Int) := rfl
      have t77 : (77 + (i : Int)).toNat = 77 + i := by omega
      have r5 := (hR.2.1 i hi2).2.2.2.2.1
      obtain ⟨q1, q2, q3, q4, q5, q6, q7, q8, q9, q10, -⟩ := vo_p hV hi2
      have li := hL i hi2
      have inn : ∀ m' j, j + m' = i → (∀ j' : Nat, j' < j → lyB v i = true → lyB v j' = true → I 115 i ≠ I 115 j') → ∃ b, sk_D209 d 14 [some (.ref 105), some (.int (sj (i : Int))), some (.int (sj (j : Int)))] [] (sk_mk S I) = some (some (.int (sj (bi b))), sk_mk S I) ∧ (b = true ↔ nbL (layN v) lab = layN v) := by
        intro m'
        induction m' with
        | zero =>
          intro j hj g
          rw [sk_e209_14, if_pos (ky_ge (by omega) (by omega) (by omega) (by omega) (by omega)), sj_add, t2]
          refine ih (i + 1) (by omega) (fun i' j' h1 h2 l1 l2 => ?_) _
          by_cases f : i' = i
          · subst f; exact g j' (by omega) l1 l2
          · exact h i' j' h1 (by omega) l1 l2
        | succ m' ih' =>
          intro j hj g
          have hj2 : (j : Int) < v 0 1 := by omega
          have t2' : (j : Int) + 1 = ((j + 1 : Nat) : Int) := rfl
          have t77' : (77 + (j : Int)).toNat = 77 + j := by omega
          have r5' := (hR.2.1 j hj2).2.2.2.2.1
          obtain ⟨q1', q2', q3', q4', q5', q6', q7', q8', q9', q10', -⟩ := vo_p hV hj2
          have lj := hL j hj2
          have nx := fun (hh : lyB v i = true → lyB v j = true → I 115 i ≠ I 115 j) => ih' (j + 1) (by omega) (fun k hk => by
            by_cases f : k = j
            · rw [f]; exact hh
            · exact g k (by omega))
          rw [sk_e209_14, if_neg (kn_ge (by omega) (by omega) (by omega) (by omega) (by omega)), g105_r1b hS, sj_add, g107_ab hS (by omega) (by omega), t77, r5]
          by_cases c1 : v 5 i = 0
          · rw [if_pos (ky_eq c1), sj_add, t2']
            exact nx (fun hh => absurd c1 (of_decide_eq_true hh))
          rw [if_neg (kn_eq (by omega) (by omega) (by omega) (by omega) c1), g105_r1b hS, sj_add, g107_ab hS (by omega) (by omega), t77', r5']
          by_cases c2 : v 5 j = 0
          · rw [if_pos (ky_eq c2), sj_add, t2']
            exact nx (fun _ hh => absurd c2 (of_decide_eq_true hh))
          rw [if_neg (kn_eq (by omega) (by omega) (by omega) (by omega) c2), g105_r14b hS, g115_ab hS (by omega) (by omega), Int.toNat_natCast, g105_r14b hS, g115_ab hS (by omega) (by omega), Int.toNat_natCast]
          by_cases c3 : I 115 i = I 115 j
          · rw [if_neg (kn_ne c3)]
            exact ⟨false, rfl, fun e => (by cases e), fun e => absurd c3 (all.mp e i j (by omega) (by omega) (decide_eq_true c1) (decide_eq_true c2))⟩
          · rw [if_pos (ky_ne (by omega) (by omega) (by omega) (by omega) c3), sj_add, t2']
            exact nx (fun _ _ => c3)
      rw [sk_e209_2, g105_r1b hS, g107_ab hS (by omega) (by omega), z1, c0, if_neg (kn_ge (by omega) (by omega) (by omega) (by omega) (by omega))]
      exact inn i 0 (by omega) (fun j' hj' => absurd hj' (by omega))
  exact key N 0 (by omega) (fun i' j h1 h2 => absurd h2 (by omega)) none
end ALO
