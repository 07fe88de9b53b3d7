/-! ===== layouts, the reference ===== -/
section LYR
variable {S : List sk_Sh} {I v : sk_H}
def rwR (K : sk_H) (r : Nat) : Nat → Int := fun k => K 113 (10 * r + k)
theorem rwR_u (K : sk_H) (r q : Nat) (x : Int) : rwR (u2 K 113 (10 * r + q) x) r = fn1 (rwR K r) q x := by
  funext k
  unfold rwR fn1
  by_cases c : k = q
  · rw [if_pos c, c, u2_eq]
  · rw [if_neg c, u2_ne _ _ (by omega)]
theorem r201_117 {d : Nat} (hS : sk_G S) {r : Nat} (hr : r ≤ 121) {c : Nat} (hc : c < 10) {code : Int} (o2 o3 o4 o5 : Int) : ∀ (q : Nat) (K : sk_H) (g : Nat → Int), q ≤ c → fn1 (rwR K r) q code = g → (∀ k, k < c + 1 → 0 ≤ g k ∧ g k ≤ 20000000) → ∃ K' o7, sk_D201 d 117 [some (.ref 105), some (.int (sj (r : Int))), some (.int (sj o2)), some (.int (sj o3)), some (.int (sj o4)), some (.int (sj o5)), some (.int (sj code)), some (.int (sj (q : Int)))] [] (sk_mk S K) = sk_D201 d 5 [some (.ref 105), some (.int (sj (r : Int))), some (.int (sj o2)), some (.int (sj (o3 + 1))), some (.int (sj (o4 + 1))), some (.int (sj o5)), some (.int (sj code)), o7] [] (sk_mk S K') ∧ rwR K' r = in1 q g ∧ (∀ b, b ≠ 113 → K' b = K b) ∧ ∀ j, ¬ (10 * r ≤ j ∧ j < 10 * r + 10) → K' 113 j = K 113 j := by
  intro q
  induction q with
  | zero =>
    intro K g hq hg hr2
    have t0 : (10 * (r : Int) + ((0 : Nat) : Int)).toNat = 10 * r + 0 := by omega
    refine ⟨u2 K 113 (10 * r + 0) code, some (.int (sj ((0 : Nat) : Int))), ?_, (rwR_u K r 0 code).trans hg, fun b hb => funext fun j => u2_ne _ _ (by omega), fun j hj => u2_ne _ _ (by omega)⟩
    rw [sk_e201_117, if_pos (ky_le (by omega) (by omega) (by omega) (by omega) (by omega)), g105_r12b hS, sj_mul, sj_add, g113_sb hS (by omega) (by omega), t0, sj_add, sj_add]
  | succ q ih =>
    intro K g hq hg hr2
    have t1 : (10 * (r : Int) + ((q + 1 : Nat) : Int)).toNat = 10 * r + (q + 1) := by omega
    have t0 : (10 * (r : Int) + ((q + 1 : Nat) : Int) - 1).toNat = 10 * r + q := by omega
    have gx : g (q + 1) = code := by rw [← hg]; exact if_pos rfl
    have gy : g q = K 113 (10 * r + q) := by rw [← hg]; exact if_neg (by omega)
    have r1 := hr2 q (by omega)
    have r2 := hr2 (q + 1) (by omega)
    rw [sk_e201_117, if_neg (kn_le (by omega) (by omega) (by omega) (by omega) (by omega)), g105_r12b hS, sj_mul, sj_add, sj_sub, g113_ab hS (by omega) (by omega), t0, ← gy]
    unfold in1
    by_cases c2 : g q ≤ g (q + 1)
    · refine ⟨u2 K 113 (10 * r + (q + 1)) code, some (.int (sj ((q + 1 : Nat) : Int))), ?_, ?_, fun b hb => funext fun j => u2_ne _ _ (by omega), fun j hj => u2_ne _ _ (by omega)⟩
      · rw [if_pos (ky_le (by omega) (by omega) (by omega) (by omega) (by omega)), g105_r12b hS, g113_sb hS (by omega) (by omega), t1, sj_add, sj_add]
      · rw [if_pos c2, rwR_u]; exact hg
    · have hg2 : fn1 (rwR (u2 K 113 (10 * r + (q + 1)) (g q)) r) q code = exF g (q + 1) q := by
        funext k
        rw [rwR_u]
        unfold fn1 exF
        by_cases q1 : k = q
        · rw [if_pos q1, if_pos q1, gx]
        · rw [if_neg q1, if_neg q1]
          by_cases q2 : k = q + 1
          · rw [if_pos q2, if_pos q2]
          · rw [if_neg q2, if_neg q2, ← hg]
            exact (if_neg q2).symm
      obtain ⟨K', o7, e, k1, k2, k3⟩ := ih (u2 K 113 (10 * r + (q + 1)) (g q)) (exF g (q + 1) q) (by omega) hg2 (exF_P (P := fun y => 0 ≤ y ∧ y ≤ 20000000) hr2 (by omega) (by omega))
      refine ⟨K', o7, ?_, ?_, fun b hb => (k2 b hb).trans (funext fun j => u2_ne _ _ (by omega)), fun j hj => (k3 j hj).trans (u2_ne _ _ (by omega))⟩
      · rw [if_neg (kn_le (by omega) (by omega) (by omega) (by omega) (by omega)), g105_r12b hS, g105_r12b hS, g113_ab hS (by omega) (by omega), t0, ← gy, g113_sb hS (by omega) (by omega), t1, sj_add, show ((q + 1 : Nat) : Int) + -1 = (q : Int) by omega]
        exact e
      · rw [if_neg c2]; exact k1
/-- the two ways a row is written -/
def rdF (W : Int) (o : Int) (c : Int) : Int := if o = 0 then RI c else RI (MI W c)
theorem RI_rng {W c : Int} (h : okC W c) (hW : W ≤ 20) : 0 ≤ RI c ∧ RI c ≤ 20000000 := by
  obtain ⟨h1, h2, h3⟩ := h
  unfold RI
  omega
theorem rdF_rng {W o c : Int} (h : okC W c) (hW : W ≤ 20) : 0 ≤ rdF W o c ∧ rdF W o c ≤ 20000000 := by
  unfold rdF
  split
  · exact RI_rng h hW
  · exact RI_rng (MI_ok h hW).1 hW
theorem m201 {d : Nat} (hd : 3 ≤ d) (hS : sk_G S) {K w : sk_H} (hR : RP K 107 w) (hV : VO w) {r : Nat} (hr : r ≤ 121) {o : Int} (ho : o = 0 ∨ o = 1) : ∃ K', sk_c d 201 [.ref 105, .int (sj (r : Int)), .int (sj o)] (sk_mk S K) = some (some (.int (sj (layN w : Int))), sk_mk S K') ∧ EQ (layN w) (rwR K' r) (srF (layN w) (fun k => rdF (w 0 0) o (layA w k))) ∧ (∀ b, b ≠ 113 → K' b = K b) ∧ ∀ j, ¬ (10 * r ≤ j ∧ j < 10 * r + 10) → K' 113 j = K 113 j := by
  have hn : VN w := hV.1
  obtain ⟨n1, n2, n3, n4, n5, n6, n7, n8, n9, n10, n11, n12⟩ := hn
  obtain ⟨d, rfl⟩ : ∃ e, d = e + 1 := ⟨d - 1, by omega⟩; rw [sk_e201]
  have z0 : (0 : Int).toNat = 0 := rfl
  have z1 : (1 : Int).toNat = 1 := rfl
  have key := lp_run (fun p (X : Option sk_R) => ∃ J o5 o6 o7, X = sk_D201 d 5 [some (.ref 105), some (.int (sj (r : Int))), some (.int (sj o)), some (.int (sj (lyC w p : Int))), some (.int (sj (p : Int))), o5, o6, o7] [] (sk_mk S J) ∧ (∀ i j, i < j → j < lyC w p → rwR J r i ≤ rwR J r j) ∧ (∀ P, cntP (lyC w p) (rwR J r) P = cntP (lyC w p) (fun k => rdF (w 0 0) o (layL w p k)) P) ∧ (∀ k, k < lyC w p → 0 ≤ rwR J r k ∧ rwR J r k ≤ 20000000) ∧ (∀ b, b ≠ 113 → J b = K b) ∧ ∀ j, ¬ (10 * r ≤ j ∧ j < 10 * r + 10) → J 113 j = K 113 j) (w 0 1).toNat (fun p X hp hX => by
    obtain ⟨J, o5, o6, o7, rfl, j1, j2, j3, j4, j5⟩ := hX
    have hp2 : (p : Int) < w 0 1 := by omega
    have t2 : (p : Int) + 1 = ((p + 1 : Nat) : Int) := rfl
    have lc := lyC_le w p
    have hJ : RP J 107 w := hR.fr (j4 107 (by omega))
    have q1 : J 107 1 = w 0 1 := hJ.1 1 (by omega)
    have q77 : J 107 (77 + (p : Int)).toNat = w 5 p := by
      rw [show (77 + (p : Int)).toNat = 77 + p by omega]; exact (hJ.2.1 p hp2).2.2.2.2.1
    have h5 : 0 ≤ w 5 p ∧ w 5 p ≤ 3 := by obtain ⟨-, -, -, -, -, -, -, -, a, b, -⟩ := vo_p hV hp2; exact ⟨a, b⟩
    rw [sk_e201_5, g105_r1b hS, g107_ab hS (by omega) (by omega), z1, q1, if_neg (kn_ge (by omega) (by omega) (by omega) (by omega) (by omega)), g105_r1b hS, sj_add, g107_ab hS (by omega) (by omega), q77]
    by_cases c : w 5 p = 0
    · have cb : lyB w p = false := decide_eq_false (fun h => h c)
      have el : layL w (p + 1) = layL w p := by show (if lyB w p = true then fn1 (layL w p) (lyC w p) (cSq w p) else layL w p) = _; rw [if_neg (by rw [cb]; decide)]
      have ec : lyC w (p + 1) = lyC w p := by rw [lyC_s, cb]; rfl
      refine ⟨J, o5, o6, o7, ?_, ?_, ?_, ?_, j4, j5⟩
      · rw [if_neg (kn_ne c), sj_add, t2, ec]
      · rw [ec]; exact j1
      · rw [ec, el]; exact j2
      · rw [ec]; exact j3
    · have cb : lyB w p = true := decide_eq_true c
      obtain ⟨ok, -, eR, eM⟩ := cSq_ok hV hp2 c
      have rr := rdF_rng (o := o) ok n2
      have v5 := vo_p hV hp2
      obtain ⟨-, -, -, -, -, -, -, -, -, -, -, g3, -⟩ := v5
      obtain ⟨g1, g2, g4, g5, g6, g7⟩ := g3 c
      have q47 : J 107 (47 + (p : Int)).toNat = w 6 p := by
        rw [show (47 + (p : Int)).toNat = 47 + p by omega]; exact ((hJ.2.1 p hp2).2.2.2.2.2 c).1
      have q57 : J 107 (57 + (p : Int)).toNat = w 7 p := by
        rw [show (57 + (p : Int)).toNat = 57 + p by omega]; exact ((hJ.2.1 p hp2).2.2.2.2.2 c).2.1
      have q0 : J 107 0 = w 0 0 := hJ.1 0 (by omega)
      have e154 := m154 (S := S) (I := J) (d := d) (by omega) hS hJ hV hp2 c
      have e155 := m155 (S := S) (I := J) (d := d) (by omega) hS hJ hV hp2 c
      have g0 : ∀ k, k < lyC w p + 1 → 0 ≤ fn1 (rwR J r) (lyC w p) (rdF (w 0 0) o (cSq w p)) k ∧ fn1 (rwR J r) (lyC w p) (rdF (w 0 0) o (cSq w p)) k ≤ 20000000 := fun k hk => by
        unfold fn1
        by_cases e : k = lyC w p
        · rw [if_pos e]; exact rr
        · rw [if_neg e]; exact j3 k (by omega)
      have go : ∀ x : Int, (((x * 32 + w 15 p) * 32 + w 16 p) * 512 + w 7 p = rdF (w 0 0) o (cSq w p)) → ∃ K' p5 p6 p7, sk_D201 d 73 [some (.ref 105), some (.int (sj (r : Int))), some (.int (sj o)), some (.int (sj (lyC w p : Int))), some (.int (sj (p : Int))), o5, o6, o7] [.int (sj x)] (sk_mk S J) = sk_D201 d 5 [some (.ref 105), some (.int (sj (r : Int))), some (.int (sj o)), some (.int (sj (lyC w (p + 1) : Int))), some (.int (sj ((p + 1 : Nat) : Int))), p5, p6, p7] [] (sk_mk S K') ∧ rwR K' r = in1 (lyC w p) (fn1 (rwR J r) (lyC w p) (rdF (w 0 0) o (cSq w p))) ∧ (∀ b, b ≠ 113 → K' b = J b) ∧ ∀ j, ¬ (10 * r ≤ j ∧ j < 10 * r + 10) → K' 113 j = J 113 j := by
        intro x hx
        obtain ⟨K', p7, e, k1, k2, k3⟩ := r201_117 (S := S) (d := d) hS hr (c := lyC w p) (by omega) (code := rdF (w 0 0) o (cSq w p)) o (lyC w p : Int) (p : Int) x (lyC w p) J _ (Nat.le_refl _) rfl g0
        refine ⟨K', some (.int (sj x)), some (.int (sj (rdF (w 0 0) o (cSq w p)))), p7, ?_, k1, k2, k3⟩
        rw [sk_e201_73, g105_ob hS, e154, sk_ci_some, g105_ob hS, e155, sk_ci_some, g105_r1b hS, sj_add, g107_ab hS (by omega) (by omega), q57, sj_mul, sj_add, sj_mul, sj_add, sj_mul, sj_add, hx]
        refine e.trans ?_
        rw [lyC_s, if_pos cb, t2]
        rfl
      have fin : ∀ K' : sk_H, rwR K' r = in1 (lyC w p) (fn1 (rwR J r) (lyC w p) (rdF (w 0 0) o (cSq w p))) → (∀ i j, i < j → j < lyC w (p + 1) → rwR K' r i ≤ rwR K' r j) ∧ (∀ P, cntP (lyC w (p + 1)) (rwR K' r) P = cntP (lyC w (p + 1)) (fun k => rdF (w 0 0) o (layL w (p + 1) k)) P) ∧ ∀ k, k < lyC w (p + 1) → 0 ≤ rwR K' r k ∧ rwR K' r k ≤ 20000000 := by
        intro K' hk
        rw [hk, lyC_s, if_pos cb]
        refine ⟨in1_sr _ _ (fun i j a b => ?_), fun P => ?_, in1_P (P := fun y => 0 ≤ y ∧ y ≤ 20000000) _ _ g0 (by omega)⟩
        · unfold fn1
          rw [if_neg (by omega), if_neg (by omega)]
          exact j1 i j a b
        · rw [cntP_in1 P _ _ (by omega)]
          have e := j2 P
          have s1 : ∀ k, k < lyC w p → fn1 (rwR J r) (lyC w p) (rdF (w 0 0) o (cSq w p)) k = rwR J r k := fun k hk => if_neg (by omega)
          have s2 : EQ (lyC w p) (fun k => rdF (w 0 0) o (layL w (p + 1) k)) (fun k => rdF (w 0 0) o (layL w p k)) := fun k hk => by
            dsimp only
            congr 1
            show (if lyB w p = true then fn1 (layL w p) (lyC w p) (cSq w p) else layL w p) k = _
            rw [if_pos cb]
            exact if_neg (by omega)
          have s3 : (fun k => rdF (w 0 0) o (layL w (p + 1) k)) (lyC w p) = rdF (w 0 0) o (cSq w p) := by
            refine congrArg (rdF (w 0 0) o) ?_
            show (if lyB w p = true then fn1 (layL w p) (lyC w p) (cSq w p) else layL w p) (lyC w p) = _
            rw [if_pos cb]
            exact if_pos rfl
          have s4 : fn1 (rwR J r) (lyC w p) (rdF (w 0 0) o (cSq w p)) (lyC w p) = rdF (w 0 0) o (cSq w p) := if_pos rfl
          have e1 := cntP_congr s1 P
          have e2 := cntP_congr s2 P
          unfold cntP at e e1 e2 ⊢
          rw [cntTo_succ, cntTo_succ, s3, s4, e1, e2, e]
      rw [if_pos (ky_ne (by omega) (by omega) (by omega) (by omega) c)]
      rcases ho with ho | ho
      · subst ho
        obtain ⟨K', p5, p6, p7, e, k1, k2, k3⟩ := go (w 6 p) (by rw [show rdF (w 0 0) 0 (cSq w p) = RI (cSq w p) from if_pos rfl, eR])
        obtain ⟨x1, x2, x3⟩ := fin K' k1
        refine ⟨K', p5, p6, p7, ?_, x1, x2, x3, fun b hb => (k2 b hb).trans (j4 b hb), fun j hj => (k3 j hj).trans (j5 j hj)⟩
        rw [if_pos (by decide), g105_r1b hS, sj_add, g107_ab hS (by omega) (by omega), q47]
        exact e
      · subst ho
        obtain ⟨K', p5, p6, p7, e, k1, k2, k3⟩ := go (w 0 0 - w 6 p - w 15 p) (by rw [show rdF (w 0 0) 1 (cSq w p) = RI (MI (w 0 0) (cSq w p)) from if_neg (by decide), eM])
        obtain ⟨x1, x2, x3⟩ := fin K' k1
        refine ⟨K', p5, p6, p7, ?_, x1, x2, x3, fun b hb => (k2 b hb).trans (j4 b hb), fun j hj => (k3 j hj).trans (j5 j hj)⟩
        rw [if_neg (by decide), g105_r1b hS, g107_ab hS (by omega) (by omega), z0, q0, g105_r1b hS, sj_add, g107_ab hS (by omega) (by omega), q47, g105_ob hS, e154, sk_ci_some, sj_sub, sj_sub]
        exact e) ⟨K, none, none, none, rfl, fun i j _ h => absurd h (by have := lyC_le w 0; omega), fun P => by rw [show lyC w 0 = 0 from rfl]; rfl, fun k hk => absurd hk (by have := lyC_le w 0; omega), fun _ _ => rfl, fun _ _ => rfl⟩
  obtain ⟨J, o5, o6, o7, e, j1, j2, j3, j4, j5⟩ := key
  have q1 : J 107 1 = w 0 1 := by rw [j4 107 (by omega)]; exact hR.1 1 (by omega)
  refine ⟨J, e.trans ?_, SR_row j1 j2, j4, j5⟩
  rw [sk_e201_5, g105_r1b hS, g107_ab hS (by omega) (by omega), z1, q1, if_pos (ky_ge (by omega) (by omega) (by omega) (by omega) (by omega))]
  rfl
theorem m202 {d : Nat} (hd : 1 ≤ d) (hS : sk_G S) {K : sk_H} {L i j : Nat} (hL : L ≤ 10) (hi : i ≤ 121) (hj : j ≤ 121) {C D : Nat → Int} (hC : ∀ q, q < L → rwR K i q = C q ∧ 0 ≤ C q ∧ C q ≤ 20000000) (hD : ∀ q, q < L → rwR K j q = D q ∧ 0 ≤ D q ∧ D q ≤ 20000000) : sk_c d 202 [.ref 105, .int (sj (i : Int)), .int (sj (j : Int)), .int (sj (L : Int))] (sk_mk S K) = some (some (.int (sj (bi (decide (∀ q, q < L → C q = D q))))), sk_mk S K) := by
  obtain ⟨d, rfl⟩ : ∃ e, d = e + 1 := ⟨d - 1, by omega⟩; rw [sk_e202]
  have key : ∀ m q, q + m = L → (∀ r, r < q → C r = D r) → sk_D202 d 3 [some (.ref 105), some (.int (sj (i : Int))), some (.int (sj (j : Int))), some (.int (sj (L : Int))), some (.int (sj (q : Int)))] [] (sk_mk S K) = some (some (.int (sj (bi (decide (∀ q, q < L → C q = D q))))), sk_mk S K) := by
    intro m
    induction m with
    | zero =>
      intro q hq h
      rw [sk_e202_3, if_pos (ky_ge (by omega) (by omega) (by omega) (by omega) (by omega)), decide_eq_true (fun r hr => h r (by omega))]
      rfl
    | succ m ih =>
      intro q hq h
      have t2 : (q : Int) + 1 = ((q + 1 : Nat) : Int) := rfl
      obtain ⟨c1, c2, c3⟩ := hC q (by omega)
      obtain ⟨d1, d2, d3⟩ := hD q (by omega)
      have c1 : K 113 (10 * (i : Int) + q).toNat = C q := by rw [show (10 * (i : Int) + q).toNat = 10 * i + q by omega]; exact c1
      have d1 : K 113 (10 * (j : Int) + q).toNat = D q := by rw [show (10 * (j : Int) + q).toNat = 10 * j + q by omega]; exact d1
      rw [sk_e202_3, if_neg (kn_ge (by omega) (by omega) (by omega) (by omega) (by omega)), g105_r12b hS, sj_mul, sj_add, g113_ab hS (by omega) (by omega), c1, g105_r12b hS, sj_mul, sj_add, g113_ab hS (by omega) (by omega), d1]
      by_cases e : C q = D q
      · rw [if_pos (ky_eq e), sj_add, t2]
        refine ih (q + 1) (by omega) (fun r hr => ?_)
        by_cases f : r = q
        · rw [f]; exact e
        · exact h r (by omega)
      · rw [if_neg (kn_eq (by omega) (by omega) (by omega) (by omega) e), decide_eq_false (fun h => e (h q (by omega)))]
        rfl
  exact key L 0 (by omega) (fun r hr => absurd hr (by omega))
end LYR
