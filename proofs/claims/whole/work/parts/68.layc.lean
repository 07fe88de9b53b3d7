/-! ===== layouts, the class ===== -/
section LYC
variable {S : List sk_Sh} {I v : sk_H}
def cSq (w : sk_H) (p : Nat) : Int := ((w 7 p * 32 + w 6 p) * 32 + w 15 p) * 32 + w 16 p
def MI (W c : Int) : Int := ((c / 32768 * 32 + (W - c / 1024 % 32 - c / 32 % 32)) * 32 + c / 32 % 32) * 32 + c % 32
def RI (c : Int) : Int := ((c / 1024 % 32 * 32 + c / 32 % 32) * 32 + c % 32) * 512 + c / 32768
def RIi (r : Int) : Int := ((r % 512 * 32 + r / 524288) * 32 + r / 16384 % 32) * 32 + r / 512 % 32
def okC (W c : Int) : Prop := 0 ≤ c ∧ c / 32768 ≤ 300 ∧ c / 1024 % 32 + c / 32 % 32 ≤ W
theorem cS_dec {x y ww t : Int} (x1 : 0 ≤ x) (x2 : x < 32) (y1 : 0 ≤ y) (w1 : 0 ≤ ww) (w2 : ww < 32) (t1 : 0 ≤ t) (t2 : t < 32) : (((y * 32 + x) * 32 + ww) * 32 + t) % 32 = t ∧ (((y * 32 + x) * 32 + ww) * 32 + t) / 32 % 32 = ww ∧ (((y * 32 + x) * 32 + ww) * 32 + t) / 1024 % 32 = x ∧ (((y * 32 + x) * 32 + ww) * 32 + t) / 32768 = y := by omega
theorem c_dec (c : Int) : ((c / 32768 * 32 + c / 1024 % 32) * 32 + c / 32 % 32) * 32 + c % 32 = c := by
  have e1 : c / 1024 = c / 32 / 32 := by rw [Int.ediv_ediv_of_nonneg (by omega)]; rfl
  have e2 : c / 32768 = c / 32 / 32 / 32 := by rw [Int.ediv_ediv_of_nonneg (by omega), Int.ediv_ediv_of_nonneg (by omega)]; rfl
  rw [e1, e2]
  omega
theorem rS_dec {x y ww t : Int} (x1 : 0 ≤ x) (y1 : 0 ≤ y) (y2 : y < 512) (w1 : 0 ≤ ww) (w2 : ww < 32) (t1 : 0 ≤ t) (t2 : t < 32) : (((x * 32 + ww) * 32 + t) * 512 + y) % 512 = y ∧ (((x * 32 + ww) * 32 + t) * 512 + y) / 512 % 32 = t ∧ (((x * 32 + ww) * 32 + t) * 512 + y) / 16384 % 32 = ww ∧ (((x * 32 + ww) * 32 + t) * 512 + y) / 524288 = x := by omega
theorem MI_ok {W c : Int} (h : okC W c) (hW : W ≤ 20) : okC W (MI W c) ∧ MI W (MI W c) = c ∧ RIi (RI c) = c ∧ 0 ≤ MI W c ∧ MI W c ≤ 11000000 := by
  obtain ⟨h1, h2, h3⟩ := h
  have d := cS_dec (x := W - c / 1024 % 32 - c / 32 % 32) (y := c / 32768) (ww := c / 32 % 32) (t := c % 32) (by omega) (by omega) (by omega) (by omega) (by omega) (by omega) (by omega)
  obtain ⟨d1, d2, d3, d4⟩ := d
  refine ⟨⟨?_, ?_, ?_⟩, ?_, ?_, ?_, ?_⟩
  · unfold MI; omega
  · unfold MI; rw [d4]; omega
  · unfold MI; rw [d2, d3]; omega
  · have e : MI W (MI W c) = ((MI W c / 32768 * 32 + (W - MI W c / 1024 % 32 - MI W c / 32 % 32)) * 32 + MI W c / 32 % 32) * 32 + MI W c % 32 := rfl
    rw [e]
    unfold MI
    rw [d1, d2, d3, d4]
    omega
  · obtain ⟨r1, r2, r3, r4⟩ := rS_dec (x := c / 1024 % 32) (y := c / 32768) (ww := c / 32 % 32) (t := c % 32) (by omega) (by omega) (by omega) (by omega) (by omega) (by omega) (by omega)
    have e : RIi (RI c) = ((RI c % 512 * 32 + RI c / 524288) * 32 + RI c / 16384 % 32) * 32 + RI c / 512 % 32 := rfl
    rw [e]
    unfold RI
    rw [r1, r2, r3, r4]
    exact c_dec c
  · unfold MI; omega
  · unfold MI; omega
theorem cSq_ok {w : sk_H} (hV : VO w) {p : Nat} (hp : (p : Int) < w 0 1) (h5 : w 5 p ≠ 0) : okC (w 0 0) (cSq w p) ∧ MI (w 0 0) (cSq w p) = ((w 7 p * 32 + (w 0 0 - w 6 p - w 15 p)) * 32 + w 15 p) * 32 + w 16 p ∧ RI (cSq w p) = ((w 6 p * 32 + w 15 p) * 32 + w 16 p) * 512 + w 7 p ∧ RI (MI (w 0 0) (cSq w p)) = (((w 0 0 - w 6 p - w 15 p) * 32 + w 15 p) * 32 + w 16 p) * 512 + w 7 p := by
  obtain ⟨n1, n2, n3, n4, n5, n6, n7, n8, n9, n10, n11, n12⟩ := hV.1
  have hn : VN w := hV.1
  have v5 := vo_p hV hp
  have ac := acr_rng hn v5 (w 8 p)
  have tc := tal_rng hn v5 (w 8 p)
  obtain ⟨-, -, -, -, -, -, -, -, q1, q2, -, q3, -⟩ := v5
  obtain ⟨g1, g2, g3, g4, g5, g6⟩ := q3 h5
  have n2 : w 0 0 ≤ 20 := hn.2.1
  obtain ⟨d1, d2, d3, d4⟩ := cS_dec (x := w 6 p) (y := w 7 p) (ww := w 15 p) (t := w 16 p) (by omega) (by omega) (by omega) (by omega) (by omega) (by omega) (by omega)
  have em : MI (w 0 0) (cSq w p) = ((w 7 p * 32 + (w 0 0 - w 6 p - w 15 p)) * 32 + w 15 p) * 32 + w 16 p := by
    unfold MI cSq; rw [d1, d2, d3, d4]
  obtain ⟨e1, e2, e3, e4⟩ := cS_dec (x := w 0 0 - w 6 p - w 15 p) (y := w 7 p) (ww := w 15 p) (t := w 16 p) (by omega) (by omega) (by omega) (by omega) (by omega) (by omega) (by omega)
  refine ⟨⟨?_, ?_, ?_⟩, em, ?_, ?_⟩
  · unfold cSq; omega
  · unfold cSq; rw [d4]; omega
  · unfold cSq; rw [d2, d3]; omega
  · unfold RI cSq; rw [d1, d2, d3, d4]
  · rw [em]; unfold RI; rw [e1, e2, e3, e4]
def lyB (w : sk_H) (p : Nat) : Bool := decide (w 5 p ≠ 0)
def lyC (w : sk_H) (p : Nat) : Nat := (cntTo p (lyB w)).toNat
def layL (w : sk_H) : Nat → (Nat → Int)
  | 0 => fun _ => 0
  | p + 1 => if lyB w p = true then fn1 (layL w p) (lyC w p) (cSq w p) else layL w p
def layA (w : sk_H) : Nat → Int := layL w (w 0 1).toNat
def layN (w : sk_H) : Nat := lyC w (w 0 1).toNat
theorem lyC_s (w : sk_H) (p : Nat) : lyC w (p + 1) = if lyB w p = true then lyC w p + 1 else lyC w p := by
  have r := cntTo_rng p (lyB w)
  unfold lyC
  rw [cntTo_succ]
  split <;> omega
theorem lyC_le (w : sk_H) (p : Nat) : lyC w p ≤ p := by
  have r := cntTo_rng p (lyB w)
  unfold lyC
  omega
theorem layL_ok {w : sk_H} (hV : VO w) : ∀ p : Nat, (p : Int) ≤ w 0 1 → ∀ k, k < lyC w p → okC (w 0 0) (layL w p k) ∧ 0 ≤ layL w p k ∧ layL w p k ≤ 11000000 := by
  intro p
  induction p with
  | zero => intro _ k hk; exact absurd hk (by have := lyC_le w 0; omega)
  | succ p ih =>
    intro hp k hk
    rw [lyC_s] at hk
    unfold layL
    by_cases c : lyB w p = true
    · rw [if_pos c] at hk ⊢
      unfold fn1
      by_cases e : k = lyC w p
      · rw [if_pos e]
        have o := (cSq_ok hV (p := p) (by omega) (of_decide_eq_true c)).1
        exact ⟨o, o.1, by have := o.2.1; omega⟩
      · rw [if_neg e]; exact ih (by omega) k (by omega)
    · rw [if_neg c] at hk ⊢
      exact ih (by omega) k hk
theorem layA_ok {w : sk_H} (hV : VO w) : ∀ k, k < layN w → okC (w 0 0) (layA w k) ∧ 0 ≤ layA w k ∧ layA w k ≤ 11000000 := layL_ok hV (w 0 1).toNat (by have := hV.1.2.2.1; omega)
theorem m74 {d : Nat} (hd : 1 ≤ d) (hS : sk_G S) {K w : sk_H} (hv : vC K 53 = w) {p : Nat} (hp : p < 10) {x : Int} : sk_c d 74 [.ref (53 + 9 + p), .int (sj x)] (sk_mk S K) = some (some (.int (sj (((w 7 p * 32 + x) * 32 + w 15 p) * 32 + w 16 p))), sk_mk S K) := by
  have ha : sk_isP 53 := Or.inr (Or.inr rfl)
  obtain ⟨d, rfl⟩ : ∃ e, d = e + 1 := ⟨d - 1, by omega⟩; rw [sk_e74]
  rw [pq_i6b hS ha hp, vp6 hv hp, pq_i8b hS ha hp, vp8 hv hp, pq_i9b hS ha hp, vp9 hv hp, sj_mul, sj_add, sj_mul, sj_add, sj_mul, sj_add]
/-- the layout is read, sorted both ways, and the lesser kept -/
theorem m73 {d : Nat} (hd : 2 ≤ d) (hS : sk_G S) {K w : sk_H} (hv : vC K 53 = w) (hV : VO w) : ∃ K', sk_c d 73 [.ref 74, .ref 53] (sk_mk S K) = some (none, sk_mk S K') ∧ K' 74 7 = (layN w : Int) ∧ EQ (layN w) (K' 78) (canF (layN w) (MI (w 0 0)) (layA w)) ∧ (∀ c, c ≠ 74 → c ≠ 78 → c ≠ 79 → K' c = K c) ∧ ∀ k, k ≠ 7 → K' 74 k = K 74 k := by
  have ha : sk_isP 53 := Or.inr (Or.inr rfl)
  have hn : VN w := hV.1
  obtain ⟨n1, n2, n3, n4, n5, n6, n7, n8, n9, n10, n11, n12⟩ := hn
  have hL : layN w ≤ 10 := by have := lyC_le w (w 0 1).toNat; unfold layN; omega
  obtain ⟨d, rfl⟩ : ∃ e, d = e + 1 := ⟨d - 1, by omega⟩; rw [sk_e73]
  rw [g74_u7b hS]
  have key := lp_run (fun p (X : Option sk_R) => ∃ J o3, X = sk_D73 d 7 [some (.ref 74), some (.ref 53), some (.int (sj (p : Int))), o3] [] (sk_mk S J) ∧ J 74 7 = (lyC w p : Int) ∧ EQ (lyC w p) (J 78) (layL w p) ∧ EQ (lyC w p) (J 79) (fun k => MI (w 0 0) (layL w p k)) ∧ (∀ c, c ≠ 74 → c ≠ 78 → c ≠ 79 → J c = K c) ∧ ∀ k, k ≠ 7 → J 74 k = K 74 k) (w 0 1).toNat (fun p X hp hX => by
    obtain ⟨J, o3, rfl, j1, j2, j3, j4, j5⟩ := hX
    have hp2 : (p : Int) < w 0 1 := by omega
    have hp10 : p < 10 := by omega
    have t2 : (p : Int) + 1 = ((p + 1 : Nat) : Int) := rfl
    have lc := lyC_le w p
    have hJ : vC J 53 = w := (vC_fr (fun b b1 b2 => j4 b (by omega) (by omega) (by omega))).trans hv
    rw [sk_e73_7, pl_i5b hS ha, vc5 hJ, if_neg (kn_ge (by omega) (by omega) (by omega) (by omega) (by omega)), pl_r0b hS ha, pl_pb hS ha (by omega) (by omega), Int.toNat_natCast, pq_ob hS ha hp10, p27 (by omega) hS ha hJ hV hp2, sk_ci_some]
    by_cases c : w 5 p = 0
    · have cb : lyB w p = false := decide_eq_false (fun h => h c)
      refine ⟨J, some (.ref (53 + 9 + p)), ?_, ?_, ?_, ?_, j4, j5⟩
      · rw [decide_eq_false (fun h => h c), if_neg cf_bne, sj_add, t2]
      all_goals
        rw [lyC_s, cb]
        try unfold layL
        try rw [cb]
      · exact j1
      · exact j2
      · exact j3
    · have cb : lyB w p = true := decide_eq_true c
      have em := (cSq_ok hV hp2 c).2.1
      have u1 : vC (u2 J 78 (lyC w p) (cSq w p)) 53 = w := (vC_fr (fun b b1 b2 => funext fun k => u2_ne _ _ (by omega))).trans hJ
      refine ⟨u2 (u2 (u2 J 78 (lyC w p) (cSq w p)) 79 (lyC w p) (MI (w 0 0) (cSq w p))) 74 7 ((lyC w p : Int) + 1), some (.ref (53 + 9 + p)), ?_, ?_, ?_, ?_, fun c h1 h2 h3 => ?_, fun k hk => ?_⟩
      · rw [decide_eq_true c, if_pos ct_bne, g74_r5b hS, g74_i7b hS, j1, pq_i5b hS ha hp10, vp5 hJ hp10, m74 (by omega) hS hJ hp10, sk_ci_some, show ((w 7 p * 32 + w 6 p) * 32 + w 15 p) * 32 + w 16 p = cSq w p from rfl, g78_sb hS (by omega) (by omega), Int.toNat_natCast]
        rw [g74_r6b hS, g74_i7b hS, u2_ne _ _ (by omega), j1, pl_i4b hS ha, vc4 u1, pq_i5b hS ha hp10, vp5 u1 hp10, pq_i8b hS ha hp10, vp8 u1 hp10, sj_sub, sj_sub, m74 (by omega) hS u1 hp10, sk_ci_some, ← em, g79_sb hS (by omega) (by omega), Int.toNat_natCast, g74_i7b hS, u2_ne _ _ (by omega), u2_ne _ _ (by omega), j1, sj_add, g74_u7b hS, sj_add, t2]
      · rw [u2_eq, lyC_s, if_pos cb]; rfl
      · rw [lyC_s, if_pos cb]
        intro k hk
        unfold layL fn1
        rw [if_pos cb, u2_ne _ _ (by omega), u2_ne _ _ (by omega)]
        by_cases e : k = lyC w p
        · rw [if_pos e, e, u2_eq]
        · rw [if_neg e, u2_ne _ _ (by omega)]; exact j2 k (by omega)
      · rw [lyC_s, if_pos cb]
        intro k hk
        dsimp only
        unfold layL fn1
        rw [if_pos cb, u2_ne _ _ (by omega)]
        by_cases e : k = lyC w p
        · rw [if_pos e, e, u2_eq]
        · rw [if_neg e, u2_ne _ _ (by omega), u2_ne _ _ (by omega)]; exact j3 k (by omega)
      · exact (funext fun k => by rw [u2_ne _ _ (by omega), u2_ne _ _ (by omega), u2_ne _ _ (by omega)]).trans (j4 c h1 h2 h3)
      · rw [u2_ne _ _ (by omega), u2_ne _ _ (by omega), u2_ne _ _ (by omega)]; exact j5 k hk) ⟨u2 K 74 7 0, none, rfl, u2_eq _ _ _ _, fun k hk => absurd hk (by have := lyC_le w 0; omega), fun k hk => absurd hk (by have := lyC_le w 0; omega), fun c h1 _ _ => funext fun k => u2_ne _ _ (by omega), fun k hk => u2_ne _ _ (by omega)⟩
  obtain ⟨J, o3, e, j1, j2, j3, j4, j5⟩ := key
  have j1 : J 74 7 = (layN w : Int) := j1
  have j2 : EQ (layN w) (J 78) (layA w) := j2
  have j3 : EQ (layN w) (J 79) (fun k => MI (w 0 0) (layA w k)) := j3
  have hA := layA_ok hV
  generalize layA w = A at *
  generalize layN w = L at *
  have hJ : vC J 53 = w := (vC_fr (fun b b1 b2 => j4 b (by omega) (by omega) (by omega))).trans hv
  obtain ⟨J1, e1, a1, f1⟩ := m77 (S := S) (I := J) (d := d) (x0 := 78) (L := 10) (n := L) (by omega) (sh_78 hS) (by omega) (by omega) hL (by omega) (fun k hk => by rw [j2 k hk]; have := hA k hk; omega)
  obtain ⟨J2, e2, a2, f2⟩ := m77 (S := S) (I := J1) (d := d) (x0 := 79) (L := 10) (n := L) (by omega) (sh_79 hS) (by omega) (by omega) hL (by omega) (fun k hk => by
    rw [f1 79 (by omega), j3 k hk]
    have := (MI_ok (hA k hk).1 n2).2.2.2
    dsimp only
    omega)
  rw [f1 79 (by omega)] at a2
  have b1 : EQ L (J2 78) (srF L A) := by rw [f2 78 (by omega), a1]; exact SR.of j2
  have b2 : EQ L (J2 79) (srF L (fun k => MI (w 0 0) (A k))) := by rw [a2]; exact SR.of j3
  have r1 : ∀ k, k < L → -2147483648 ≤ J2 78 k ∧ J2 78 k < 2147483648 := fun k hk => by
    rw [f2 78 (by omega), a1]
    exact srF_P (P := fun y => -2147483648 ≤ y ∧ y < 2147483648) (fun k hk => by rw [j2 k hk]; have := hA k hk; omega) L (Nat.le_refl _) k hk
  have r2 : ∀ k, k < L → -2147483648 ≤ J2 79 k ∧ J2 79 k < 2147483648 := fun k hk => by
    rw [a2]
    exact srF_P (P := fun y => -2147483648 ≤ y ∧ y < 2147483648) (fun k hk => by
      rw [j3 k hk]
      have := (MI_ok (hA k hk).1 n2).2.2.2
      dsimp only
      omega) L (Nat.le_refl _) k hk
  have g7 : J2 74 7 = L := by rw [f2 74 (by omega), f1 74 (by omega)]; exact j1
  have g7' : J1 74 7 = L := by rw [f1 74 (by omega)]; exact j1
  have e116 : ∀ m i, i + m = L → sk_D73 d 116 [some (.ref 74), some (.ref 53), some (.int (sj (i : Int))), o3] [] (sk_mk S J2) = sk_D73 d 145 [some (.ref 74), some (.ref 53), some (.int (sj (fdx (J2 78) (J2 79) m i : Int))), o3] [] (sk_mk S J2) := by
    intro m
    induction m with
    | zero =>
      intro i hi
      rw [sk_e73_116, g74_i7b hS, g7, if_pos (ky_ge (by omega) (by omega) (by omega) (by omega) (by omega))]
      rfl
    | succ m ih =>
      intro i hi
      have q1 := r1 i (by omega)
      have q2 := r2 i (by omega)
      have t2 : (i : Int) + 1 = ((i + 1 : Nat) : Int) := rfl
      unfold fdx
      rw [sk_e73_116, g74_i7b hS, g7, if_neg (kn_ge (by omega) (by omega) (by omega) (by omega) (by omega)), g74_r5b hS, g78_ab hS (by omega) (by omega), Int.toNat_natCast, g74_r6b hS, g79_ab hS (by omega) (by omega), Int.toNat_natCast]
      by_cases c : J2 78 i = J2 79 i
      · rw [if_neg (kn_ne c), if_pos c, sj_add, t2]; exact ih (i + 1) (by omega)
      · rw [if_pos (ky_ne (by omega) (by omega) (by omega) (by omega) c), if_neg c]
  have fp := fdx_p (J2 78) (J2 79) L 0
  have lc : EQ L (lxm L (J2 78) (J2 79)) (canF L (MI (w 0 0)) A) := lxm_congr b1 b2
  have pre : sk_D73 d 7 [some (.ref 74), some (.ref 53), some (.int (sj (((w 0 1).toNat : Nat) : Int))), o3] [] (sk_mk S J) = sk_D73 d 145 [some (.ref 74), some (.ref 53), some (.int (sj (fdx (J2 78) (J2 79) L 0 : Int))), o3] [] (sk_mk S J2) := by
    rw [sk_e73_7, pl_i5b hS ha, vc5 hJ, if_pos (ky_ge (by omega) (by omega) (by omega) (by omega) (by omega)), g74_r5b hS, g74_i7b hS, j1, e1, sk_cv_some, g74_r6b hS, g74_i7b hS, g7', e2, sk_cv_some]
    exact e116 L 0 (by omega)
  have e' := e.trans pre
  have fr : ∀ c, c ≠ 74 → c ≠ 78 → c ≠ 79 → J2 c = K c := fun c h1 h2 h3 => by rw [f2 c h3, f1 c h2, j4 c h1 h2 h3]
  have fr74 : ∀ k, k ≠ 7 → J2 74 k = K 74 k := fun k hk => by rw [f2 74 (by omega), f1 74 (by omega), j5 k hk]
  show ∃ K', sk_D73 d 7 [some (.ref 74), some (.ref 53), some (.int (sj 0)), none] [] (sk_mk S (u2 K 74 7 0)) = _ ∧ _
  unfold lxm at lc
  generalize fdx (J2 78) (J2 79) L 0 = r at *
  by_cases c : r < L
  · have q1 := r1 r c
    have q2 := r2 r c
    by_cases c2 : J2 79 r < J2 78 r
    · have ec := mk_copy (S := S) (I := J2) (a0 := 79) (a := 78) (n0 := 10) (n1 := 10) (sp := 0) (dp := 0) (n := L) (sh_79 hS) (sh_78 hS) (by omega) (by omega) (by omega) (by omega) (by omega) (by omega) (by omega) (by omega) (by omega)
      rw [if_pos ⟨c, c2⟩] at lc
      refine ⟨cpy2 J2 79 (0 : Int).toNat 78 (0 : Int).toNat (L : Int).toNat, e'.trans ?_, ?_, ?_, fun c h1 h2 h3 => (cpy_ne h2).trans (fr c h1 h2 h3), fun k hk => by rw [cpy_ne (by omega)]; exact fr74 k hk⟩
      · rw [sk_e73_145, g74_i7b hS, g7, if_neg (kn_ge (by omega) (by omega) (by omega) (by omega) (by omega)), g74_r6b hS, g79_ab hS (by omega) (by omega), Int.toNat_natCast, g74_r5b hS, g78_ab hS (by omega) (by omega), Int.toNat_natCast, if_neg (kn_ge (by omega) (by omega) (by omega) (by omega) (by omega)), g74_r6b hS, g74_r5b hS, g74_i7b hS, g7, ec, Option.bind_some]
      · rw [cpy_ne (by omega)]; exact g7
      · intro k hk
        rw [cpy_at (by omega) (by omega), show (0 : Int).toNat + (k - (0 : Int).toNat) = k by omega]
        exact lc k hk
    · rw [if_neg (fun h => c2 h.2)] at lc
      refine ⟨J2, e'.trans ?_, g7, lc, fr, fr74⟩
      rw [sk_e73_145, g74_i7b hS, g7, if_neg (kn_ge (by omega) (by omega) (by omega) (by omega) (by omega)), g74_r6b hS, g79_ab hS (by omega) (by omega), Int.toNat_natCast, g74_r5b hS, g78_ab hS (by omega) (by omega), Int.toNat_natCast, if_pos (ky_ge (by omega) (by omega) (by omega) (by omega) (by omega))]
  · rw [if_neg (fun h => c h.1)] at lc
    refine ⟨J2, e'.trans ?_, g7, lc, fr, fr74⟩
    rw [sk_e73_145, g74_i7b hS, g7, if_pos (ky_ge (by omega) (by omega) (by omega) (by omega) (by omega))]
end LYC
