/-! ===== layouts, all turns of the class ===== -/
section LYF
variable {S : List sk_Sh} {I v : sk_H}
def okA (L : Nat) (W : Int) (A : Nat → Int) : Prop := ∀ k, k < L → okC W (A k) ∧ 0 ≤ A k ∧ A k ≤ 11000000
def alkF (L : Nat) (W : Int) (A B : Nat → Int) : Bool := decide (∀ k, k < L → canF L (MI W) A k = canF L (MI W) B k)
def fdI (P : Nat → Bool) : Nat → Nat → Nat
  | 0, i => i
  | m + 1, i => if P i = true then i else fdI P m (i + 1)
abbrev sk_Ly : Type := Nat × (Nat → Nat → Int) × (Nat → Int)
def lyI (L : Nat) (W : Int) (s : sk_Ly) (A : Nat → Int) : Nat := fdI (fun j => alkF L W (s.2.1 j) A) s.1 0
def lyU (L : Nat) (W : Int) (s : sk_Ly) (A : Nat → Int) : sk_Ly := if lyI L W s A = s.1 then (s.1 + 1, (fun j => if j = s.1 then A else s.2.1 j), fun j => if j = s.1 then 1 else s.2.2 j) else (s.1, s.2.1, fun j => if j = lyI L W s A then s.2.2 j + 1 else s.2.2 j)
def lyF (n L : Nat) : Nat → sk_H → sk_Ly → sk_Ly
  | 0, _, s => s
  | m + 1, v, s => match nxF leI n ((rnV v).1 9) with
    | none => if (rnV v).2 = n then lyU L (v 0 0) s (layA (rnV v).1) else s
    | some g => lyF n L m (st9 (rnV v).1 g) (if (rnV v).2 = n then lyU L (v 0 0) s (layA (rnV v).1) else s)
theorem fdI_le (P : Nat → Bool) : ∀ m i, i ≤ fdI P m i ∧ fdI P m i ≤ i + m := by
  intro m
  induction m with
  | zero => intro i; exact ⟨Nat.le_refl _, Nat.le_refl _⟩
  | succ m ih =>
    intro i
    unfold fdI
    split
    · omega
    · have := ih (i + 1); omega
theorem canF_rng {L : Nat} {W : Int} (hW : W ≤ 20) {A : Nat → Int} (hA : okA L W A) : ∀ k, k < L → 0 ≤ canF L (MI W) A k ∧ canF L (MI W) A k ≤ 11000000 := by
  intro k hk
  have a := srF_P (P := fun y => 0 ≤ y ∧ y ≤ 11000000) (n := L) (g := A) (fun k hk => (hA k hk).2) L (Nat.le_refl _) k hk
  have b := srF_P (P := fun y => 0 ≤ y ∧ y ≤ 11000000) (n := L) (g := fun k => MI W (A k)) (fun k hk => (MI_ok (hA k hk).1 hW).2.2.2) L (Nat.le_refl _) k hk
  unfold canF
  rcases lxm_or (srF L A) (srF L (fun k => MI W (A k))) L with e | e <;> rw [e]
  · exact a
  · exact b
/-- what the class keeps of the layouts found -/
def CL (K : sk_H) (L : Nat) (W : Int) (s : sk_Ly) : Prop := K 74 2 = s.1 ∧ (∀ i, i < s.1 → okA L W (s.2.1 i) ∧ ∀ q, q < L → K 77 (i * 10 + q) = canF L (MI W) (s.2.1 i) q) ∧ ∀ i, i < s.1 → K 76 i = s.2.2 i
def GS (s : sk_Ly) (t : Nat) : Prop := s.1 ≤ t ∧ ∀ i, i < s.1 → 1 ≤ s.2.2 i ∧ s.2.2 i ≤ t
theorem GS_up {L t : Nat} {W : Int} {s : sk_Ly} (h : GS s t) (A : Nat → Int) : GS (lyU L W s A) (t + 1) := by
  unfold lyU
  split
  · refine ⟨by have := h.1; dsimp only; omega, fun i hi => ?_⟩
    dsimp only at hi ⊢
    split
    · omega
    · have := h.2 i (by omega); omega
  · refine ⟨by have := h.1; dsimp only; omega, fun i hi => ?_⟩
    dsimp only at hi ⊢
    have := h.2 i hi
    split <;> omega
theorem GS_mono {t : Nat} {s : sk_Ly} (h : GS s t) : GS s (t + 1) := ⟨by have := h.1; omega, fun i hi => by have := h.2 i hi; omega⟩
theorem m76 {d : Nat} (hd : 1 ≤ d) (hS : sk_G S) {K : sk_H} {L : Nat} (hL : L ≤ 10) (h7 : K 74 7 = L) {i : Nat} (hi : i < 120) {C D : Nat → Int} (hC : ∀ q, q < L → K 77 (i * 10 + q) = C q ∧ 0 ≤ C q ∧ C q ≤ 11000000) (hD : ∀ q, q < L → K 78 q = D q ∧ 0 ≤ D q ∧ D q ≤ 11000000) : sk_c d 76 [.ref 74, .int (sj (i : Int))] (sk_mk S K) = some (some (.int (sj (bi (decide (∀ q, q < L → C q = D q))))), sk_mk S K) := by
  obtain ⟨d, rfl⟩ : ∃ e, d = e + 1 := ⟨d - 1, by omega⟩; rw [sk_e76]
  have key : ∀ m q, q + m = L → (∀ r, r < q → C r = D r) → sk_D76 d 2 [some (.ref 74), some (.int (sj (i : Int))), some (.int (sj (q : Int)))] [] (sk_mk S K) = some (some (.int (sj (bi (decide (∀ q, q < L → C q = D q))))), sk_mk S K) := by
    intro m
    induction m with
    | zero =>
      intro q hq h
      rw [sk_e76_2, g74_i7b hS, h7, if_pos (ky_ge (by omega) (by omega) (by omega) (by omega) (by omega)), decide_eq_true (fun r hr => h r (by omega))]
      rfl
    | succ m ih =>
      intro q hq h
      have t2 : (q : Int) + 1 = ((q + 1 : Nat) : Int) := rfl
      obtain ⟨c1, c2, c3⟩ := hC q (by omega)
      obtain ⟨d1, d2, d3⟩ := hD q (by omega)
      have ti : ((i : Int) * 10 + q).toNat = i * 10 + q := by omega
      rw [sk_e76_2, g74_i7b hS, h7, if_neg (kn_ge (by omega) (by omega) (by omega) (by omega) (by omega)), g74_r4b hS, sj_mul, sj_add, g77_ab hS (by omega) (by omega), ti, c1, g74_r5b hS, g78_ab hS (by omega) (by omega), Int.toNat_natCast, d1]
      by_cases e : C q = D q
      · rw [if_pos (ky_eq e), sj_add, t2]
        refine ih (q + 1) (by omega) (fun r hr => ?_)
        by_cases f : r = q
        · rw [f]; exact e
        · exact h r (by omega)
      · rw [if_neg (kn_eq (by omega) (by omega) (by omega) (by omega) e), decide_eq_false (fun h => e (h q (by omega)))]
        rfl
  exact key L 0 (by omega) (fun r hr => absurd hr (by omega))
theorem m75 {d : Nat} (hd : 2 ≤ d) (hS : sk_G S) {K : sk_H} {L : Nat} {W : Int} (hW : W ≤ 20) (hL : L ≤ 10) (h7 : K 74 7 = L) {A : Nat → Int} (hA : okA L W A) (h78 : EQ L (K 78) (canF L (MI W) A)) {s : sk_Ly} (hs : CL K L W s) (h120 : s.1 < 120) : ∃ K', sk_c d 75 [.ref 74] (sk_mk S K) = some (none, sk_mk S K') ∧ CL K' L W (lyU L W s A) ∧ (∀ c, c ≠ 74 → c ≠ 76 → c ≠ 77 → K' c = K c) ∧ ∀ k, k ≠ 2 → K' 74 k = K 74 k := by
  obtain ⟨s1, s2, s3⟩ := hs
  have cr := canF_rng hW hA
  obtain ⟨d, rfl⟩ : ∃ e, d = e + 1 := ⟨d - 1, by omega⟩; rw [sk_e75]
  have key : ∀ m i, i + m = s.1 → sk_D75 d 2 [some (.ref 74), some (.int (sj (i : Int)))] [] (sk_mk S K) = if fdI (fun j => alkF L W (s.2.1 j) A) m i = s.1 then sk_D75 d 2 [some (.ref 74), some (.int (sj (s.1 : Int)))] [] (sk_mk S K) else some (none, sk_mk S (u2 K 76 (fdI (fun j => alkF L W (s.2.1 j) A) m i) (s.2.2 (fdI (fun j => alkF L W (s.2.1 j) A) m i) + 1))) := by
    intro m
    induction m with
    | zero =>
      intro i hi
      rw [show i = s.1 by omega]
      exact (if_pos rfl).symm
    | succ m ih =>
      intro i hi
      have t2 : (i : Int) + 1 = ((i + 1 : Nat) : Int) := rfl
      have e76 := m76 (S := S) (K := K) (d := d) (by omega) hS hL h7 (i := i) (by omega) (C := canF L (MI W) (s.2.1 i)) (D := canF L (MI W) A) (fun q hq => ⟨(s2 i (by omega)).2 q hq, canF_rng hW (s2 i (by omega)).1 q hq⟩) (fun q hq => ⟨h78 q hq, cr q hq⟩)
      unfold fdI
      rw [sk_e75_2, g74_i2b hS, s1, if_neg (kn_ge (by omega) (by omega) (by omega) (by omega) (by omega)), g74_ob hS, e76, sk_ci_some]
      by_cases c : alkF L W (s.2.1 i) A = true
      · have c' : (∀ q, q < L → canF L (MI W) (s.2.1 i) q = canF L (MI W) A q) := of_decide_eq_true c
        rw [decide_eq_true c', if_neg ct_beq, if_pos c, if_neg (show ¬ i = s.1 by omega), g74_r3b hS, g76_ab hS (by omega) (by omega), Int.toNat_natCast, s3 i (by omega), sj_add, g76_sb hS (by omega) (by omega), Int.toNat_natCast]
      · have c' : ¬ (∀ q, q < L → canF L (MI W) (s.2.1 i) q = canF L (MI W) A q) := fun h => c (decide_eq_true h)
        rw [decide_eq_false c', if_pos cf_beq, if_neg c, sj_add, t2]
        exact ih (i + 1) (by omega)
  have kk := key s.1 0 (by omega)
  have fl := fdI_le (fun j => alkF L W (s.2.1 j) A) s.1 0
  unfold lyU lyI
  generalize fdI (fun j => alkF L W (s.2.1 j) A) s.1 0 = x at *
  by_cases c : x = s.1
  · rw [if_pos c] at kk ⊢
    have t3 : ((s.1 : Int) * 10).toNat = s.1 * 10 := by omega
    have ec := mk_copy (S := S) (I := K) (a0 := 78) (a := 77) (n0 := 10) (n1 := 1200) (sp := 0) (dp := (s.1 : Int) * 10) (n := L) (sh_78 hS) (sh_77 hS) (by omega) (by omega) (by omega) (by omega) (by omega) (by omega) (by omega) (by omega) (by omega)
    refine ⟨u2 (u2 (cpy2 K 78 (0 : Int).toNat 77 ((s.1 : Int) * 10).toNat (L : Int).toNat) 76 s.1 1) 74 2 ((s.1 : Int) + 1), ?_, ⟨?_, fun i hi => ?_, fun i hi => ?_⟩, fun c h1 h2 h3 => ?_, fun k hk => ?_⟩
    · show sk_D75 d 2 [some (.ref 74), some (.int (sj ((0 : Nat) : Int)))] [] (sk_mk S K) = _
      rw [kk, sk_e75_2, g74_i2b hS, s1, if_pos (ky_ge (by omega) (by omega) (by omega) (by omega) (by omega)), g74_i2b hS, s1, if_pos (ky_lt (by omega) (by omega) (by omega) (by omega) (by omega)), g74_r5b hS, g74_r4b hS, g74_i2b hS, s1, g74_i7b hS, h7, sj_mul, ec, Option.bind_some, g74_r3b hS, g74_i2b hS, cpy_ne (by omega), s1, g76_sb hS (by omega) (by omega), Int.toNat_natCast, Int.toNat_natCast, g74_i2b hS, u2_ne _ _ (by omega), cpy_ne (by omega), s1, sj_add, g74_u2b hS]
    · rw [u2_eq]; rfl
    · dsimp only at hi ⊢
      by_cases e : i = s.1
      · rw [if_pos e]
        refine ⟨hA, fun q hq => ?_⟩
        rw [u2_ne _ _ (by omega), u2_ne _ _ (by omega), cpy_at (by omega) (by omega), show (0 : Int).toNat + (i * 10 + q - ((s.1 : Int) * 10).toNat) = q by omega]
        exact h78 q hq
      · rw [if_neg e]
        obtain ⟨b1, b2⟩ := s2 i (by omega)
        refine ⟨b1, fun q hq => ?_⟩
        rw [u2_ne _ _ (by omega), u2_ne _ _ (by omega), cpy_no (by omega)]
        exact b2 q hq
    · dsimp only at hi ⊢
      rw [u2_ne _ _ (by omega)]
      by_cases e : i = s.1
      · rw [if_pos e, e, u2_eq]
      · rw [if_neg e, u2_ne _ _ (by omega), cpy_ne (by omega)]; exact s3 i (by omega)
    · exact funext fun k => by rw [u2_ne _ _ (by omega), u2_ne _ _ (by omega), cpy_ne (by omega)]
    · rw [u2_ne _ _ (by omega), u2_ne _ _ (by omega), cpy_ne (by omega)]
  · rw [if_neg c] at kk ⊢
    refine ⟨_, kk, ⟨?_, fun i hi => ?_, fun i hi => ?_⟩, fun c h1 h2 h3 => funext fun k => u2_ne _ _ (by omega), fun k hk => u2_ne _ _ (by omega)⟩
    · rw [u2_ne _ _ (by omega)]; exact s1
    · obtain ⟨b1, b2⟩ := s2 i hi
      refine ⟨b1, fun q hq => ?_⟩
      rw [u2_ne _ _ (by omega)]; exact b2 q hq
    · dsimp only at hi ⊢
      by_cases e : i = x
      · rw [if_pos e, e, u2_eq]
      · rw [if_neg e, u2_ne _ _ (by omega)]; exact s3 i hi
/-- how many lie when all of the order do -/
def fxN (v : sk_H) : Int := cntTo (v 0 1).toNat (fun p => decide (v 5 p = 1))
theorem c70 {d : Nat} (hd : 12 ≤ d + 1) (hS : sk_G S) {n L : Nat} {W : Int} (hW : W ≤ 20) (hL : L ≤ 10) (h5 : n ≤ 5) (hlay : ∀ w : sk_H, VT w → w 0 2 = n → fxN w = (L : Int) - n → (rnV w).2 = n → layN (rnV w).1 = L) (hfx : ∀ (w : sk_H) (g : Nat → Int), VT w → fxN w = (L : Int) - n → fxN (st9 (rnV w).1 g) = (L : Int) - n) : ∀ (m x3 : Nat) (K v : sk_H) (s : sk_Ly), x3 + m = 120 → vC K 53 = v → VT v → v 0 2 = n → v 0 0 = W → fxN v = (L : Int) - n → CL K L W s → GS s x3 → ∃ K', sk_D70 d 18 [some (.ref 74), some (.ref 53), some (.ref 72), some (.int (sj (x3 : Int)))] [] (sk_mk S K) = some (none, sk_mk S K') ∧ CL K' L W (lyF n L m v s) ∧ GS (lyF n L m v s) 120 ∧ ∀ c, ¬ (53 ≤ c ∧ c < 87) → K' c = K c := by
  have ha : sk_isP 53 := Or.inr (Or.inr rfl)
  intro m
  induction m with
  | zero =>
    intro x3 K v s hx hv hT hn h0 hfn hs hg
    refine ⟨K, ?_, hs, by rw [show (120 : Nat) = x3 by omega]; exact hg, fun _ _ => rfl⟩
    rw [sk_e70_18, if_pos (ky_ge (by omega) (by omega) (by omega) (by omega) (by omega))]
  | succ m ih =>
    intro x3 K v s hx hv hT hn h0 hfn hs hg
    obtain ⟨K1, e1, k1, f1⟩ := m18 (S := S) (I := K) (d := d) (by omega) hS ha hv hT.1
    have r := rnV_inv hT.1
    have h2 : (rnV v).1 0 2 = n := (r.2.1 0 2 (by omega) (by omega)).trans hn
    have hw0 : (rnV v).1 0 0 = W := (r.2.1 0 0 (by omega) (by omega)).trans h0
    have t2 : (x3 : Int) + 1 = ((x3 + 1 : Nat) : Int) := rfl
    have gmono : ∀ (k : Nat) (s : sk_Ly) (j : Nat), j + k = 120 → GS s j → GS s 120 := by
      intro k
      induction k with
      | zero => intro s j hj h; rw [show (120 : Nat) = j by omega]; exact h
      | succ k ih => intro s j hj h; exact ih s (j + 1) (by omega) (GS_mono h)
    have go : ∀ (J : sk_H) (s' : sk_Ly), vC J 53 = (rnV v).1 → CL J L W s' → GS s' (x3 + 1) → (∀ c, ¬ (53 ≤ c ∧ c < 87) → J c = K c) → ∃ K', (sk_ci (sk_c d 72 [.ref 74, .ref 53] (sk_mk S J)) fun v2 w1 => if sk_cond .ne v2 (sj 0) = true then sk_D70 d 18 [some (.ref 74), some (.ref 53), some (.ref 72), some (.int (sj (x3 : Int) + sj 1))] [] w1 else some (none, w1)) = some (none, sk_mk S K') ∧ CL K' L W (match nxF leI n ((rnV v).1 9) with | none => s' | some g => lyF n L m (st9 (rnV v).1 g) s') ∧ GS (match nxF leI n ((rnV v).1 9) with | none => s' | some g => lyF n L m (st9 (rnV v).1 g) s') 120 ∧ ∀ c, ¬ (53 ≤ c ∧ c < 87) → K' c = K c := by
      intro J s' j1 j2 j3 j5
      obtain ⟨no, so⟩ := m72 (S := S) (I := J) (d := d) (by omega) hS j1 r.1 h2 74
      cases hx2 : nxF leI n ((rnV v).1 9) with
      | none =>
        refine ⟨J, ?_, j2, gmono m s' (x3 + 1) (by omega) j3, j5⟩
        rw [no hx2, sk_ci_some, if_neg (kn_ne rfl)]
      | some g =>
        obtain ⟨Q, el, l1, l2⟩ := so g hx2
        have hCQ : CL Q L W s' := ⟨by rw [l2 74 (by omega)]; exact j2.1, fun i hi => by rw [l2 77 (by omega)]; exact j2.2.1 i hi, fun i hi => by rw [l2 76 (by omega)]; exact j2.2.2 i hi⟩
        obtain ⟨K', e, a1, a2, a3⟩ := ih (x3 + 1) Q (st9 (rnV v).1 g) s' (by omega) l1 (VT_nx r.1 h2 hx2) ((st9_ne _ _ _ (by omega)).trans h2) ((st9_ne _ _ _ (by omega)).trans hw0) (hfx v g hT hfn) hCQ j3
        refine ⟨K', ?_, a1, a2, fun c hc => (a3 c hc).trans ((l2 c (by omega)).trans (j5 c hc))⟩
        rw [el, sk_ci_some, if_pos (by decide), sj_add, t2]
        exact e
    have kf : ∀ c, ¬ (53 ≤ c ∧ c < 87) → K1 c = K c := fun c hc => f1 c (by omega) (by omega)
    have hC1 : CL K1 L W s := ⟨by rw [f1 74 (by omega) (by omega)]; exact hs.1, fun i hi => by rw [f1 77 (by omega) (by omega)]; exact hs.2.1 i hi, fun i hi => by rw [f1 76 (by omega) (by omega)]; exact hs.2.2 i hi⟩
    unfold lyF
    rw [sk_e70_18, if_neg (kn_ge (by omega) (by omega) (by omega) (by omega) (by omega)), g72_ob hS, e1, sk_ci_some, pl_i6b hS ha, vc6 k1, h2]
    by_cases c : (rnV v).2 = n
    rotate_left
    · rw [if_pos (ky_ne (by omega) (by omega) (by omega) (by omega) c), g74_ob hS, if_neg c]
      exact go K1 s k1 hC1 (GS_mono hg) kf
    have eL := hlay v hT hn hfn c
    rw [if_neg (kn_ne c), g74_ob hS, if_pos c, h0]
    obtain ⟨K2, e2, a7, a78, f2, f74⟩ := m73 (S := S) (K := K1) (d := d) (by omega) hS k1 r.1.1
    rw [hw0] at a78
    have hA : okA L W (layA (rnV v).1) := fun k hk => by
      have h := layA_ok r.1.1 k (by omega)
      rw [hw0] at h
      exact h
    rw [eL] at a7 a78
    have hC2 : CL K2 L W s := ⟨by rw [f74 2 (by omega)]; exact hC1.1, fun i hi => by rw [f2 77 (by omega) (by omega) (by omega)]; exact hC1.2.1 i hi, fun i hi => by rw [f2 76 (by omega) (by omega) (by omega)]; exact hC1.2.2 i hi⟩
    obtain ⟨K3, e3, b1, b2, b3⟩ := m75 (S := S) (K := K2) (d := d) (by omega) hS hW hL a7 hA a78 hC2 (by have := hg.1; omega)
    rw [e2, sk_cv_some, g74_ob hS, e3, sk_cv_some, g74_ob hS]
    refine go K3 _ ?_ b1 (GS_up hg _) (fun c hc => ?_)
    · exact (vC_fr (fun b q1 q2 => (b2 b (by omega) (by omega) (by omega)).trans (f2 b (by omega) (by omega) (by omega)))).trans k1
    · rw [b2 c (by omega) (by omega) (by omega), f2 c (by omega) (by omega) (by omega), kf c hc]
end LYF
