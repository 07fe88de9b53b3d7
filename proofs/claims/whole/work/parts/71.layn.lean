/-! ===== how many lie; the reference's turns ===== -/
section LYN
variable {S : List sk_Sh} {I v : sk_H}
theorem cnt_one {P Q : Nat → Bool} {p : Nat} (h : ∀ k, k ≠ p → Q k = P k) (h0 : P p = false) (h1 : Q p = true) : ∀ n, cntTo n Q = cntTo n P + if p < n then 1 else 0 := by
  intro n
  induction n with
  | zero => rfl
  | succ n ih =>
    rw [cntTo_succ, cntTo_succ, ih]
    by_cases e : n = p
    · subst e
      rw [h0, h1, if_pos (show (true = true) from rfl), if_neg (show ¬ (false = true) by decide), if_neg (show ¬ n < n by omega), if_pos (show n < n + 1 by omega)]
      omega
    · rw [h n e]
      by_cases c : p < n
      · rw [if_pos c, if_pos (show p < n + 1 by omega)]; split <;> omega
      · rw [if_neg c, if_neg (show ¬ p < n + 1 by omega)]; split <;> omega
theorem lay_put (v : sk_H) {p : Nat} {q : sk_Q} (h : fF v p = some q) : layV v p 5 p ≠ 0 := by
  unfold layV
  rw [h]
  dsimp only
  unfold setV
  by_cases c1 : q.2.2.2.1 = -1
  · rw [if_pos c1, raisV_z _ _ _ _ _ (by omega) (by omega), (lie_at _ _ _ _ _ _).2.2.2.1]; decide
  · rw [if_neg c1]
    unfold cornV
    rw [wAdd_same _ _ _ _ _ (by omega) (by omega), wAdd_same _ _ _ _ _ (by omega) (by omega), dropV_same _ _ (by omega) (by omega), (lie_at _ _ _ _ _ _).2.2.2.1]; decide
theorem rnK_ly {v : sk_H} (hV : VO v) : ∀ k : Nat, (k : Int) ≤ v 0 2 → lyN (rnK v k).1 = fxN v + (rnK v k).2 := by
  intro k
  induction k with
  | zero =>
    intro _
    show lyN (clrV v) = fxN v + 0
    have e1 : clrV v 0 1 = v 0 1 := clr_ne v (by omega) (by omega) (by omega)
    unfold lyN fxN
    rw [e1, Int.add_zero]
    refine cntTo_congr fun p hp => ?_
    rw [clr_5 v (by omega)]
    obtain ⟨-, -, -, -, -, -, -, -, q9, q10, -⟩ := vo_p hV (p := p) (by omega)
    by_cases c : v 5 p = 1
    · rw [if_neg (by omega), decide_eq_true c, decide_eq_true (by omega)]
    · rw [decide_eq_false c]
      refine decide_eq_false (fun h => h ?_)
      split <;> omega
  | succ k ih =>
    intro hk
    have a := ih (by omega)
    obtain ⟨i1, i2, i3, -⟩ := rnK_inv hV k (by omega)
    have h0 := i3 k (by omega) (Nat.le_refl _)
    obtain ⟨d1, d2, d3⟩ := hV.2.2.1.1 k (by omega)
    rw [rnK_succ]
    unfold rSp
    dsimp only
    cases hf : fF (rnK v k).1 (v 9 k).toNat with
    | none =>
      have e : layV (rnK v k).1 (v 9 k).toNat = (rnK v k).1 := by unfold layV; rw [hf]
      rw [e]
      exact a
    | some q =>
      have e01 : layV (rnK v k).1 (v 9 k).toNat 0 1 = v 0 1 := (lay_same _ _ (by omega) (by omega) (by omega)).trans (i2 0 1 (by omega) (by omega))
      have c := cnt_one (P := fun p => decide ((rnK v k).1 5 p ≠ 0)) (Q := fun p => decide (layV (rnK v k).1 (v 9 k).toNat 5 p ≠ 0)) (p := (v 9 k).toNat) (fun p hp => by
        rw [lay_same _ _ (by omega) (by omega) (by omega)]) (decide_eq_false (fun h => h h0)) (decide_eq_true (lay_put _ hf)) (v 0 1).toNat
      unfold lyN at a ⊢
      rw [i2 0 1 (by omega) (by omega)] at a
      rw [e01, c, if_pos (by omega), a]
      rw [if_pos (by rfl)]
      omega
theorem fx_next {v : sk_H} (hV : VO v) (g : Nat → Int) : fxN (st9 (rnV v).1 g) = fxN v := by
  have se := SE_rnV hV
  have e1 : st9 (rnV v).1 g 0 1 = v 0 1 := (st9_ne _ _ _ (by omega)).trans (se.1 0 1 (by omega) (by omega))
  unfold fxN
  rw [e1]
  refine cntTo_congr fun p hp => ?_
  rw [st9_ne _ _ _ (by omega)]
  by_cases c : v 5 p = 1
  · have := (se.2 p (by omega)).1 c 5 (by omega) (by omega)
    rw [decide_eq_true c, decide_eq_true (by rw [this]; exact c)]
  · rw [decide_eq_false c, decide_eq_false ((se.2 p (by omega)).2 c)]
theorem lay_L {v : sk_H} (hV : VO v) {n L : Nat} (hn : v 0 2 = n) (hf : fxN v = (L : Int) - n) (hc : (rnV v).2 = n) : layN (rnV v).1 = L := by
  have h := rnK_ly hV n (by omega)
  have e : rnK v n = rnV v := by unfold rnV; rw [hn]; rfl
  rw [e, hf, hc] at h
  have e2 : layN (rnV v).1 = (lyN (rnV v).1).toNat := rfl
  rw [e2, h]
  omega
def RLs (K : sk_H) (L : Nat) (s : sk_Ly) : Prop := (∀ i, i < s.1 → ∀ q, q < L → rwR K i q = srF L (fun k => RI (s.2.1 i k)) q) ∧ ∀ i, i < s.1 → K 114 i = s.2.2 i
def OKs (L : Nat) (W : Int) (s : sk_Ly) : Prop := ∀ i, i < s.1 → okA L W (s.2.1 i)
theorem OKs_up {L : Nat} {W : Int} {s : sk_Ly} (h : OKs L W s) {A : Nat → Int} (hA : okA L W A) : OKs L W (lyU L W s A) := by
  unfold lyU
  split
  · intro i hi
    dsimp only at hi ⊢
    by_cases e : i = s.1
    · rw [if_pos e]; exact hA
    · rw [if_neg e]; exact h i (by omega)
  · exact h
theorem srR_rng {L : Nat} {W : Int} (hW : W ≤ 20) {A : Nat → Int} (hA : okA L W A) : ∀ q, q < L → 0 ≤ srF L (fun k => RI (A k)) q ∧ srF L (fun k => RI (A k)) q ≤ 20000000 :=
  srF_P (P := fun y => 0 ≤ y ∧ y ≤ 20000000) (n := L) (g := fun k => RI (A k)) (fun k hk => RI_rng (hA k hk).1 hW) L (Nat.le_refl _)
theorem okA_MI {L : Nat} {W : Int} (hW : W ≤ 20) {A : Nat → Int} (hA : okA L W A) : okA L W (fun k => MI W (A k)) := fun k hk => ⟨(MI_ok (hA k hk).1 hW).1, (MI_ok (hA k hk).1 hW).2.2.2⟩
theorem alk_ref {L : Nat} {W : Int} (hW : W ≤ 20) {A B : Nat → Int} (hA : okA L W A) (hB : okA L W B) : alkF L W A B = (decide (∀ q, q < L → srF L (fun k => RI (A k)) q = srF L (fun k => RI (B k)) q) || decide (∀ q, q < L → srF L (fun k => RI (A k)) q = srF L (fun k => RI (MI W (B k))) q)) := by
  have hM := okA_MI hW hB
  have e1 : (∀ q, q < L → srF L (fun k => RI (A k)) q = srF L (fun k => RI (B k)) q) ↔ SR L A B := ⟨fun h => SR.inv (f := RI) (fi := RIi) h (fun k hk => (MI_ok (hA k hk).1 hW).2.2.1) (fun k hk => (MI_ok (hB k hk).1 hW).2.2.1), fun h => h.map RI⟩
  have e2 : (∀ q, q < L → srF L (fun k => RI (A k)) q = srF L (fun k => RI (MI W (B k))) q) ↔ SR L A (fun k => MI W (B k)) := ⟨fun h => SR.inv (B := fun k => MI W (B k)) (f := RI) (fi := RIi) h (fun k hk => (MI_ok (hA k hk).1 hW).2.2.1) (fun k hk => (MI_ok (hM k hk).1 hW).2.2.1), fun h => h.map RI⟩
  have ci := can_iff (L := L) (f := MI W) (A := A) (B := B) (fun k hk => (MI_ok (hA k hk).1 hW).2.1) (fun k hk => (MI_ok (hB k hk).1 hW).2.1)
  rw [← e1, ← e2] at ci
  unfold alkF
  by_cases c : ∀ q, q < L → canF L (MI W) A q = canF L (MI W) B q
  · rw [decide_eq_true c]
    rcases ci.mp c with h | h
    · rw [decide_eq_true h, Bool.true_or]
    · rw [decide_eq_true h, Bool.or_true]
  · rw [decide_eq_false c, decide_eq_false (fun h => c (ci.mpr (Or.inl h))), decide_eq_false (fun h => c (ci.mpr (Or.inr h)))]
    rfl
/-- the reference finds its row -/
theorem r203_70 {d : Nat} (hd : 2 ≤ d) (hS : sk_G S) {K : sk_H} {L : Nat} {W : Int} (hW : W ≤ 20) (hL : L ≤ 10) {s : sk_Ly} (hs : s.1 < 120) (hO : OKs L W s) (hK : RLs K L s) {A : Nat → Int} (hA : okA L W A) (ha : EQ L (rwR K s.1) (srF L (fun k => RI (A k)))) (hm : EQ L (rwR K 121) (srF L (fun k => RI (MI W (A k))))) (x : Int) : ∀ m i, i + m = s.1 → sk_D203 d 70 [some (.ref 105), some (.int (sj x)), some (.int (sj (s.1 : Int))), some (.int (sj (L : Int))), some (.int (sj (i : Int)))] [] (sk_mk S K) = if fdI (fun j => alkF L W (s.2.1 j) A) m i = s.1 then sk_D203 d 121 [some (.ref 105), some (.int (sj x)), some (.int (sj ((s.1 + 1 : Nat) : Int))), some (.int (sj (L : Int))), some (.int (sj (s.1 : Int)))] [] (sk_mk S (u2 K 114 s.1 0)) else sk_D203 d 121 [some (.ref 105), some (.int (sj x)), some (.int (sj (s.1 : Int))), some (.int (sj (L : Int))), some (.int (sj (fdI (fun j => alkF L W (s.2.1 j) A) m i : Int)))] [] (sk_mk S K) := by
  intro m
  induction m with
  | zero =>
    intro i hi
    have t2 : (s.1 : Int) + 1 = ((s.1 + 1 : Nat) : Int) := rfl
    obtain rfl : i = s.1 := by omega
    rw [show fdI (fun j => alkF L W (s.2.1 j) A) 0 s.1 = s.1 from rfl, if_pos rfl, sk_e203_70, if_pos (ky_ge (by omega) (by omega) (by omega) (by omega) (by omega)), if_neg (kn_ne rfl), g105_r13b hS, g114_sb hS (by omega) (by omega), Int.toNat_natCast, sj_add, t2]
  | succ m ih =>
    intro i hi
    have t2 : (i : Int) + 1 = ((i + 1 : Nat) : Int) := rfl
    have hi2 : i < s.1 := by omega
    have rA := srR_rng hW hA
    have rM := srR_rng hW (okA_MI hW hA)
    have rI := srR_rng hW (hO i hi2)
    have e1 := m202 (S := S) (K := K) (d := d) (L := L) (i := i) (j := s.1) (by omega) hS hL (by omega) (by omega) (C := srF L (fun k => RI (s.2.1 i k))) (D := srF L (fun k => RI (A k))) (fun q hq => ⟨hK.1 i hi2 q hq, rI q hq⟩) (fun q hq => ⟨ha q hq, rA q hq⟩)
    have e2 := m202 (S := S) (K := K) (d := d) (L := L) (i := i) (j := 121) (by omega) hS hL (by omega) (by omega) (C := srF L (fun k => RI (s.2.1 i k))) (D := srF L (fun k => RI (MI W (A k)))) (fun q hq => ⟨hK.1 i hi2 q hq, rI q hq⟩) (fun q hq => ⟨hm q hq, rM q hq⟩)
    have e2 : sk_c d 202 [.ref 105, .int (sj (i : Int)), .int (sj 121), .int (sj (L : Int))] (sk_mk S K) = _ := e2
    have al := alk_ref hW (hO i hi2) hA
    have nei : sk_cond .ne (sj (i : Int)) (sj (s.1 : Int)) = true := ky_ne (by omega) (by omega) (by omega) (by omega) (by omega)
    unfold fdI
    rw [sk_e203_70, if_neg (kn_ge (by omega) (by omega) (by omega) (by omega) (by omega)), g105_ob hS, e1, sk_ci_some, al]
    by_cases c1 : ∀ q, q < L → srF L (fun k => RI (s.2.1 i k)) q = srF L (fun k => RI (A k)) q
    · rw [decide_eq_true c1, if_pos ct_bne, if_pos nei, Bool.true_or, if_pos rfl, if_neg (show ¬ i = s.1 by omega)]
    · rw [decide_eq_false c1, if_neg cf_bne, g105_ob hS, e2, sk_ci_some, Bool.false_or]
      by_cases c2 : ∀ q, q < L → srF L (fun k => RI (s.2.1 i k)) q = srF L (fun k => RI (MI W (A k))) q
      · rw [decide_eq_true c2, if_pos ct_bne, if_pos nei, if_pos rfl, if_neg (show ¬ i = s.1 by omega)]
      · rw [decide_eq_false c2, if_neg cf_bne, if_neg (show ¬ (false = true) by decide), sj_add, t2]
        exact ih (i + 1) (by omega)
end LYN
