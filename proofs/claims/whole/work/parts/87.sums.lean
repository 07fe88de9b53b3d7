/-! ===== centre: the sums ===== -/
section SMS
variable {S : List sk_Sh} {I v : sk_H}
def szV (v : sk_H) (a p : Nat) : Int := if a = 0 then v 15 p else v 16 p
def arF (v : sk_H) (p : Nat) : UInt32 := FP.i2f (sj (v 15 p * v 16 p))
def miF (v : sk_H) (a p : Nat) : UInt32 := FP.fmul (arF v p) (FP.fadd (FP.i2f (sj (LOv v a p))) (FP.fdiv (FP.i2f (sj (szV v a p))) FP.fconst2))
def sA (v : sk_H) (n : Nat) : UInt32 := fld n (fun p s => if lyB v p = true then FP.fadd s (arF v p) else s) FP.fconst0
def sM (v : sk_H) (a n : Nat) : UInt32 := fld n (fun p s => if lyB v p = true then FP.fadd s (miF v a p) else s) FP.fconst0
def sI (v : sk_H) (n : Nat) : Int := fld n (fun p s => if lyB v p = true then s + v 15 p * v 16 p else s) 0
theorem sA_s (v : sk_H) (n : Nat) : sA v (n + 1) = if lyB v n = true then FP.fadd (sA v n) (arF v n) else sA v n := rfl
theorem sM_s (v : sk_H) (a n : Nat) : sM v a (n + 1) = if lyB v n = true then FP.fadd (sM v a n) (miF v a n) else sM v a n := rfl
theorem sI_s (v : sk_H) (n : Nat) : sI v (n + 1) = if lyB v n = true then sI v n + v 15 n * v 16 n else sI v n := rfl
theorem ly_sz {v : sk_H} (hV : VO v) {p : Nat} (hp : lyB v p = true) (h : (p : Int) < v 0 1) : 1 ≤ v 15 p ∧ v 15 p ≤ 20 ∧ 1 ≤ v 16 p ∧ v 16 p ≤ 21 ∧ 1 ≤ v 15 p * v 16 p ∧ v 15 p * v 16 p ≤ 420 := by
  obtain ⟨n1, n2, -⟩ := hV.1
  have hl : v 5 p ≠ 0 := of_decide_eq_true hp
  obtain ⟨q1, q2, q3, q4, q5, q6, q7, q8, q9, q10, q11, q12, q13⟩ := vo_p hV h
  obtain ⟨y1, y2, y3, y4, y5, y6⟩ := q12 hl
  have ha : 1 ≤ acr v p (v 8 p) ∧ acr v p (v 8 p) ≤ 20 := by
    unfold acr
    split <;> omega
  have ht : 1 ≤ tal v p (v 8 p) ∧ tal v p (v 8 p) ≤ 21 := by
    unfold tal
    split <;> split <;> omega
  rw [← y5] at ha
  rw [← y6] at ht
  have m1 : 1 * 1 ≤ v 15 p * v 16 p := Int.mul_le_mul ha.1 ht.1 (by omega) (by omega)
  have m2 : v 15 p * v 16 p ≤ 20 * 21 := Int.mul_le_mul ha.2 ht.2 (by omega) (by omega)
  omega
theorem pf_half {x : Int} (h0 : 0 ≤ x) (h1 : x < 2147483648) : PF 160 (FP.fdiv (FP.i2f (sj x)) FP.fconst2) := by
  have h := pf_div (L := 128) (pf_i2s h0 h1) (Nat.le_of_eq two_nat.symm) pf_2 (by omega) (by omega) (by omega)
  exact pf_mono h (by omega)
/-- all steps of one piece -/
theorem pc_ok {v : sk_H} (hV : VO v) (a : Nat) {p : Nat} (hp : lyB v p = true) (h : (p : Int) < v 0 1) : PF 160 (arF v p) ∧ FP.Core.FInt (v 15 p * v 16 p) (arF v p) ∧ PF 160 (FP.fdiv (FP.i2f (sj (szV v a p))) FP.fconst2) ∧ PF 162 (FP.fadd (FP.i2f (sj (LOv v a p))) (FP.fdiv (FP.i2f (sj (szV v a p))) FP.fconst2)) ∧ PF 196 (miF v a p) := by
  obtain ⟨z1, z2, z3, z4, z5, z6⟩ := ly_sz hV hp h
  have lr := LH_rng hV a hp h
  have hs : 0 ≤ szV v a p ∧ szV v a p < 2147483648 := by
    unfold szV
    split <;> omega
  have hlo : LOv v a p < 2147483648 := by omega
  have e1 : PF 160 (arF v p) := pf_i2s (by omega) (by omega)
  have e2 := pf_half hs.1 hs.2
  have e3 := pf_add (pf_i2s lr.1 hlo) e2 (by omega)
  have e3 := pf_mono (M := 162) e3 (by omega)
  have e5 := pf_mul e1 e3 (by omega) (by omega) (by omega)
  exact ⟨e1, fi_i2s (by omega) (by omega), e2, e3, pf_mono e5 (by omega)⟩
theorem sA_ok {v : sk_H} (hV : VO v) : ∀ n : Nat, (n : Int) ≤ v 0 1 → PF (160 + 2 * n) (sA v n) ∧ FP.Core.FInt (sI v n) (sA v n) ∧ 0 ≤ sI v n ∧ sI v n ≤ 420 * n := by
  have n4 := hV.1.2.2.2.1
  intro n
  induction n with
  | zero =>
    intro _
    exact ⟨pf_mono pf_0 (by omega), fi_0, Int.le_refl _, Int.le_refl _⟩
  | succ n ih =>
    intro hn
    obtain ⟨i1, i2, i3, i4⟩ := ih (by omega)
    rw [sA_s, sI_s]
    by_cases c : lyB v n = true
    · obtain ⟨p1, p2, -⟩ := pc_ok hV 0 c (by omega)
      obtain ⟨z1, z2, z3, z4, z5, z6⟩ := ly_sz hV c (by omega)
      rw [if_pos c, if_pos c]
      have e := pf_add (K := 160 + 2 * n) i1 (pf_mono p1 (by omega)) (by omega)
      exact ⟨pf_mono e (by omega), FP.Core.fadd_int i2 p2 (by omega), by omega, by omega⟩
    · rw [if_neg c, if_neg c]
      exact ⟨pf_mono i1 (by omega), i2, i3, by omega⟩
theorem sM_ok {v : sk_H} (hV : VO v) (a : Nat) : ∀ n : Nat, (n : Int) ≤ v 0 1 → PF (196 + 2 * n) (sM v a n) := by
  have n4 := hV.1.2.2.2.1
  intro n
  induction n with
  | zero =>
    intro _
    exact pf_mono pf_0 (by omega)
  | succ n ih =>
    intro hn
    have i1 := ih (by omega)
    rw [sM_s]
    by_cases c : lyB v n = true
    · obtain ⟨-, -, -, -, p5⟩ := pc_ok hV a c (by omega)
      rw [if_pos c]
      have e := pf_add (K := 196 + 2 * n) i1 (pf_mono p5 (by omega)) (by omega)
      exact pf_mono e (by omega)
    · rw [if_neg c]
      exact pf_mono i1 (by omega)
theorem sI_pos {v : sk_H} (hV : VO v) {p : Nat} (hp : lyB v p = true) : ∀ n : Nat, (n : Int) ≤ v 0 1 → p < n → 1 ≤ sI v n := by
  intro n
  induction n with
  | zero => intro _ h; omega
  | succ n ih =>
    intro hn h
    rw [sI_s]
    have i := (sA_ok hV n (by omega)).2.2.1
    by_cases c : lyB v n = true
    · obtain ⟨z1, z2, z3, z4, z5, z6⟩ := ly_sz hV c (by omega)
      rw [if_pos c]
      omega
    · rw [if_neg c]
      have : p ≠ n := fun e => c (e ▸ hp)
      exact ih (by omega) (by omega)
/-- the middle -/
theorem mid_ok {v : sk_H} (hV : VO v) (a : Nat) {N : Nat} (hN : (N : Int) = v 0 1) (h : 1 ≤ sI v N) : PF 255 (FP.fdiv (sM v a N) (sA v N)) := by
  have n4 := hV.1.2.2.2.1
  obtain ⟨a1, a2, a3, a4⟩ := sA_ok hV N (by omega)
  have m1 := sM_ok hV a N (by omega)
  have e := pf_div (K := 216) (L := 127) (pf_mono m1 (by omega)) (fi_big a2 a1 (by omega) h) (pf_mono a1 (by omega)) (by omega) (by omega) (by omega)
  exact pf_mono e (by omega)
theorem fil_ok {x y : Int} (x0 : 0 ≤ x) (x1 : x ≤ 100000) (y0 : 1 ≤ y) (y1 : y ≤ 100000) : PF 255 (FP.fdiv (FP.i2f (sj x)) (FP.i2f (sj y))) := by
  have a := pf_i2s (x := y) (by omega) (by omega)
  have e := pf_div (K := 160) (L := 127) (pf_i2s x0 (by omega)) (fi_big (fi_i2s (by omega) (by omega)) a (by omega) y0) (pf_mono a (by omega)) (by omega) (by omega) (by omega)
  exact pf_mono e (by omega)
/-- what lies has a top -/
theorem fxT_le (v : sk_H) (s : Int) : ∀ n, s ≤ fxTop v n s := by
  intro n
  induction n with
  | zero => exact Int.le_refl _
  | succ n ih =>
    show s ≤ (if v 5 n = 1 then (if fxTop v n s < v 7 n + v 16 n then v 7 n + v 16 n else fxTop v n s) else fxTop v n s)
    split
    · split <;> omega
    · exact ih
theorem fxT_at (v : sk_H) (s : Int) {p : Nat} (hp : v 5 p = 1) : ∀ n, p < n → v 7 p + v 16 p ≤ fxTop v n s := by
  intro n
  induction n with
  | zero => intro h; omega
  | succ n ih =>
    intro h
    show v 7 p + v 16 p ≤ (if v 5 n = 1 then (if fxTop v n s < v 7 n + v 16 n then v 7 n + v 16 n else fxTop v n s) else fxTop v n s)
    by_cases e : p = n
    · subst e
      rw [if_pos hp]
      split <;> omega
    · have := ih (by omega)
      split
      · split <;> omega
      · exact this
theorem mxT_at (f : Nat → Int) (s : Int) {c : Nat} : ∀ n, c < n → f c ≤ maxTo n f s := by
  intro n
  induction n with
  | zero => intro h; omega
  | succ n ih =>
    intro h
    rw [maxTo_succ]
    by_cases e : c = n
    · subst e
      split <;> omega
    · have := ih (by omega)
      split <;> omega
theorem top_pos {v : sk_H} (hT : VT v) {p : Nat} (hp : lyB v p = true) (h : (p : Int) < v 0 1) : 1 ≤ topV v := by
  have hV := hT.1
  have hl : v 5 p ≠ 0 := of_decide_eq_true hp
  obtain ⟨q1, q2, q3, q4, q5, q6, q7, q8, q9, q10, q11, q12, q13⟩ := vo_p hV h
  obtain ⟨z1, z2, z3, z4, z5, z6⟩ := ly_sz hV hp h
  unfold topV
  by_cases c : v 5 p = 1
  · have := fxT_at v (maxTo (v 0 0).toNat (fun c => v 10 c) 0) c (v 0 1).toNat (by omega)
    have := (q12 hl).2.2.1
    omega
  · have h0 : 0 < ldN v := by
      have := cntTo_lt (n := (v 0 1).toNat) (P := fun _ => false) (Q := fun p => decide (2 ≤ v 5 p)) (fun _ _ h => by cases h) (p := p) (by omega) (decide_eq_true (by omega)) rfl
      rw [cntTo_zero (fun _ _ => rfl)] at this
      exact this
    obtain ⟨c0, d1, d2⟩ := hT.2.2.2 h0
    have a1 : v 10 c0 ≤ _ := mxT_at (fun c => v 10 c) 0 (c := c0) (v 0 0).toNat (by omega)
    have a2 := fxT_le v (maxTo (v 0 0).toNat (fun c => v 10 c) 0) (v 0 1).toNat
    omega
end SMS
