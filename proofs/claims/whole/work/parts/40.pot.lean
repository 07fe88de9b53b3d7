/-! ===== laying a part: what holds still holds ===== -/
def setV (v : sk_H) (p : Nat) (q : sk_Q) : sk_H := if q.2.2.2.1 = -1 then raisV (lieV v p q.1 q.2.1 q.2.2.1 2) q.1.toNat (acr v p q.2.2.1).toNat q.2.1 (tal v p q.2.2.1) else cornV (lieV v p q.1 q.2.1 q.2.2.1 3) q.2.2.2.1.toNat (acr v p q.2.2.1) (tal v p q.2.2.1)
def ldN (v : sk_H) : Int := cntTo (v 0 1).toNat (fun p => decide (2 ≤ v 5 p))
def VT (v : sk_H) : Prop := VO v ∧ (∀ c : Nat, (c : Int) < v 0 0 → v 10 c ≤ 70 + 21 * ldN v) ∧ v 0 5 + segN v ≤ 1 + 3 * ldN v ∧ (0 < ldN v → ∃ c : Nat, (c : Int) < v 0 0 ∧ 1 ≤ v 10 c)
theorem lie_ne (v : sk_H) (p : Nat) (x y o how : Int) {s k : Nat} (h : ¬ (k = p ∧ (s = 6 ∨ s = 7 ∨ s = 8 ∨ s = 5 ∨ s = 15 ∨ s = 16))) : lieV v p x y o how s k = v s k := by
  unfold lieV
  rw [u2_ne _ _ (by omega), u2_ne _ _ (by omega), u2_ne _ _ (by omega), u2_ne _ _ (by omega), u2_ne _ _ (by omega), u2_ne _ _ (by omega)]
theorem lie_at (v : sk_H) (p : Nat) (x y o how : Int) : lieV v p x y o how 6 p = x ∧ lieV v p x y o how 7 p = y ∧ lieV v p x y o how 8 p = o ∧ lieV v p x y o how 5 p = how ∧ lieV v p x y o how 15 p = acr v p o ∧ lieV v p x y o how 16 p = tal v p o := by
  unfold lieV
  simp [u2]
theorem lie_acr (v : sk_H) (p : Nat) (x y o how : Int) (q : Nat) (r : Int) : acr (lieV v p x y o how) q r = acr v q r ∧ tal (lieV v p x y o how) q r = tal v q r := by
  unfold acr tal
  rw [lie_ne v p x y o how (s := 1) (k := q) (by omega), lie_ne v p x y o how (s := 2) (k := q) (by omega), lie_ne v p x y o how (s := 3) (k := q) (by omega)]
  exact ⟨rfl, rfl⟩
theorem VO_lieV {v : sk_H} (hV : VO v) {p : Nat} (hp : (p : Int) < v 0 1) {x y o how : Int} (h1 : 0 ≤ x) (h2 : x + acr v p o ≤ v 0 0) (h3 : 0 ≤ y) (h4 : y ≤ 300) (ho : o = 0 ∨ o = 1) (h5 : 1 ≤ how) (h6 : how ≤ 3) (h7 : how = 1 → o = 0 ∧ y ≤ 60 ∧ ∀ k : Nat, (k : Int) < v 0 2 → (v 9 k).toNat ≠ p) : VO (lieV v p x y o how) := by
  obtain ⟨hN, hP, hD, hE, hW⟩ := hV
  have z := fun k => lie_ne v p x y o how (s := 0) (k := k) (by omega)
  have e := fun s k (h : ¬ (s = 6 ∨ s = 7 ∨ s = 8 ∨ s = 5 ∨ s = 15 ∨ s = 16)) => lie_ne v p x y o how (s := s) (k := k) (by omega)
  have f := fun (s : Nat) (h : ¬ (s = 6 ∨ s = 7 ∨ s = 8 ∨ s = 5 ∨ s = 15 ∨ s = 16)) => (funext fun k => e s k h : lieV v p x y o how s = v s)
  obtain ⟨l6, l7, l8, l5, l15, l16⟩ := lie_at v p x y o how
  refine ⟨?_, ?_, ?_, ?_, ?_⟩
  · unfold VN at hN ⊢
    rw [f 0 (by omega)]
    exact hN
  · intro q hq
    rw [z 1] at hq
    have hQ := hP q hq
    unfold VP at hQ ⊢
    rw [z 0, e 1 q (by omega), e 2 q (by omega), e 3 q (by omega), e 4 q (by omega)]
    obtain ⟨q1, q2, q3, q4, q5, q6, q7, q8, q9, q10, q11, q12, q13⟩ := hQ
    by_cases c : q = p
    · subst c
      rw [l5, l6, l7, l8, l15, l16, (lie_acr v q x y o how q o).1, (lie_acr v q x y o how q o).2]
      refine ⟨q1, q2, q3, q4, q5, q6, q7, q8, by omega, by omega, ho, fun _ => ⟨h1, h2, h3, h4, rfl, rfl⟩, fun h => ⟨(h7 h).1, (h7 h).2.1⟩⟩
    · rw [lie_ne v p x y o how (s := 5) (k := q) (by omega), lie_ne v p x y o how (s := 6) (k := q) (by omega), lie_ne v p x y o how (s := 7) (k := q) (by omega), lie_ne v p x y o how (s := 8) (k := q) (by omega), lie_ne v p x y o how (s := 15) (k := q) (by omega), lie_ne v p x y o how (s := 16) (k := q) (by omega), (lie_acr v p x y o how q (v 8 q)).1, (lie_acr v p x y o how q (v 8 q)).2]
      exact ⟨q1, q2, q3, q4, q5, q6, q7, q8, q9, q10, q11, q12, q13⟩
  · unfold VD at hD ⊢
    rw [f 0 (by omega), f 9 (by omega)]
    refine ⟨fun k hk => ?_, hD.2⟩
    obtain ⟨d1, d2, d3⟩ := hD.1 k hk
    refine ⟨d1, d2, ?_⟩
    by_cases c : (v 9 k).toNat = p
    · rw [c, l5]
      intro h
      exact (h7 h).2.2 k hk c
    · rw [lie_ne v p x y o how (s := 5) (k := (v 9 k).toNat) (by omega)]
      exact d3
  · unfold VE at hE ⊢
    rw [f 0 (by omega), f 10 (by omega)]
    exact hE
  · unfold VW at hW ⊢
    rw [f 0 (by omega), f 11 (by omega), f 12 (by omega), f 13 (by omega), f 14 (by omega)]
    exact hW
theorem sky_ne (v : sk_H) (x w : Nat) (h : Int) {s k : Nat} (hs : s ≠ 10) : skyS v x w h s k = v s k := by
  unfold skyS
  rw [if_neg (by omega)]
theorem VO_skyS {v : sk_H} (hV : VO v) {x w : Nat} {h : Int} (h1 : 0 ≤ h) (h2 : h ≤ 300) : VO (skyS v x w h) := by
  obtain ⟨hN, hP, hD, hE, hW⟩ := hV
  have f := fun (s : Nat) (hs : s ≠ 10) => (funext fun k => sky_ne v x w h hs : skyS v x w h s = v s)
  refine ⟨?_, ?_, ?_, ?_, ?_⟩
  · unfold VN at hN ⊢
    rw [f 0 (by omega)]
    exact hN
  · intro q hq
    rw [f 0 (by omega)] at hq
    have hQ := hP q hq
    unfold VP acr tal at hQ ⊢
    rw [f 0 (by omega), f 1 (by omega), f 2 (by omega), f 3 (by omega), f 4 (by omega), f 5 (by omega), f 6 (by omega), f 7 (by omega), f 8 (by omega), f 15 (by omega), f 16 (by omega)]
    exact hQ
  · unfold VD at hD ⊢
    rw [f 0 (by omega), f 9 (by omega), f 5 (by omega)]
    exact hD
  · intro c hc
    rw [f 0 (by omega)] at hc
    unfold skyS
    split
    · exact ⟨h1, h2⟩
    · exact hE c hc
  · unfold VW at hW ⊢
    rw [f 0 (by omega), f 11 (by omega), f 12 (by omega), f 13 (by omega), f 14 (by omega)]
    exact hW
theorem topIn_70 {v : sk_H} (hV : VO v) (x y w t : Int) : topIn v x y w t ≤ 70 := by
  obtain ⟨n1, n2, n3, n4, n5, n6, n7, n8, n9, n10, n11, n12⟩ := hV.1
  refine (fld_inv (fun _ (s : Int) => s ≤ 70) (fun k s hk hs => ?_) (by omega) : topIn v x y w t ≤ 70)
  split
  · next hc =>
    have h5 : v 5 k = 1 := (of_decide_eq_true hc.1).1
    obtain ⟨p1, p2, p3, p4, p5, p6, p7, p8, p9, p10, p11, p12, p13⟩ := vo_p hV (p := k) (by omega)
    have h8 := p13 h5
    have h16 := (p12 (by omega)).2.2.2.2.2
    unfold tal at h16
    rw [if_pos h8.1] at h16
    split at h16 <;> omega
  · exact hs
theorem restF_70 {v : sk_H} (hV : VO v) {x w t : Int} : ∀ (n : Nat) (y : Int), restF v x w t n y ≤ y ∨ restF v x w t n y ≤ 70
  | 0, y => Or.inl (Int.le_refl _)
  | n + 1, y => by
    unfold restF
    split
    · exact Or.inl (Int.le_refl _)
    · have h1 := topIn_70 hV x y w t
      rcases restF_70 hV n (topIn v x y w t) (x := x) (w := w) (t := t) with h | h <;> omega
theorem skyMx_ge {v : sk_H} {x w c : Nat} (h1 : x ≤ c) (h2 : c < x + w) : v 10 c ≤ skyMx v x w := by
  have key : ∀ n, n ≤ w → ∀ j, j < n → v 10 (x + j) ≤ maxTo n (fun j => v 10 (x + j)) 0 := by
    intro n
    induction n with
    | zero => intro _ j hj; omega
    | succ n ih =>
      intro hn j hj
      rw [maxTo_succ]
      by_cases e : j = n
      · subst e
        split <;> omega
      · have := ih (by omega) j (by omega)
        split <;> omega
  have := key w (Nat.le_refl _) (c - x) (by omega)
  rwa [show x + (c - x) = c by omega] at this
theorem skyMx_le {v : sk_H} {x w : Nat} {B : Int} (hB : 0 ≤ B) (h : ∀ c, x ≤ c → c < x + w → v 10 c ≤ B) : skyMx v x w ≤ B :=
  (maxTo_rng (lo := 0) ⟨by omega, hB⟩ (fun k hk => h (x + k) (by omega) (by omega))).2
/-- what was found -/
def FQ (v : sk_H) (p : Nat) (q : sk_Q) : Prop := (q.2.2.1 = 0 ∨ q.2.2.1 = 1) ∧ ((q.2.2.2.1 = -1 ∧ ∃ x : Nat, q.1 = x ∧ (x : Int) + acr v p q.2.2.1 ≤ v 0 0 ∧ q.2.1 = rsY v p x q.2.2.1) ∨ ∃ k : Nat, q.2.2.2.1 = k ∧ (k : Int) < v 0 5 ∧ q.1 = v 11 k ∧ q.2.1 = v 12 k ∧ acr v p q.2.2.1 ≤ v 13 k ∧ tal v p q.2.2.1 ≤ v 14 k)
theorem wst_FQ {v : sk_H} {p k : Nat} (hk : (k : Int) < v 0 5) {o : Int} (ho : o = 0 ∨ o = 1) {s : Option sk_Q} (hs : ∀ q, s = some q → FQ v p q) : ∀ q, wst v p k o s = some q → FQ v p q := by
  intro q hq
  unfold wst at hq
  split at hq
  · exact hs q hq
  · next hc =>
    have hn : FQ v p (v 11 k, v 12 k, o, (k : Int), v 13 k * v 14 k - acr v p o * tal v p o) := ⟨ho, Or.inr ⟨k, rfl, hk, rfl, rfl, by dsimp only; omega, by dsimp only; omega⟩⟩
    split at hq
    · cases hq; exact hn
    · split at hq
      · cases hq; exact hn
      · exact hs q hq
theorem fF_FQ {v : sk_H} {p : Nat} {q : sk_Q} (h : fF v p = some q) : FQ v p q := by
  have hw : ∀ q, wF v p = some q → FQ v p q := by
    refine fld_inv (fun _ s => ∀ q, s = some q → FQ v p q) (fun k s hk hs => ?_) (fun q h => by cases h)
    have hkk : (k : Int) < v 0 5 := by omega
    unfold wst2
    split
    · exact wst_FQ hkk (Or.inr rfl) (wst_FQ hkk (Or.inl rfl) hs)
    · exact wst_FQ hkk (Or.inl rfl) hs
  have hs : ∀ q, sF v p = some q → FQ v p q := by
    intro q hq
    have hb := sF_BO v p
    rw [hq] at hb
    obtain ⟨x, o, ⟨h1, h2⟩, h3, rfl, -⟩ := hb
    unfold fea at h3
    rw [Bool.and_eq_true, decide_eq_true_eq] at h3
    exact ⟨by dsimp only [cnd]; omega, Or.inl ⟨rfl, x, rfl, h3.1, rfl⟩⟩
  unfold fF at h
  split at h
  · exact hs q h
  · split at h
    · exact hs q h
    · next q' hq' => cases h; exact hw q hq'
theorem ldN_rng {v : sk_H} (hV : VO v) : 0 ≤ ldN v ∧ ldN v ≤ v 0 1 := by
  obtain ⟨n1, n2, n3, n4, n5, n6, n7, n8, n9, n10, n11, n12⟩ := hV.1
  have := cntTo_rng (v 0 1).toNat (fun p => decide (2 ≤ v 5 p))
  unfold ldN
  omega
theorem ldN_lie {v : sk_H} (hV : VO v) {p : Nat} (hp : (p : Int) < v 0 1) (h0 : v 5 p = 0) {x y o how : Int} (hh : 2 ≤ how) : ldN (lieV v p x y o how) = ldN v + 1 := by
  obtain ⟨n1, n2, n3, n4, n5, n6, n7, n8, n9, n10, n11, n12⟩ := hV.1
  obtain ⟨-, -, -, l5, -, -⟩ := lie_at v p x y o how
  have e01 : lieV v p x y o how 0 1 = v 0 1 := lie_ne v p x y o how (by omega)
  have key : ∀ n, cntTo n (fun p' => decide (2 ≤ lieV v p x y o how 5 p')) = cntTo n (fun p => decide (2 ≤ v 5 p)) + if p < n then 1 else 0 := by
    intro n
    induction n with
    | zero => rfl
    | succ n ih =>
      rw [cntTo_succ, cntTo_succ, ih]
      by_cases e : n = p
      · subst e
        rw [l5, h0]
        simp [hh]
      · rw [lie_ne v p x y o how (s := 5) (k := n) (by omega)]
        by_cases c1 : p < n
        · rw [if_pos c1, if_pos (show p < n + 1 by omega)]; split <;> omega
        · rw [if_neg c1, if_neg (show ¬ p < n + 1 by omega)]; split <;> omega
  unfold ldN
  rw [e01, key, if_pos (by omega)]
/-- segments and rectangles together grow by no more than three -/
theorem seg_raise {v v' : sk_H} {x w : Nat} (hw : 1 ≤ w) {h : Int} (hin : ∀ c, x ≤ c → c < x + w → v' 10 c = h) (hout : ∀ c, ¬ (x ≤ c ∧ c < x + w) → v' 10 c = v 10 c) (n : Nat) (hx : x + w ≤ n + 1) : bndN v x w w + cntTo n (fun c => decide (v' 10 (c + 1) ≠ v' 10 c)) ≤ cntTo n (fun c => decide (v 10 (c + 1) ≠ v 10 c)) + 3 := by
  have hb : ∀ k, k ≤ w → bndN v x w k = (if k = w then 1 else 0) + cntTo (if k = w then w - 1 else k) (fun j => decide (v 10 (x + j + 1) ≠ v 10 (x + j))) := by
    intro k
    induction k with
    | zero => intro _; rw [if_neg (by omega), if_neg (by omega)]; rfl
    | succ k ih =>
      intro hk
      have h1 := ih (by omega)
      rw [if_neg (by omega), if_neg (by omega)] at h1
      unfold bndN at h1 ⊢
      rw [cntTo_succ, h1]
      by_cases e : k + 1 = w
      · have hd : decide (k + 1 < w ∧ v 10 (x + k + 1) = v 10 (x + k)) = false := decide_eq_false (by omega)
        rw [hd, if_pos e, if_pos e]
        have : w - 1 = k := by omega
        rw [this]
        simp
        omega
      · rw [if_neg e, if_neg e, cntTo_succ]
        by_cases c : v 10 (x + k + 1) = v 10 (x + k)
        · rw [decide_eq_true (show k + 1 < w ∧ v 10 (x + k + 1) = v 10 (x + k) from ⟨by omega, c⟩), decide_eq_false (show ¬ v 10 (x + k + 1) ≠ v 10 (x + k) from fun h => h c)]
          simp
        · rw [decide_eq_false (show ¬ (k + 1 < w ∧ v 10 (x + k + 1) = v 10 (x + k)) from fun h => c h.2), decide_eq_true (show v 10 (x + k + 1) ≠ v 10 (x + k) from c)]
          simp
  have hbw := hb w (Nat.le_refl _)
  rw [if_pos rfl, if_pos rfl] at hbw
  have key : ∀ n : Nat, cntTo (min (n - x) (w - 1)) (fun j => decide (v 10 (x + j + 1) ≠ v 10 (x + j))) + cntTo n (fun c => decide (v' 10 (c + 1) ≠ v' 10 c)) ≤ cntTo n (fun c => decide (v 10 (c + 1) ≠ v 10 c)) + ((min 1 (n + 1 - x) : Nat) : Int) + ((min 1 (n + 1 - (x + w)) : Nat) : Int) := by
    intro n
    induction n with
    | zero =>
      have z0 : ∀ P, cntTo 0 P = 0 := fun _ => rfl
      rw [show min (0 - x) (w - 1) = 0 by omega, z0, z0, z0]
      omega
    | succ n ih =>
      rw [cntTo_succ, cntTo_succ]
      have hle : ∀ P : Nat → Bool, cntTo n P ≤ (if P n = true then cntTo n P + 1 else cntTo n P) ∧ (if P n = true then cntTo n P + 1 else cntTo n P) ≤ cntTo n P + 1 := fun P => by split <;> omega
      have h1 := hle (fun c => decide (v' 10 (c + 1) ≠ v' 10 c))
      have h2 := hle (fun c => decide (v 10 (c + 1) ≠ v 10 c))
      by_cases c2 : n + 1 = x
      · rw [show min (n + 1 - x) (w - 1) = min (n - x) (w - 1) by omega]
        omega
      by_cases c4 : n = x + (w - 1)
      · rw [show min (n + 1 - x) (w - 1) = min (n - x) (w - 1) by omega]
        omega
      by_cases c3 : x ≤ n ∧ n < x + (w - 1)
      · have e1 : min (n - x) (w - 1) = n - x := by omega
        have e2 : min (n + 1 - x) (w - 1) = (n - x) + 1 := by omega
        rw [e1] at ih
        rw [e2, cntTo_succ, show x + (n - x) = n by omega]
        have e3 : decide (v' 10 (n + 1) ≠ v' 10 n) = false := decide_eq_false (fun h => h (by rw [hin (n + 1) (by omega) (by omega), hin n (by omega) (by omega)]))
        rw [e3]
        have e4 : ((min 1 (n + 1 - x) : Nat) : Int) ≤ ((min 1 (n + 1 + 1 - x) : Nat) : Int) := by omega
        have e5 : ((min 1 (n + 1 - (x + w)) : Nat) : Int) ≤ ((min 1 (n + 1 + 1 - (x + w)) : Nat) : Int) := by omega
        simp only [Bool.false_eq_true, if_false]
        split <;> omega
      · rw [show min (n + 1 - x) (w - 1) = min (n - x) (w - 1) by omega]
        rw [hout (n + 1) (by omega), hout n (by omega)]
        split <;> omega
  have k := key n
  rw [show min (n - x) (w - 1) = w - 1 by omega] at k
  rw [hbw]
  omega
