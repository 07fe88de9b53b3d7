/-! ===== stages: the numbers of the pieces, the cuts of one start ===== -/
section NUM
variable {S : List sk_Sh} {I v : sk_H}
def grP (lab ln : Nat → Int) (i : Nat) : Nat → Bool := fun j => decide (lab j = lab i ∧ ln j = ln i)
def nuF (lab ln : Nat → Int) (i : Nat) : Int := (lsF (grP lab ln i) i i : Int)
theorem lsF_rng (P : Nat → Bool) (i : Nat) : lsF P i i ≤ i := by
  rcases lsF_spec P i i with ⟨h, -⟩ | ⟨h, -⟩ <;> omega
theorem c16_20 {d : Nat} (hS : sk_G S) {K : sk_H} {i : Nat} (hi : i < 10) {lab ln : Nat → Int} (e5 : ∀ k, k ≤ i → K 85 k = lab k) (e6 : ∀ k, k ≤ i → K 86 k = ln k) (r5 : ∀ k, k ≤ i → 0 ≤ lab k ∧ lab k ≤ 1000) (r6 : ∀ k, k ≤ i → -1 ≤ ln k ∧ ln k ≤ 1000) (c : Int) : ∀ n s, n ≤ i → s ≤ i → ∃ o3 o4, sk_D16 d 20 [some (.ref 80), some (.int (sj c)), some (.int (sj (i : Int))), some (.int (sj (s : Int))), some (.int (sj ((n : Int) - 1)))] [] (sk_mk S K) = sk_D16 d 9 [some (.ref 80), some (.int (sj (if lsF (grP lab ln i) s n = i then c + 1 else c))), some (.int (sj ((i : Int) - 1))), o3, o4] [] (sk_mk S (u2 K 85 i (lsF (grP lab ln i) s n : Int))) := by
  intro n
  have tm : (i : Int) + -1 = (i : Int) - 1 := by omega
  induction n with
  | zero =>
    intro s _ hs
    rw [sk_e16_20, if_pos (ky_lt (by omega) (by omega) (by omega) (by omega) (by omega))]
    show ∃ o3 o4, _ = sk_D16 d 9 [_, some (.int (sj (if s = i then c + 1 else c))), _, o3, o4] [] (sk_mk S (u2 K 85 i (s : Int)))
    by_cases e : s = i
    · subst e
      rw [if_neg (kn_ne rfl), g80_r4b hS, g85_sb hS (by omega) (by omega), Int.toNat_natCast, sj_add, sj_add, tm, if_pos rfl]
      exact ⟨_, _, rfl⟩
    · rw [if_pos (ky_ne (by omega) (by omega) (by omega) (by omega) (by omega)), g80_r4b hS, g85_sb hS (by omega) (by omega), Int.toNat_natCast, sj_add, tm, if_neg e]
      exact ⟨_, _, rfl⟩
  | succ n ih =>
    intro s hn hs
    have t1 : ((n + 1 : Nat) : Int) - 1 = (n : Int) := by omega
    have t2 : (n : Int) + -1 = (n : Int) - 1 := by omega
    have q1 := r5 n (by omega)
    have q2 := r5 i (by omega)
    have q3 := r6 n (by omega)
    have q4 := r6 i (by omega)
    rw [t1, lsF_s, sk_e16_20, if_neg (kn_lt (by omega) (by omega) (by omega) (by omega) (by omega)), g80_r4b hS, g85_ab hS (by omega) (by omega), Int.toNat_natCast, g80_r4b hS, g85_ab hS (by omega) (by omega), Int.toNat_natCast, e5 n (by omega), e5 i (by omega)]
    by_cases c1 : lab n = lab i
    rotate_left
    · rw [if_pos (ky_ne (by omega) (by omega) (by omega) (by omega) c1), sj_add, t2, if_neg (show ¬ grP lab ln i n = true from fun h => c1 (of_decide_eq_true h).1)]
      exact ih s (by omega) hs
    rw [if_neg (kn_ne c1), g80_r5b hS, g86_ab hS (by omega) (by omega), Int.toNat_natCast, g80_r5b hS, g86_ab hS (by omega) (by omega), Int.toNat_natCast, e6 n (by omega), e6 i (by omega)]
    by_cases c2 : ln n = ln i
    rotate_left
    · rw [if_pos (ky_ne (by omega) (by omega) (by omega) (by omega) c2), sj_add, t2, if_neg (show ¬ grP lab ln i n = true from fun h => c2 (of_decide_eq_true h).2)]
      exact ih s (by omega) hs
    rw [if_neg (kn_ne c2), sj_add, t2, if_pos (show grP lab ln i n = true from decide_eq_true ⟨c1, c2⟩)]
    exact ih n (by omega) (by omega)
theorem m16 {d : Nat} (hd : 1 ≤ d) (hS : sk_G S) {K : sk_H} {L : Nat} (hL : L ≤ 10) (h6 : K 80 6 = L) {lab ln : Nat → Int} (e5 : ∀ k, k < L → K 85 k = lab k) (e6 : ∀ k, k < L → K 86 k = ln k) (r5 : ∀ k, k < L → 0 ≤ lab k ∧ lab k ≤ 1000) (r6 : ∀ k, k < L → -1 ≤ ln k ∧ ln k ≤ 1000) : ∃ J, sk_c d 16 [.ref 80] (sk_mk S K) = some (some (.int (sj (nbL L (nuF lab ln)))), sk_mk S J) ∧ EQ L (J 85) (nuF lab ln) ∧ ∀ c, c ≠ 85 → J c = K c := by
  obtain ⟨d, rfl⟩ : ∃ e, d = e + 1 := ⟨d - 1, by omega⟩; rw [sk_e16]
  have key : ∀ m, m ≤ L → ∀ J : sk_H, (∀ k, k < m → J 85 k = lab k) → (∀ k, m ≤ k → k < L → J 85 k = nuF lab ln k) → (∀ c, c ≠ 85 → J c = K c) → ∀ o3 o4, ∃ Q, sk_D16 d 9 [some (.ref 80), some (.int (sj (nbL L (nuF lab ln) - cntTo m (fun i => decide (nuF lab ln i = (i : Int)))))), some (.int (sj ((m : Int) - 1))), o3, o4] [] (sk_mk S J) = some (some (.int (sj (nbL L (nuF lab ln)))), sk_mk S Q) ∧ EQ L (Q 85) (nuF lab ln) ∧ ∀ c, c ≠ 85 → Q c = K c := by
    intro m
    induction m with
    | zero =>
      intro _ J _ j2 j3 o3 o4
      refine ⟨J, ?_, fun k hk => j2 k (by omega) hk, j3⟩
      rw [sk_e16_9, if_pos (ky_lt (by omega) (by omega) (by omega) (by omega) (by omega)), show cntTo 0 (fun i => decide (nuF lab ln i = (i : Int))) = 0 from rfl, Int.sub_zero]
    | succ m ih =>
      intro hm J j1 j2 j3 o3 o4
      have t1 : ((m + 1 : Nat) : Int) - 1 = (m : Int) := by omega
      obtain ⟨p3, p4, e⟩ := c16_20 (S := S) (d := d) (K := J) hS (i := m) (by omega) (lab := lab) (ln := ln) (fun k hk => j1 k (by omega)) (fun k hk => by rw [j3 86 (by omega)]; exact e6 k (by omega)) (fun k hk => r5 k (by omega)) (fun k hk => r6 k (by omega)) (nbL L (nuF lab ln) - cntTo (m + 1) (fun i => decide (nuF lab ln i = (i : Int)))) m m (by omega) (by omega)
      have ec : (if lsF (grP lab ln m) m m = m then nbL L (nuF lab ln) - cntTo (m + 1) (fun i => decide (nuF lab ln i = (i : Int))) + 1 else nbL L (nuF lab ln) - cntTo (m + 1) (fun i => decide (nuF lab ln i = (i : Int)))) = nbL L (nuF lab ln) - cntTo m (fun i => decide (nuF lab ln i = (i : Int))) := by
        rw [cntTo_succ]
        by_cases c : lsF (grP lab ln m) m m = m
        · have : decide (nuF lab ln m = (m : Int)) = true := decide_eq_true (by unfold nuF; omega)
          rw [if_pos c, if_pos this]
          omega
        · have : decide (nuF lab ln m = (m : Int)) = false := decide_eq_false (by unfold nuF; omega)
          rw [if_neg c, if_neg (by rw [this]; decide)]
      rw [ec] at e
      obtain ⟨Q, e2, q⟩ := ih (by omega) (u2 J 85 m (lsF (grP lab ln m) m m : Int)) (fun k hk => by rw [u2_ne _ _ (by omega)]; exact j1 k (by omega)) (fun k hk1 hk2 => by
        by_cases f : k = m
        · rw [f, u2_eq]; rfl
        · rw [u2_ne _ _ (by omega)]; exact j2 k (by omega) hk2) (fun c hc => (funext fun k => u2_ne _ _ (by omega)).trans (j3 c hc)) p3 p4
      refine ⟨Q, ?_, q⟩
      rw [t1, sk_e16_9, if_neg (kn_lt (by omega) (by omega) (by omega) (by omega) (by omega)), sj_sub, e, e2]
  obtain ⟨Q, e, q⟩ := key L (Nat.le_refl _) K e5 (fun k h1 h2 => absurd h2 (by omega)) (fun _ _ => rfl) none none
  refine ⟨Q, ?_, q⟩
  rw [g80_i6b hS, h6, sj_sub]
  have z : nbL L (nuF lab ln) - cntTo L (fun i => decide (nuF lab ln i = (i : Int))) = 0 := by show nbL L (nuF lab ln) - nbL L (nuF lab ln) = 0; omega
  rw [z] at e
  exact e
theorem nuF_ct {L : Nat} {lo hi lab lab' ln : Nat → Int} (h1 : EQ L lab lab') (h2 : ∀ k, k < L → ln k = lnF L lo hi lab' k L) : EQ L (nuF lab ln) (ctL L lo hi lab') := fun i hk1 => by
  show ((lsF (grP lab ln i) i i : Nat) : Int) = ((nwL L lo hi lab' i : Nat) : Int)
  have : lsF (grP lab ln i) i i = nwL L lo hi lab' i := lsF_congr i i (fun k hk => by
    unfold grP nwP
    rw [h1 k (by omega), h1 i hk1, h2 k (by omega), h2 i hk1])
  rw [this]
/-- one cut -/
theorem m14a {d : Nat} (hd : 2 ≤ d) (hS : sk_G S) {K : sk_H} {x3 x4 L : Nat} (h3 : S[x3]? = some (.inl 10)) (h4 : S[x4]? = some (.inl 10)) (n3 : x3 ≠ 86) (n4 : x4 ≠ 86) (hL : L ≤ 10) (h6 : K 80 6 = L) {lo hi lab : Nat → Int} (q3 : EQ L (K x3) lo) (q4 : EQ L (K x4) hi) (q5 : EQ L (K 85) lab) (r3 : ∀ k, k < L → 0 ≤ lo k ∧ lo k < hi k ∧ hi k ≤ 1000) (r5 : ∀ k, k < L → 0 ≤ lab k ∧ lab k ≤ 1000) : ∃ J : sk_H, sk_c d 14 [.ref 80, .ref x3, .ref x4] (sk_mk S K) = some (some (.int (sj (nbL L (ctL L lo hi lab)))), sk_mk S J) ∧ EQ L (J 85) (ctL L lo hi lab) ∧ ∀ c, c ≠ 85 → c ≠ 86 → J c = K c := by
  obtain ⟨J, j1, j2, e⟩ := m14 (S := S) (K := K) (d := d) hd hS h3 h4 n3 n4 hL h6 (fun k hk => by rw [q3 k hk]; have := r3 k hk; omega) (fun k hk => by rw [q4 k hk]; have := r3 k hk; omega) (fun k hk => by rw [q5 k hk]; exact r5 k hk)
  have j1' : ∀ k, k < L → J 86 k = lnF L lo hi lab k L := fun k hk => (j1 k hk).trans (lnF_congr q3 q4 q5 hk L (Nat.le_refl _))
  have c := nuF_ct (L := L) (lo := lo) (hi := hi) (lab := lab) (lab' := lab) (ln := J 86) (fun _ _ => rfl) j1'
  obtain ⟨Q, e2, q1, q2⟩ := m16 (S := S) (K := J) (d := d - 1) (by omega) hS hL (by rw [j2 80 (by omega)]; exact h6) (lab := lab) (ln := J 86) (fun k hk => by rw [j2 85 (by omega)]; exact q5 k hk) (fun _ _ => rfl) r5 (fun k hk => by
    rw [j1' k hk]
    exact lnF_rng (fun m hm => by have := r3 m hm; omega) L (Nat.le_refl _))
  refine ⟨Q, ?_, fun k hk => (q1 k hk).trans (c k hk), fun c hc1 hc2 => (q2 c hc1).trans (j2 c hc2)⟩
  rw [e, e2, sk_ci_some, nb_congr c]
end NUM
section NUS
variable {S : List sk_Sh} {I v : sk_H}
theorem sq_rng (L : Nat) (lo hi : Nat → Nat → Int) (a t : Nat) {k : Nat} (hk : k < L) (hL : L ≤ 10) : 0 ≤ sqL L lo hi a t k ∧ sqL L lo hi a t k ≤ 1000 := by
  obtain ⟨m, m1, m2, -⟩ := CNL_sq L lo hi a t k hk
  omega
/-- the cuts of one start -/
theorem m13 {d : Nat} (hd : 3 ≤ d) (hS : sk_G S) {K : sk_H} {L : Nat} (h2 : 2 ≤ L) (hL : L ≤ 10) (h6 : K 80 6 = L) {lo hi : Nat → Nat → Int} (q1 : EQ L (K 81) (lo 0)) (q2 : EQ L (K 82) (hi 0)) (q3 : EQ L (K 83) (lo 1)) (q4 : EQ L (K 84) (hi 1)) (r3 : ∀ a k, k < L → 0 ≤ lo a k ∧ lo a k < hi a k ∧ hi a k ≤ 1000) {a : Nat} (ha : a < 2) : ∃ x J, sk_c d 13 [.ref 80, .int (sj (1 - (a : Int)))] (sk_mk S K) = some (some (.int (sj x)), sk_mk S J) ∧ RsC L lo hi a x ∧ ∀ c, c ≠ 85 → c ≠ 86 → J c = K c := by
  obtain ⟨d, rfl⟩ : ∃ e, d = e + 1 := ⟨d - 1, by omega⟩; rw [sk_e13]
  have s81 : S[81]? = some (.inl 10) := (hS 80 (by omega)).trans rfl
  have s82 : S[82]? = some (.inl 10) := (hS 81 (by omega)).trans rfl
  have s83 : S[83]? = some (.inl 10) := (hS 82 (by omega)).trans rfl
  have s84 : S[84]? = some (.inl 10) := (hS 83 (by omega)).trans rfl
  have s85 : S[85]? = some (.inl 10) := (hS 84 (by omega)).trans rfl
  have n0 : nbL L (sqL L lo hi a 0) = 1 := by
    have h := nb_rng L (sqL L lo hi a 0)
    have u : ∀ m, m ≤ L → cntTo m (fun i => decide (sqL L lo hi a 0 i = (i : Int))) = if m = 0 then 0 else 1 := by
      intro m
      induction m with
      | zero => intro _; rfl
      | succ m ih =>
        intro hm
        rw [cntTo_succ, ih (by omega)]
        by_cases c : m = 0
        · subst c; rfl
        · have : decide (sqL L lo hi a 0 m = (m : Int)) = false := decide_eq_false (by rw [sqL_0]; omega)
          rw [if_neg (by rw [this]; decide), if_neg c, if_neg (by omega)]
    exact (u L (Nat.le_refl _)).trans (if_neg (by omega))
  have key : ∀ m u, u + m = 9 → ∀ (J : sk_H) (o1 o5 : Option Value), EQ L (J 85) (sqL L lo hi a u) → (u : Int) + 1 ≤ nbL L (sqL L lo hi a u) → (∀ s, s ≤ u → nbL L (sqL L lo hi a s) ≠ L) → (∀ c, c ≠ 85 → c ≠ 86 → J c = K c) → ∃ x Q, sk_D13 d 15 [some (.ref 80), o1, some (.int (sj (nbL L (sqL L lo hi a u)))), some (.int (sj (1 - ((a + u : Nat) % 2 : Nat) : Int))), some (.int (sj ((u + 1 : Nat) : Int))), o5] [] (sk_mk S J) = some (some (.int (sj x)), sk_mk S Q) ∧ RsC L lo hi a x ∧ ∀ c, c ≠ 85 → c ≠ 86 → Q c = K c := by
    intro m
    induction m with
    | zero =>
      intro u hu J o1 o5 _ j2 j3 _
      have := nb_rng L (sqL L lo hi a u)
      have := j3 u (Nat.le_refl _)
      omega
    | succ m ih =>
      intro u hu J o1 o5 j1 j2 j3 j4
      have mono := nb_mono (CNL_sq L lo hi a u) (CNL_sq L lo hi a (u + 1)) (fun i j _ _ h => sq_ref h)
      have nr := nb_rng L (sqL L lo hi a u)
      have nr2 := nb_rng L (sqL L lo hi a (u + 1))
      have t2 : ((u + 1 : Nat) : Int) + 1 = ((u + 1 + 1 : Nat) : Int) := rfl
      have e6 : J 80 6 = L := by rw [j4 80 (by omega) (by omega)]; exact h6
      have rl := fun (k : Nat) (hk : k < L) => sq_rng L lo hi a u hk hL
      -- behind the cut
      have bh : ∀ (Q : sk_H) (o1 o5 : Option Value) (f : Int), f = 1 - (((a + u) % 2 : Nat) : Int) → EQ L (Q 85) (sqL L lo hi a (u + 1)) → (∀ c, c ≠ 85 → c ≠ 86 → Q c = K c) → ∃ x P, sk_D13 d 53 [some (.ref 80), o1, some (.int (sj (nbL L (sqL L lo hi a u)))), some (.int (sj f)), some (.int (sj ((u + 1 : Nat) : Int))), o5] [.int (sj (nbL L (sqL L lo hi a (u + 1))))] (sk_mk S Q) = some (some (.int (sj x)), sk_mk S P) ∧ RsC L lo hi a x ∧ ∀ c, c ≠ 85 → c ≠ 86 → P c = K c := by
        intro Q o1 o5 f hf k1 k2
        have g6 : Q 80 6 = L := by rw [k2 80 (by omega) (by omega)]; exact h6
        rw [sk_e13_53, g80_i6b hS, g6]
        by_cases c1 : nbL L (sqL L lo hi a (u + 1)) = L
        · rw [if_neg (kn_ne c1)]
          exact ⟨_, Q, rfl, Or.inl ⟨u + 1, by omega, by omega, rfl, c1, fun s hs => j3 s (by omega)⟩, k2⟩
        rw [if_pos (ky_ne (by omega) (by omega) (by omega) (by omega) c1)]
        by_cases c2 : nbL L (sqL L lo hi a (u + 1)) = nbL L (sqL L lo hi a u)
        · rw [if_neg (kn_ne c2)]
          exact ⟨-1, Q, rfl, Or.inr ⟨rfl, u, j3 u (Nat.le_refl _), mono.2 c2⟩, k2⟩
        rw [if_pos (ky_ne (by omega) (by omega) (by omega) (by omega) c2)]
        have gt : ((u + 1 : Nat) : Int) + 1 ≤ nbL L (sqL L lo hi a (u + 1)) := by have := mono.1; omega
        have al : ∀ s, s ≤ u + 1 → nbL L (sqL L lo hi a s) ≠ L := fun s hs => by
          by_cases e : s = u + 1
          · rw [e]; exact c1
          · exact j3 s (by omega)
        have nx := fun o1 o5 => ih (u + 1) (by omega) Q o1 o5 k1 gt al k2
        by_cases c3 : (a + u) % 2 = 0
        · have ef : f = 1 := by omega
          have eg : 1 - (((a + (u + 1)) % 2 : Nat) : Int) = 0 := by omega
          rw [eg] at nx
          rw [ef, if_pos (by decide), sj_add, t2]
          exact nx _ _
        · have ef : f = 0 := by omega
          have eg : 1 - (((a + (u + 1)) % 2 : Nat) : Int) = 1 := by omega
          rw [eg] at nx
          rw [ef, if_neg (by decide), sj_add, t2]
          exact nx _ _
      rw [sk_e13_15, if_neg (kn_ge (by omega) (by omega) (by omega) (by omega) (by omega))]
      by_cases c3 : (a + u) % 2 = 0
      · obtain ⟨Q, e, k1, k2⟩ := m14a (S := S) (K := J) (d := d) (by omega) hS s81 s82 (by omega) (by omega) hL e6 (lo := lo 0) (hi := hi 0) (lab := sqL L lo hi a u) (by rw [j4 81 (by omega) (by omega)]; exact q1) (by rw [j4 82 (by omega) (by omega)]; exact q2) j1 (r3 0) rl
        have es : ctL L (lo 0) (hi 0) (sqL L lo hi a u) = sqL L lo hi a (u + 1) := by rw [sqL_s, c3]
        rw [es] at e k1
        rw [if_neg (kn_eq (by omega) (by omega) (by omega) (by omega) (by omega)), g80_r0b hS, g80_r1b hS, g80_ob hS, e, sk_ci_some]
        exact bh Q _ _ _ rfl k1 (fun c h1 h2 => (k2 c h1 h2).trans (j4 c h1 h2))
      · obtain ⟨Q, e, k1, k2⟩ := m14a (S := S) (K := J) (d := d) (by omega) hS s83 s84 (by omega) (by omega) hL e6 (lo := lo 1) (hi := hi 1) (lab := sqL L lo hi a u) (by rw [j4 83 (by omega) (by omega)]; exact q3) (by rw [j4 84 (by omega) (by omega)]; exact q4) j1 (r3 1) rl
        have es : ctL L (lo 1) (hi 1) (sqL L lo hi a u) = sqL L lo hi a (u + 1) := by rw [sqL_s, show (a + u) % 2 = 1 by omega]
        rw [es] at e k1
        rw [if_pos (ky_eq (by omega)), g80_r2b hS, g80_r3b hS, g80_ob hS, e, sk_ci_some]
        exact bh Q _ _ _ rfl k1 (fun c h1 h2 => (k2 c h1 h2).trans (j4 c h1 h2))
  obtain ⟨I1, e1, h1, f1⟩ := m242 (S := S) (I := K) (d := d) (by omega) s85 (by omega) (by omega) (h := 0)
  have := key 9 0 rfl I1 (some (.int (sj (1 - (a : Int))))) none (fun k hk => by rw [h1 k, if_pos (by omega)]; rfl) (by omega) (fun s hs => by
    obtain rfl : s = 0 := by omega
    omega) (fun c hc _ => f1 c hc)
  rw [n0, show (a + 0) % 2 = a by omega] at this
  rw [g80_r4b hS, e1, sk_cv_some]
  exact this
theorem RsC_rng {L : Nat} {lo hi : Nat → Nat → Int} {a : Nat} {x : Int} (h : RsC L lo hi a x) : -1 ≤ x ∧ x ≤ 9 := by
  rcases h with ⟨t, t1, t2, t3, -⟩ | ⟨h, -⟩ <;> omega
theorem m12 {d : Nat} (hd : 4 ≤ d) (hS : sk_G S) {K : sk_H} {L : Nat} (hL : L ≤ 10) (h6 : K 80 6 = L) {lo hi : Nat → Nat → Int} (q1 : EQ L (K 81) (lo 0)) (q2 : EQ L (K 82) (hi 0)) (q3 : EQ L (K 83) (lo 1)) (q4 : EQ L (K 84) (hi 1)) (r3 : ∀ a k, k < L → 0 ≤ lo a k ∧ lo a k < hi a k ∧ hi a k ≤ 1000) : ∃ x J, sk_c d 12 [.ref 80] (sk_mk S K) = some (some (.int (sj x)), sk_mk S J) ∧ (∀ c, c ≠ 85 → c ≠ 86 → J c = K c) ∧ (L ≤ 1 → x = 0) ∧ (2 ≤ L → ∃ xc yc, RsC L lo hi 0 xc ∧ RsC L lo hi 1 yc ∧ x = if xc ≠ -1 then (if yc ≠ -1 then (if yc < xc then yc else xc) else xc) else yc) := by
  obtain ⟨d, rfl⟩ : ∃ e, d = e + 1 := ⟨d - 1, by omega⟩; rw [sk_e12]
  rw [g80_i6b hS, h6]
  by_cases c : L ≤ 1
  · rw [if_neg (kn_gt (by omega) (by omega) (by omega) (by omega) (by omega))]
    exact ⟨0, K, rfl, fun _ _ _ => rfl, fun _ => rfl, fun h => absurd h (by omega)⟩
  rw [if_pos (ky_gt (by omega) (by omega) (by omega) (by omega) (by omega))]
  obtain ⟨xc, J, e, a1, a2⟩ := m13 (S := S) (K := K) (d := d) (by omega) hS (by omega) hL h6 q1 q2 q3 q4 r3 (a := 0) (by omega)
  have e : sk_c d 13 [.ref 80, .int (sj 1)] (sk_mk S K) = some (some (.int (sj xc)), sk_mk S J) := e
  obtain ⟨yc, Q, e', b1, b2⟩ := m13 (S := S) (K := J) (d := d) (by omega) hS (by omega) hL (by rw [a2 80 (by omega) (by omega)]; exact h6) (lo := lo) (hi := hi) (by rw [a2 81 (by omega) (by omega)]; exact q1) (by rw [a2 82 (by omega) (by omega)]; exact q2) (by rw [a2 83 (by omega) (by omega)]; exact q3) (by rw [a2 84 (by omega) (by omega)]; exact q4) r3 (a := 1) (by omega)
  have e' : sk_c d 13 [.ref 80, .int (sj 0)] (sk_mk S J) = some (some (.int (sj yc)), sk_mk S Q) := e'
  have x1 := RsC_rng a1
  have y1 := RsC_rng b1
  have fr : ∀ c, c ≠ 85 → c ≠ 86 → Q c = K c := fun c h1 h2 => (b2 c h1 h2).trans (a2 c h1 h2)
  rw [g80_ob hS, e, sk_ci_some, g80_ob hS, e', sk_ci_some]
  refine ⟨if xc ≠ -1 then (if yc ≠ -1 then (if yc < xc then yc else xc) else xc) else yc, Q, ?_, fr, fun h => absurd h (by omega), fun _ => ⟨xc, yc, a1, b1, rfl⟩⟩
  by_cases c1 : xc = -1
  · rw [if_neg (kn_ne c1), if_neg (fun h => h c1)]
  rw [if_pos (ky_ne (by omega) (by omega) (by omega) (by omega) c1), if_pos c1]
  by_cases c2 : yc = -1
  · rw [if_neg (kn_ne c2), if_neg (fun h => h c2)]
  rw [if_pos (ky_ne (by omega) (by omega) (by omega) (by omega) c2), if_pos c2, m240 (by omega) (by omega) (by omega) (by omega) (by omega), sk_ci_some]
end NUS
