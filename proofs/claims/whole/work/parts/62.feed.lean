/-! ===== feed ===== -/
section FEE
variable {S : List sk_Sh} {I v : sk_H}
theorem mk_new (S : List sk_Sh) (I : sk_H) : sk_mk S I ++ [.inl (5, fun _ => 0)] = sk_mk (S ++ [.inl 5]) (fun b k => if b = S.length then 0 else I b k) := by
  obtain ⟨I', hI'⟩ : ∃ I' : sk_H, I' = fun b k => if b = S.length then 0 else I b k := ⟨_, rfl⟩
  rw [← hI']
  apply List.ext_getElem?
  intro b
  unfold sk_mk
  rw [List.getElem?_mapIdx]
  by_cases h : b < S.length
  · rw [List.getElem?_append_left (by rw [List.length_mapIdx]; exact h), List.getElem?_append_left h, List.getElem?_mapIdx]
    cases hs : S[b]? with
    | none => rfl
    | some s =>
      show some (sk_mkC I b s) = some (sk_mkC I' b s)
      have e : I' b = I b := funext fun k => by rw [hI']; exact if_neg (by omega)
      rcases s with n | x | ⟨ci, fs⟩ <;> simp only [sk_mkC, e]
  · rw [List.getElem?_append_right (by rw [List.length_mapIdx]; omega), List.getElem?_append_right (by omega), List.length_mapIdx]
    by_cases e : b = S.length
    · subst e
      rw [Nat.sub_self]
      have e0 : ∀ j, I' S.length j = 0 := fun j => by rw [hI']; exact if_pos rfl
      show some (Sum.inl (5, fun _ => 0)) = some (Sum.inl (5, fun j => sj (I' S.length j)))
      simp only [e0]
      rfl
    · obtain ⟨m, hm⟩ : ∃ m, b - S.length = m + 1 := ⟨b - S.length - 1, by omega⟩
      rw [hm]
      rfl
theorem sk_G_len (hS : sk_G S) : 133 ≤ S.length := by
  have h := hS 131 (by omega)
  have e : (sk_S0 0)[131 + 1]? ≠ none := by
    have : (sk_S0 0).length = 133 := rfl
    rw [List.getElem?_eq_getElem (by omega)]
    exact fun h => by cases h
  by_cases c : 131 + 1 < S.length
  · omega
  · exact absurd (h ▸ List.getElem?_eq_none (by omega) : (sk_S0 0)[131 + 1]? = none) e
theorem sk_G_new (hS : sk_G S) (s : sk_Sh) : sk_G (S ++ [s]) := by
  have hl := sk_G_len hS
  intro a ha
  rw [List.getElem?_append_left (by omega)]
  exact hS a ha
def isBy (x : Int) : Prop := 0 ≤ x ∧ x ≤ 255
theorem m134 {d : Nat} (hd : 1 ≤ d) {x : Int} (x1 : -2147483648 ≤ x) (x2 : x < 2147483648) {w : sk_W} : sk_c d 134 [.int (sj x)] w = some (some (.int (sj (bi (decide (0 ≤ x ∧ x ≤ 255))))), w) := by
  obtain ⟨d, rfl⟩ : ∃ e, d = e + 1 := ⟨d - 1, by omega⟩; rw [sk_e134]
  simp (disch := omega) only [sj_ceq, sj_cne, sj_clt, sj_cge, sj_cgt, sj_cle, bi_ceq, bi_cne, bi_01]
  grind [bi]
def apN (I : sk_H) (n : Nat) (A : Nat → Int) : Nat → sk_H
  | 0 => I
  | k + 1 => u2 (u2 (apN I n A k) 3 (n + k) (A k)) 2 1 ((n : Int) + k + 1)
theorem apN_in (I : sk_H) (n : Nat) (A : Nat → Int) (hI : I 2 1 = n) (k : Nat) : apN I n A k 2 1 = (n : Int) + k := by
  cases k with
  | zero => exact hI.trans (by omega)
  | succ k => exact (u2_eq _ _ _ _).trans (by omega)
theorem apN_b (I : sk_H) (n : Nat) (A : Nat → Int) (k : Nat) {b : Nat} (h2 : b ≠ 2) (h3 : b ≠ 3) : apN I n A k b = I b := by
  induction k with
  | zero => rfl
  | succ k ih => exact (funext fun j => by show (u2 (u2 (apN I n A k) 3 (n + k) (A k)) 2 1 ((n : Int) + k + 1)) b j = _; rw [u2_ne _ _ (by omega), u2_ne _ _ (by omega)]).trans ih
theorem apN_2 (I : sk_H) (n : Nat) (A : Nat → Int) (k : Nat) {j : Nat} (h : j ≠ 1) : apN I n A k 2 j = I 2 j := by
  induction k with
  | zero => rfl
  | succ k ih => exact (by show (u2 (u2 (apN I n A k) 3 (n + k) (A k)) 2 1 ((n : Int) + k + 1)) 2 j = _; rw [u2_ne _ _ (by omega), u2_ne _ _ (by omega)] : apN I n A (k + 1) 2 j = apN I n A k 2 j).trans ih
theorem apN_3 (I : sk_H) (n : Nat) (A : Nat → Int) (k : Nat) (j : Nat) : apN I n A k 3 j = if n ≤ j ∧ j < n + k then A (j - n) else I 3 j := by
  induction k with
  | zero => exact (if_neg (by omega)).symm
  | succ k ih =>
    show (u2 (u2 (apN I n A k) 3 (n + k) (A k)) 2 1 ((n : Int) + k + 1)) 3 j = _
    rw [u2_ne _ _ (by omega)]
    by_cases e : j = n + k
    · subst e
      rw [u2_eq, if_pos ⟨by omega, by omega⟩, show n + k - n = k by omega]
    · rw [u2_ne _ _ (by omega), ih]
      by_cases c : n ≤ j ∧ j < n + k
      · rw [if_pos c, if_pos ⟨by omega, by omega⟩]
      · rw [if_neg c, if_neg (by omega)]
theorem m85 {d : Nat} (hd : 1 ≤ d) (hS : sk_G S) {n : Nat} {A : Nat → Int} (hI : I 2 1 = n) {k : Nat} (hk : n + k < 60) : sk_c d 85 [.ref 2, .int (sj (A k))] (sk_mk S (apN I n A k)) = some (none, sk_mk S (apN I n A (k + 1))) := by
  have h := apN_in I n A hI k
  have t : ((n : Int) + k).toNat = n + k := by omega
  obtain ⟨d, rfl⟩ : ∃ e, d = e + 1 := ⟨d - 1, by omega⟩; rw [sk_e85]
  rw [g2_i1b hS, h, if_pos (ky_lt (by omega) (by omega) (by omega) (by omega) (by omega)), g2_r0b hS, g2_i1b hS, h, g3_sb hS (by omega) (by omega), t, g2_i1b hS, u2_ne _ _ (by omega), h, sj_add, g2_u1b hS]
  rfl
def A5 (a0 a1 a2 a3 a4 : Int) : Nat → Int := fun k => match k with
  | 0 => a0
  | 1 => a1
  | 2 => a2
  | 3 => a3
  | _ => a4
theorem r158 {d : Nat} (hd : 2 ≤ d) (hS : sk_G S) {n : Nat} (h4 : I 105 4 = n) (hn : n ≤ 60) {c a0 a1 a2 a3 a4 : Int} (c1 : -2147483648 ≤ c) (c2 : c < 2147483648) (ar : ∀ k, -2147483648 ≤ A5 a0 a1 a2 a3 a4 k ∧ A5 a0 a1 a2 a3 a4 k < 2147483648) : ∃ Z : sk_H, (∀ b, b < S.length → Z b = I b) ∧ (¬ (1 ≤ c ∧ c ≤ 5 ∧ ∀ k, k < 5 → isBy (A5 a0 a1 a2 a3 a4 k)) → sk_c d 158 [.ref 105, .int (sj c), .int (sj a0), .int (sj a1), .int (sj a2), .int (sj a3), .int (sj a4)] (sk_mk S I) = some (some (.int (sj (-2))), sk_mk (S ++ [.inl 5]) Z)) ∧ ((1 ≤ c ∧ c ≤ 5 ∧ ∀ k, k < 5 → isBy (A5 a0 a1 a2 a3 a4 k)) → (¬ (n : Int) + c ≤ 60 → sk_c d 158 [.ref 105, .int (sj c), .int (sj a0), .int (sj a1), .int (sj a2), .int (sj a3), .int (sj a4)] (sk_mk S I) = some (some (.int (sj (-4))), sk_mk (S ++ [.inl 5]) Z)) ∧ ((n : Int) + c ≤ 60 → ∃ Y : sk_H, sk_c d 158 [.ref 105, .int (sj c), .int (sj a0), .int (sj a1), .int (sj a2), .int (sj a3), .int (sj a4)] (sk_mk S I) = some (some (.int (sj ((n : Int) + c))), sk_mk (S ++ [.inl 5]) Y) ∧ (∀ b, b < S.length → b ≠ 105 → b ≠ 110 → Y b = I b) ∧ (∀ k, k ≠ 4 → Y 105 k = I 105 k) ∧ Y 105 4 = (n : Int) + c ∧ ∀ j, Y 110 j = if n ≤ j ∧ (j : Int) < (n : Int) + c then A5 a0 a1 a2 a3 a4 (j - n) else I 110 j)) := by
  have hl := sk_G_len hS
  have hS' := sk_G_new hS (.inl 5)
  have hL : (S ++ [.inl 5])[S.length]? = some (.inl 5 : sk_Sh) := by
    rw [List.getElem?_append_right (Nat.le_refl _), Nat.sub_self]; rfl
  have as := fun (Z : sk_H) (i v : Int) (h0 : 0 ≤ i) (h1 : i < 5) => mk_ast (S := S ++ [.inl 5]) (I := Z) (a := S.length) (n := 5) (i := i) v hL (by omega) h0 (by omega) (by omega)
  have al := fun (Z : sk_H) (i : Int) (h0 : 0 ≤ i) (h1 : i < 5) => mk_ald (S := S ++ [.inl 5]) (I := Z) (a := S.length) (n := 5) (i := i) hL h0 (by omega) (by omega)
  generalize hA : A5 a0 a1 a2 a3 a4 = A at *
  have x0 : A 0 = a0 := by rw [← hA]; rfl
  have x1 : A 1 = a1 := by rw [← hA]; rfl
  have x2 : A 2 = a2 := by rw [← hA]; rfl
  have x3 : A 3 = a3 := by rw [← hA]; rfl
  have x4 : A 4 = a4 := by rw [← hA]; rfl
  obtain ⟨Z, hZ⟩ : ∃ Z, Z = u2 (u2 (u2 (u2 (u2 (fun b k => if b = S.length then 0 else I b k : sk_H) S.length (0 : Int).toNat a0) S.length (1 : Int).toNat a1) S.length (2 : Int).toNat a2) S.length (3 : Int).toNat a3) S.length (4 : Int).toNat a4 := ⟨_, rfl⟩
  have zb : ∀ b, b < S.length → Z b = I b := fun b hb => funext fun k => by
    rw [hZ, u2_ne _ _ (by omega), u2_ne _ _ (by omega), u2_ne _ _ (by omega), u2_ne _ _ (by omega), u2_ne _ _ (by omega)]
    exact if_neg (by omega)
  have zl : ∀ k, k < 5 → Z S.length k = A k := fun k hk => by
    rw [hZ]
    obtain rfl | rfl | rfl | rfl | rfl := (by omega : k = 0 ∨ k = 1 ∨ k = 2 ∨ k = 3 ∨ k = 4)
    · rw [u2_ne _ _ (by omega), u2_ne _ _ (by omega), u2_ne _ _ (by omega), u2_ne _ _ (by omega), x0]; exact u2_eq _ _ _ _
    · rw [u2_ne _ _ (by omega), u2_ne _ _ (by omega), u2_ne _ _ (by omega), x1]; exact u2_eq _ _ _ _
    · rw [u2_ne _ _ (by omega), u2_ne _ _ (by omega), x2]; exact u2_eq _ _ _ _
    · rw [u2_ne _ _ (by omega), x3]; exact u2_eq _ _ _ _
    · rw [x4]; exact u2_eq _ _ _ _
  obtain ⟨d, rfl⟩ : ∃ e, d = e + 1 := ⟨d - 1, by omega⟩
  have e0 := sk_e158 d 105 (sj c) (sj a0) (sj a1) (sj a2) (sj a3) (sj a4) (sk_mk S I)
  rw [mk_new, sk_mk_len, as _ 0 a0 (by omega) (by omega), Option.bind_some, as _ 1 a1 (by omega) (by omega), Option.bind_some, as _ 2 a2 (by omega) (by omega), Option.bind_some, as _ 3 a3 (by omega) (by omega), Option.bind_some, as _ 4 a4 (by omega) (by omega), Option.bind_some, ← hZ, m144 (by omega) c1 c2 (by omega) (by omega) (by omega) (by omega), sk_ci_some] at e0
  refine ⟨Z, zb, ?_, ?_⟩
  · intro hno
    rw [e0]
    by_cases hc : 1 ≤ c ∧ c ≤ 5
    · rw [decide_eq_true hc, if_pos ct_bne]
      have key : ∀ m i, i + m = 5 → (∀ k, k < i → isBy (A k)) → sk_D158 d 43 [some (.ref 105), some (.int (sj c)), some (.int (sj a0)), some (.int (sj a1)), some (.int (sj a2)), some (.int (sj a3)), some (.int (sj a4)), some (.ref S.length), some (.int (sj (i : Int)))] [] (sk_mk (S ++ [.inl 5]) Z) = some (some (.int (sj (-2))), sk_mk (S ++ [.inl 5]) Z) := by
        intro m
        induction m with
        | zero =>
          intro i hi hk
          exact absurd ⟨hc.1, hc.2, fun k h => hk k (by omega)⟩ hno
        | succ m ih =>
          intro i hi hk
          have t2 : (i : Int) + 1 = ((i + 1 : Nat) : Int) := rfl
          rw [sk_e158_43, if_neg (kn_ge (by omega) (by omega) (by omega) (by omega) (by omega)), al Z i (by omega) (by omega), Option.bind_some, Int.toNat_natCast, zl i (by omega), m144 (by omega) (ar i).1 (ar i).2 (by omega) (by omega) (by omega) (by omega), sk_ci_some]
          by_cases e : 0 ≤ A i ∧ A i ≤ 255
          · rw [decide_eq_true e, if_pos ct_bne, sj_add, t2]
            refine ih (i + 1) (by omega) (fun k hk2 => ?_)
            by_cases e2 : k = i
            · rw [e2]; exact e
            · exact hk k (by omega)
          · rw [decide_eq_false e, if_neg cf_bne]
      exact key 5 0 (by omega) (fun k hk => absurd hk (by omega))
    · rw [decide_eq_false hc, if_neg cf_bne]
  · rintro ⟨hc1, hc2, hb⟩
    have loop : sk_D158 d 43 [some (.ref 105), some (.int (sj c)), some (.int (sj a0)), some (.int (sj a1)), some (.int (sj a2)), some (.int (sj a3)), some (.int (sj a4)), some (.ref S.length), some (.int (sj ((0 : Nat) : Int)))] [] (sk_mk (S ++ [.inl 5]) Z) = sk_D158 d 43 [some (.ref 105), some (.int (sj c)), some (.int (sj a0)), some (.int (sj a1)), some (.int (sj a2)), some (.int (sj a3)), some (.int (sj a4)), some (.ref S.length), some (.int (sj ((5 : Nat) : Int)))] [] (sk_mk (S ++ [.inl 5]) Z) := by
      refine lp_run (fun i (X : Option sk_R) => X = sk_D158 d 43 [some (.ref 105), some (.int (sj c)), some (.int (sj a0)), some (.int (sj a1)), some (.int (sj a2)), some (.int (sj a3)), some (.int (sj a4)), some (.ref S.length), some (.int (sj (i : Int)))] [] (sk_mk (S ++ [.inl 5]) Z)) 5 (fun i X hi hX => ?_) rfl
      subst hX
      have t2 : (i : Int) + 1 = ((i + 1 : Nat) : Int) := rfl
      rw [sk_e158_43, if_neg (kn_ge (by omega) (by omega) (by omega) (by omega) (by omega)), al Z i (by omega) (by omega), Option.bind_some, Int.toNat_natCast, zl i (by omega), m144 (by omega) (ar i).1 (ar i).2 (by omega) (by omega) (by omega) (by omega), sk_ci_some, decide_eq_true (show 0 ≤ A i ∧ A i ≤ 255 from hb i hi), if_pos ct_bne, sj_add, t2]
    have z4 : Z 105 4 = n := by rw [zb 105 (by omega)]; exact h4
    rw [decide_eq_true ⟨hc1, hc2⟩, if_pos ct_bne] at e0
    have e1 := e0.trans loop
    rw [sk_e158_43, if_pos (ky_ge (by omega) (by omega) (by omega) (by omega) (by omega)), g105_i4b hS', z4, sj_add] at e1
    refine ⟨fun h => ?_, fun h => ?_⟩
    · rw [e1, if_neg (kn_le (by omega) (by omega) (by omega) (by omega) (by omega))]
    · rw [if_pos (ky_le (by omega) (by omega) (by omega) (by omega) (by omega))] at e1
      obtain ⟨C, hC⟩ : ∃ C : Nat, c = C := ⟨c.toNat, by omega⟩
      subst hC
      have lp2 := lp_run (fun i (X : Option sk_R) => ∃ Y, X = sk_D158 d 90 [some (.ref 105), some (.int (sj (C : Int))), some (.int (sj a0)), some (.int (sj a1)), some (.int (sj a2)), some (.int (sj a3)), some (.int (sj a4)), some (.ref S.length), some (.int (sj (i : Int)))] [] (sk_mk (S ++ [.inl 5]) Y) ∧ (∀ b, b ≠ 110 → Y b = Z b) ∧ ∀ j, Y 110 j = if n ≤ j ∧ j < n + i then A (j - n) else Z 110 j) C (fun i X hi hX => by
        obtain ⟨Y, rfl, y1, y2⟩ := hX
        have t2 : (i : Int) + 1 = ((i + 1 : Nat) : Int) := rfl
        have t3 : ((n : Int) + i).toNat = n + i := by omega
        refine ⟨u2 Y 110 (n + i) (A i), ?_, fun b hb => (funext fun k => u2_ne _ _ (by omega)).trans (y1 b hb), fun j => ?_⟩
        · rw [sk_e158_90, if_neg (kn_ge (by omega) (by omega) (by omega) (by omega) (by omega)), g105_r3b hS', g105_i4b hS', y1 105 (by omega), z4, al Y i (by omega) (by omega), Option.bind_some, Int.toNat_natCast, y1 S.length (by omega), zl i (by omega), sj_add, g110_sb hS' (by omega) (by omega), t3, sj_add, t2]
        · by_cases e : j = n + i
          · subst e
            rw [u2_eq, if_pos ⟨by omega, by omega⟩, show n + i - n = i by omega]
          · rw [u2_ne _ _ (by omega), y2]
            by_cases c : n ≤ j ∧ j < n + i
            · rw [if_pos c, if_pos ⟨by omega, by omega⟩]
            · rw [if_neg c, if_neg (by omega)]) ⟨Z, rfl, fun _ _ => rfl, fun j => (if_neg (by omega)).symm⟩
      obtain ⟨Y, e2, y1, y2⟩ := lp2
      refine ⟨u2 Y 105 4 ((n : Int) + C), ?_, fun b hb h5 h6 => ?_, fun k hk => ?_, u2_eq _ _ _ _, fun j => ?_⟩
      · rw [e1]
        refine e2.trans ?_
        rw [sk_e158_90, if_pos (ky_ge (by omega) (by omega) (by omega) (by omega) (by omega)), g105_i4b hS', y1 105 (by omega), z4, sj_add, g105_u4b hS', g105_i4b hS', u2_eq]
      · exact (funext fun k => u2_ne _ _ (by omega)).trans ((y1 b h6).trans (zb b hb))
      · rw [u2_ne _ _ (by omega), y1 105 (by omega), zb 105 (by omega)]
      · rw [u2_ne _ _ (by omega), y2, zb 110 (by omega)]
        by_cases c : n ≤ j ∧ j < n + C
        · rw [if_pos c, if_pos ⟨by omega, by omega⟩]
        · rw [if_neg c, if_neg (by omega)]
theorem f_feed (hS : sk_G S) (hG : GI I v) {c a0 a1 a2 a3 a4 : Int} (c1 : -2147483648 ≤ c) (c2 : c < 2147483648) (ar : ∀ k, -2147483648 ≤ A5 a0 a1 a2 a3 a4 k ∧ A5 a0 a1 a2 a3 a4 k < 2147483648) : ∃ (x : Int32) (I1 I2 v2 : sk_H), sk_c 20 102 [.ref 1, .int (sj c), .int (sj a0), .int (sj a1), .int (sj a2), .int (sj a3), .int (sj a4)] (sk_mk S I) = some (some (.int x), sk_mk S I1) ∧ sk_c 20 158 [.ref 105, .int (sj c), .int (sj a0), .int (sj a1), .int (sj a2), .int (sj a3), .int (sj a4)] (sk_mk S I1) = some (some (.int x), sk_mk (S ++ [.inl 5]) I2) ∧ GI I2 v2 := by
  have hG0 := hG
  obtain ⟨hv, hT, hR, hTp, hM, hRk, hSh⟩ := hG; have hV := hT.1; have ha : sk_isP 15 := Or.inl rfl; obtain ⟨n1, n2, n3, n4, n5, n6, n7, n8, n9, n10, n11, n12⟩ := hV.1
  have hl := sk_G_len hS
  obtain ⟨n, t1, t2, t3, t4, t5⟩ := hTp
  have cc := sk_e102 19 1 (sj c) (sj a0) (sj a1) (sj a2) (sj a3) (sj a4) (sk_mk S I)
  have r0 : -2147483648 ≤ a0 ∧ a0 < 2147483648 := ar 0
  have r1 : -2147483648 ≤ a1 ∧ a1 < 2147483648 := ar 1
  have r2 : -2147483648 ≤ a2 ∧ a2 < 2147483648 := ar 2
  have r3 : -2147483648 ≤ a3 ∧ a3 < 2147483648 := ar 3
  have r4 : -2147483648 ≤ a4 ∧ a4 < 2147483648 := ar 4
  have keep : ∀ Z : sk_H, (∀ b, b < S.length → Z b = I b) → GI Z v := fun Z hZ => GI_GF hG0 (GF.of fun b hb => hZ b (by unfold Gb at hb; omega))
  by_cases hok : 1 ≤ c ∧ c ≤ 5 ∧ ∀ k, k < 5 → isBy (A5 a0 a1 a2 a3 a4 k)
  rotate_left
  · obtain ⟨Z, zb, er, -⟩ := r158 (S := S) (I := I) (d := 20) (by omega) hS t3 t1 c1 c2 ar
    refine ⟨sj (-2), I, Z, v, ?_, er hok, keep Z zb⟩
    rw [cc]
    by_cases h1 : c < 1
    · rw [if_pos (ky_lt (by omega) (by omega) (by omega) (by omega) h1)]
    rw [if_neg (kn_lt (by omega) (by omega) (by omega) (by omega) (by omega))]
    by_cases h5 : 5 < c
    · rw [if_neg (kn_le (by omega) (by omega) (by omega) (by omega) (by omega))]
    rw [if_pos (ky_le (by omega) (by omega) (by omega) (by omega) (by omega)), m134 (by omega) r0.1 r0.2, sk_ci_some]
    by_cases b0 : 0 ≤ a0 ∧ a0 ≤ 255
    rotate_left
    · rw [decide_eq_false b0, if_pos cf_beq]
    rw [decide_eq_true b0, if_neg ct_beq, m134 (by omega) r1.1 r1.2, sk_ci_some]
    by_cases b1 : 0 ≤ a1 ∧ a1 ≤ 255
    rotate_left
    · rw [decide_eq_false b1, if_pos cf_beq]
    rw [decide_eq_true b1, if_neg ct_beq, m134 (by omega) r2.1 r2.2, sk_ci_some]
    by_cases b2 : 0 ≤ a2 ∧ a2 ≤ 255
    rotate_left
    · rw [decide_eq_false b2, if_pos cf_beq]
    rw [decide_eq_true b2, if_neg ct_beq, m134 (by omega) r3.1 r3.2, sk_ci_some]
    by_cases b3 : 0 ≤ a3 ∧ a3 ≤ 255
    rotate_left
    · rw [decide_eq_false b3, if_pos cf_beq]
    rw [decide_eq_true b3, if_neg ct_beq, m134 (by omega) r4.1 r4.2, sk_ci_some]
    by_cases b4 : 0 ≤ a4 ∧ a4 ≤ 255
    rotate_left
    · rw [decide_eq_false b4, if_neg cf_bne]
    refine absurd ⟨by omega, by omega, fun k hk => ?_⟩ hok
    obtain rfl | rfl | rfl | rfl | rfl := (by omega : k = 0 ∨ k = 1 ∨ k = 2 ∨ k = 3 ∨ k = 4)
    · exact b0
    · exact b1
    · exact b2
    · exact b3
    · exact b4
  have hok' := hok
  obtain ⟨h1, h5, hb⟩ := hok
  have b0 : 0 ≤ a0 ∧ a0 ≤ 255 := hb 0 (by omega)
  have b1 : 0 ≤ a1 ∧ a1 ≤ 255 := hb 1 (by omega)
  have b2 : 0 ≤ a2 ∧ a2 ≤ 255 := hb 2 (by omega)
  have b3 : 0 ≤ a3 ∧ a3 ≤ 255 := hb 3 (by omega)
  have b4 : 0 ≤ a4 ∧ a4 ≤ 255 := hb 4 (by omega)
  rw [if_neg (kn_lt (by omega) (by omega) (by omega) (by omega) (by omega)), if_pos (ky_le (by omega) (by omega) (by omega) (by omega) (by omega)), m134 (by omega) r0.1 r0.2, sk_ci_some, decide_eq_true b0, if_neg ct_beq, m134 (by omega) r1.1 r1.2, sk_ci_some, decide_eq_true b1, if_neg ct_beq, m134 (by omega) r2.1 r2.2, sk_ci_some, decide_eq_true b2, if_neg ct_beq, m134 (by omega) r3.1 r3.2, sk_ci_some, decide_eq_true b3, if_neg ct_beq, m134 (by omega) r4.1 r4.2, sk_ci_some, decide_eq_true b4, if_pos ct_bne, g1_r0b hS, g2_i1b hS, t2, sj_add] at cc
  by_cases hsz : (n : Int) + c ≤ 60
  rotate_left
  · obtain ⟨Z, zb, -, er⟩ := r158 (S := S) (I := I) (d := 20) (by omega) hS t3 t1 c1 c2 ar
    rw [if_neg (kn_le (by omega) (by omega) (by omega) (by omega) (by omega))] at cc
    exact ⟨sj (-4), I, Z, v, cc, (er hok').1 hsz, keep Z zb⟩
  rw [if_pos (ky_le (by omega) (by omega) (by omega) (by omega) (by omega)), g1_r0b hS, g2_ob hS] at cc
  obtain ⟨C, hC⟩ : ∃ C : Nat, c = C := ⟨c.toNat, by omega⟩
  subst hC
  have ap := fun k (hk : n + k < 60) => m85 (S := S) (I := I) (d := 19) (A := A5 a0 a1 a2 a3 a4) (by omega) hS t2 (k := k) hk
  have ai := apN_in I n (A5 a0 a1 a2 a3 a4) t2
  have e0 : 0 < C → sk_c 19 85 [.ref 2, .int (sj a0)] (sk_mk S I) = some (none, sk_mk S (apN I n (A5 a0 a1 a2 a3 a4) 1)) := fun h => ap 0 (by omega)
  have e1 : 1 < C → sk_c 19 85 [.ref 2, .int (sj a1)] (sk_mk S (apN I n (A5 a0 a1 a2 a3 a4) 1)) = some (none, sk_mk S (apN I n (A5 a0 a1 a2 a3 a4) 2)) := fun h => ap 1 (by omega)
  have e2 : 2 < C → sk_c 19 85 [.ref 2, .int (sj a2)] (sk_mk S (apN I n (A5 a0 a1 a2 a3 a4) 2)) = some (none, sk_mk S (apN I n (A5 a0 a1 a2 a3 a4) 3)) := fun h => ap 2 (by omega)
  have e3 : 3 < C → sk_c 19 85 [.ref 2, .int (sj a3)] (sk_mk S (apN I n (A5 a0 a1 a2 a3 a4) 3)) = some (none, sk_mk S (apN I n (A5 a0 a1 a2 a3 a4) 4)) := fun h => ap 3 (by omega)
  have e4 : 4 < C → sk_c 19 85 [.ref 2, .int (sj a4)] (sk_mk S (apN I n (A5 a0 a1 a2 a3 a4) 4)) = some (none, sk_mk S (apN I n (A5 a0 a1 a2 a3 a4) 5)) := fun h => ap 4 (by omega)
  have fin : sk_c 20 102 [.ref 1, .int (sj (C : Int)), .int (sj a0), .int (sj a1), .int (sj a2), .int (sj a3), .int (sj a4)] (sk_mk S I) = some (some (.int (sj ((n : Int) + C))), sk_mk S (apN I n (A5 a0 a1 a2 a3 a4) C)) := by
    rw [cc, e0 (by omega), sk_cv_some]
    obtain rfl | rfl | rfl | rfl | rfl := (by omega : C = 1 ∨ C = 2 ∨ C = 3 ∨ C = 4 ∨ C = 5)
    · rw [if_pos (by decide), sk_e102_92, if_pos (by decide), if_pos (by decide), sk_e102_120, if_pos (by decide), g1_r0b hS, g2_i1b hS, ai]
    · rw [if_neg (by decide), g1_r0b hS, g2_ob hS, e1 (by omega), sk_cv_some, sk_e102_92, if_pos (by decide), if_pos (by decide), sk_e102_120, if_pos (by decide), g1_r0b hS, g2_i1b hS, ai]
    · rw [if_neg (by decide), g1_r0b hS, g2_ob hS, e1 (by omega), sk_cv_some, sk_e102_92, if_neg (by decide), g1_r0b hS, g2_ob hS, e2 (by omega), sk_cv_some, if_pos (by decide), sk_e102_120, if_pos (by decide), g1_r0b hS, g2_i1b hS, ai]
    · rw [if_neg (by decide), g1_r0b hS, g2_ob hS, e1 (by omega), sk_cv_some, sk_e102_92, if_neg (by decide), g1_r0b hS, g2_ob hS, e2 (by omega), sk_cv_some, if_neg (by decide), g1_r0b hS, g2_ob hS, e3 (by omega), sk_cv_some, sk_e102_120, if_pos (by decide), g1_r0b hS, g2_i1b hS, ai]
    · rw [if_neg (by decide), g1_r0b hS, g2_ob hS, e1 (by omega), sk_cv_some, sk_e102_92, if_neg (by decide), g1_r0b hS, g2_ob hS, e2 (by omega), sk_cv_some, if_neg (by decide), g1_r0b hS, g2_ob hS, e3 (by omega), sk_cv_some, sk_e102_120, if_neg (by decide), g1_r0b hS, g2_ob hS, e4 (by omega), sk_cv_some, g1_r0b hS, g2_i1b hS, ai]
  have pb := fun b (h2 : b ≠ 2) (h3 : b ≠ 3) => apN_b I n (A5 a0 a1 a2 a3 a4) C (b := b) h2 h3
  obtain ⟨Z, zb, -, er⟩ := r158 (S := S) (I := apN I n (A5 a0 a1 a2 a3 a4) C) (d := 20) (by omega) hS (by rw [pb 105 (by omega) (by omega)]; exact t3) t1 c1 c2 ar
  obtain ⟨Y, ey, y1, y2, y3, y4⟩ := (er hok').2 hsz
  refine ⟨_, _, Y, v, fin, ey, ?_⟩
  have fY : ∀ b, b < 132 → b ≠ 2 → b ≠ 3 → b ≠ 105 → b ≠ 110 → Y b = I b := fun b h0 h1 h2 h3 h4 => (y1 b (by omega) h3 h4).trans (pb b h1 h2)
  have f105 : ∀ k, k ≠ 4 → Y 105 k = I 105 k := fun k hk => by rw [y2 k hk, pb 105 (by omega) (by omega)]
  refine ⟨(vC_fr (fun b b1 b2 => fY b (by omega) (by omega) (by omega) (by omega) (by omega))).trans hv, hT, hR.fr (fY 107 (by omega) (by omega) (by omega) (by omega) (by omega)), ⟨n + C, by omega, ?_, y3, fun k hk => ?_, fun k hk j j1 j2 => ?_⟩, ?_, fun r hr => ?_, fun s hs => ?_⟩
  · rw [y1 2 (by omega) (by omega) (by omega), ai]; rfl
  · rw [y1 3 (by omega) (by omega) (by omega), apN_3, y4, pb 110 (by omega) (by omega)]
    by_cases e : n ≤ k
    · rw [if_pos ⟨e, by omega⟩, if_pos ⟨e, by omega⟩]
      have := hb (k - n) (by omega)
      unfold isBy at this
      exact ⟨rfl, this.1, this.2⟩
    · rw [if_neg (by omega), if_neg (by omega)]
      exact t4 k (by omega)
  · rw [fY (5 + k) (by omega) (by omega) (by omega) (by omega) (by omega)]
    exact t5 k hk j j1 j2
  · exact GM_fr hM (fY 1 (by omega) (by omega) (by omega) (by omega) (by omega)) (f105 2 (by omega)) (fun b b1 b2 => fY b (by omega) (by omega) (by omega) (by omega) (by omega)) (fY 108 (by omega) (by omega) (by omega) (by omega) (by omega))
  · exact GR1_fr (hRk r hr) (Int.le_refl _) (fY _ (by omega) (by omega) (by omega) (by omega) (by omega)) (fY _ (by omega) (by omega) (by omega) (by omega) (by omega)) (fY _ (by omega) (by omega) (by omega) (by omega) (by omega)) (fY _ (by omega) (by omega) (by omega) (by omega) (by omega)) (fY _ (by omega) (by omega) (by omega) (by omega) (by omega))
  · exact GH1_fr (hSh s hs) (fY _ (by omega) (by omega) (by omega) (by omega) (by omega)) (fY _ (by omega) (by omega) (by omega) (by omega) (by omega)) (fY _ (by omega) (by omega) (by omega) (by omega) (by omega)) (fY _ (by omega) (by omega) (by omega) (by omega) (by omega)) (fY _ (by omega) (by omega) (by omega) (by omega) (by omega))
end FEE
