/-! ===== the items, read by the reference ===== -/
section ITR
variable {S : List sk_Sh} {I J v : sk_H} {B : Nat → Int} {n i : Nat}
def RT (B : Nat → Int) (n : Nat) (J : sk_H) : Prop := J 105 4 = n ∧ ∀ k, k < n → J 110 k = B k
def RIT (J : sk_H) (g : Nat → Nat → Int) (N : Nat) : Prop := J 105 6 = N ∧ ∀ j, j < N → ∀ f, f < 5 → J 111 (5 * j + f) = g j f
def RF (I J : sk_H) : Prop := (∀ b, b ≠ 105 → b ≠ 111 → J b = I b) ∧ ∀ k, k ≠ 6 → J 105 k = I 105 k
theorem RF.rfl' (I : sk_H) : RF I I := ⟨fun _ _ _ => rfl, fun _ _ => rfl⟩
theorem RF.trans {I J K : sk_H} (h1 : RF I J) (h2 : RF J K) : RF I K := ⟨fun b a c => (h2.1 b a c).trans (h1.1 b a c), fun k a => (h2.2 k a).trans (h1.2 k a)⟩
theorem RT.rf (h : RT B n I) (f : RF I J) : RT B n J := ⟨(f.2 4 (by omega)).trans h.1, fun k hk => by rw [f.1 110 (by omega) (by omega)]; exact h.2 k hk⟩
theorem sn (i : Nat) : sj (i : Int) + sj 1 = sj ((i + 1 : Nat) : Int) := sj_add _ _
theorem m160 {d : Nat} (hd : 1 ≤ d) (hS : sk_G S) (hB : OKB B n) (h : RT B n J) (hi : i ≤ 100) : sk_c d 160 [.ref 105, .int (sj (i : Int))] (sk_mk S J) = some (some (.int (sj (tb B n i))), sk_mk S J) := by
  have hn := hB.1
  obtain ⟨d, rfl⟩ : ∃ e, d = e + 1 := ⟨d - 1, by omega⟩; rw [sk_e160]
  rw [g105_i4b hS, h.1]
  unfold tb
  by_cases c : i < n
  · rw [if_neg (kn_ge (by omega) (by omega) (by omega) (by omega) (by omega)), if_pos c, g105_r3b hS, g110_ab hS (by omega) (by omega), Int.toNat_natCast, h.2 i c]
  · rw [if_pos (ky_ge (by omega) (by omega) (by omega) (by omega) (by omega)), if_neg c]
theorem m161 {d : Nat} (hd : 2 ≤ d) (hS : sk_G S) (hB : OKB B n) (h : RT B n J) (hi : i ≤ 100) {lo : Int} (l1 : 0 ≤ lo) (l2 : lo ≤ 1) : sk_c d 161 [.ref 105, .int (sj (i : Int)), .int (sj lo)] (sk_mk S J) = some (some (.int (sj (bi (dgt (tb B n i) lo)))), sk_mk S J) := by
  have r := tb_rng hB i
  obtain ⟨d, rfl⟩ : ∃ e, d = e + 1 := ⟨d - 1, by omega⟩; rw [sk_e161]
  rw [g105_ob hS, m160 (by omega) hS hB h hi, sk_ci_some, sj_add, m144 (by omega) (by omega) (by omega) (by omega) (by omega) (by omega) (by omega), sk_ci_some, if_pos (by rw [bi_01]; trivial)]
  rfl
theorem m162 {d : Nat} (hd : 2 ≤ d) (hS : sk_G S) (hB : OKB B n) (h : RT B n J) (hi : i ≤ 100) : sk_c d 162 [.ref 105, .int (sj (i : Int))] (sk_mk S J) = some (some (.int (sj (bi (decide (tb B n i = 32 ∨ tb B n i = 10))))), sk_mk S J) := by
  have r := tb_rng hB i
  obtain ⟨d, rfl⟩ : ∃ e, d = e + 1 := ⟨d - 1, by omega⟩; rw [sk_e162]
  rw [g105_ob hS, m160 (by omega) hS hB h hi, sk_ci_some]
  by_cases c : tb B n i = 32
  · rw [if_pos (ky_eq c), decide_eq_true (Or.inl c)]; rfl
  · rw [if_neg (kn_eq (by omega) (by omega) (by omega) (by omega) c), g105_ob hS, m160 (by omega) hS hB h hi, sk_ci_some]
    by_cases e : tb B n i = 10
    · rw [if_neg (kn_ne e), decide_eq_true (Or.inr e)]; rfl
    · rw [if_pos (ky_ne (by omega) (by omega) (by omega) (by omega) e), decide_eq_false (by omega)]; rfl
theorem kof_ {b : Int} (b1 : -1 ≤ b) (b2 : b ≤ 255) : sk_kof 6 0 (sj b) = sj (kdF b) := by
  have e : ∀ c : Int, -1 ≤ c → c ≤ 255 → ¬ b = c → ¬ sj c = sj b := fun c h1 h2 h h3 => h ((sj_inj (by omega) (by omega) (by omega) (by omega)).mp h3).symm
  unfold kdF
  by_cases c1 : b = 112
  · subst c1; decide
  by_cases c2 : b = 116
  · subst c2; decide
  by_cases c3 : b = 103
  · subst c3; decide
  by_cases c4 : b = 99
  · subst c4; decide
  by_cases c5 : b = 115
  · subst c5; decide
  by_cases c6 : b = 104
  · subst c6; decide
  rw [if_neg c1, if_neg c2, if_neg c3, if_neg c4, if_neg c5, if_neg c6]
  show (if sj 112 = sj b then _ else if sj 116 = sj b then _ else if sj 103 = sj b then _ else if sj 99 = sj b then _ else if sj 115 = sj b then _ else if sj 104 = sj b then _ else _) = _
  rw [if_neg (e _ (by omega) (by omega) c1), if_neg (e _ (by omega) (by omega) c2), if_neg (e _ (by omega) (by omega) c3), if_neg (e _ (by omega) (by omega) c4), if_neg (e _ (by omega) (by omega) c5), if_neg (e _ (by omega) (by omega) c6)]
  rfl
theorem m2 {d : Nat} (hd : 7 ≤ d) {b : Int} (b1 : -1 ≤ b) (b2 : b ≤ 255) {w : sk_W} : sk_c d 2 [.int (sj b)] w = some (some (.int (sj (kdF b))), w) := by
  obtain ⟨d, rfl⟩ : ∃ e, d = e + 1 := ⟨d - 1, by omega⟩
  show (if 6 ≤ d then sk_prim2 [.int (sj b)] w else none) = _
  rw [if_pos (by omega)]
  show some (some (Value.int (sk_kof 6 0 (sj b))), w) = _
  rw [kof_ b1 b2]
theorem r163_315 {d : Nat} (hd : 2 ≤ d) (hS : sk_G S) (hB : OKB B n) (h : RT B n J) (o2 o3 o4 o5 o6 o7 o8 : Option Value) : ∀ m i, i ≤ n → n ≤ i + m → sk_D163 d 315 [some (.ref 105), some (.int (sj (i : Int))), o2, o3, o4, o5, o6, o7, o8] [] (sk_mk S J) = sk_D163 d 21 [some (.ref 105), some (.int (sj (skp B n m i : Int))), o2, o3, o4, o5, o6, o7, o8] [] (sk_mk S J) := by
  have hn := hB.1
  intro m
  induction m with
  | zero =>
    intro i hi hm
    have ht : tb B n i = -1 := if_neg (by omega)
    rw [sk_e163_315, g105_ob hS, m162 (by omega) hS hB h (by omega), sk_ci_some, decide_eq_false (by omega), if_pos cf_beq]
    rfl
  | succ m ih =>
    intro i hi hm
    unfold skp
    rw [sk_e163_315, g105_ob hS, m162 (by omega) hS hB h (by omega), sk_ci_some]
    by_cases c : tb B n i = 32 ∨ tb B n i = 10
    · have hlt : i < n := tb_in (B := B) (by omega)
      rw [decide_eq_true c, if_neg ct_beq, if_pos c, sn]
      exact ih (i + 1) (by omega) (by omega)
    · rw [decide_eq_false c, if_pos cf_beq, if_neg c]
theorem r163_7 {d : Nat} (hd : 2 ≤ d) (hS : sk_G S) (hB : OKB B n) (h : RT B n J) : ∀ m i, i ≤ n → n ≤ i + m → sk_D163 d 7 [some (.ref 105), some (.int (sj (i : Int))), none, none, none, none, none, none, none] [] (sk_mk S J) = sk_D163 d 21 [some (.ref 105), some (.int (sj (skp B n m i : Int))), none, none, none, none, none, none, none] [] (sk_mk S J) := by
  have hn := hB.1
  intro m
  induction m with
  | zero =>
    intro i hi hm
    have ht : tb B n i = -1 := if_neg (by omega)
    rw [sk_e163_7, g105_ob hS, m162 (by omega) hS hB h (by omega), sk_ci_some, decide_eq_false (by omega), if_pos cf_beq]
    rfl
  | succ m ih =>
    intro i hi hm
    unfold skp
    rw [sk_e163_7, g105_ob hS, m162 (by omega) hS hB h (by omega), sk_ci_some]
    by_cases c : tb B n i = 32 ∨ tb B n i = 10
    · have hlt : i < n := tb_in (B := B) (by omega)
      rw [decide_eq_true c, if_neg ct_beq, if_pos c, sn]
      exact ih (i + 1) (by omega) (by omega)
    · rw [decide_eq_false c, if_pos cf_beq, if_neg c]
/-- an item is written down -/
theorem r163_245 {d : Nat} (hS : sk_G S) {g : Nat → Nat → Int} {N : Nat} (hN : N < 60) (hR : RIT J g N) {k w t m c : Int} (j : Nat) (o3 : Option Value) (o8 : Option Value) : ∃ J', sk_D163 d 245 [some (.ref 105), some (.int (sj (j : Int))), some (.int (sj k)), o3, some (.int (sj w)), some (.int (sj t)), some (.int (sj m)), some (.int (sj c)), o8] [] (sk_mk S J) = sk_D163 d 315 [some (.ref 105), some (.int (sj (j : Int))), some (.int (sj k)), o3, some (.int (sj w)), some (.int (sj t)), some (.int (sj m)), some (.int (sj c)), some (.int (sj (5 * N)))] [] (sk_mk S J') ∧ RIT J' (fun j => if j = N then itT k w t m c else g j) (N + 1) ∧ RF J J' := by
  have t0 : (5 * (N : Int)).toNat = 5 * N + 0 := by omega
  have t1 : (5 * (N : Int) + 1).toNat = 5 * N + 1 := by omega
  have t2 : (5 * (N : Int) + 2).toNat = 5 * N + 2 := by omega
  have t3 : (5 * (N : Int) + 3).toNat = 5 * N + 3 := by omega
  have t4 : (5 * (N : Int) + 4).toNat = 5 * N + 4 := by omega
  refine ⟨u2 (u2 (u2 (u2 (u2 (u2 J 111 (5 * N + 0) k) 111 (5 * N + 1) w) 111 (5 * N + 2) t) 111 (5 * N + 3) m) 111 (5 * N + 4) c) 105 6 ((N : Int) + 1), ?_, ⟨u2_eq _ _ _ _, fun j hj f hf => ?_⟩, fun b b1 b2 => funext fun k => ?_, fun k hk => ?_⟩
  · rw [sk_e163_245, g105_i6b hS, hR.1, g105_r5b hS, sj_mul, g111_sb hS (by omega) (by omega), t0, g105_r5b hS, sj_add, g111_sb hS (by omega) (by omega), t1, g105_r5b hS, sj_add, g111_sb hS (by omega) (by omega), t2, g105_r5b hS, sj_add, g111_sb hS (by omega) (by omega), t3, g105_r5b hS, sj_add, g111_sb hS (by omega) (by omega), t4, g105_i6b hS, u2_ne _ _ (by omega), u2_ne _ _ (by omega), u2_ne _ _ (by omega), u2_ne _ _ (by omega), u2_ne _ _ (by omega), hR.1, sj_add, g105_u6b hS]
  · rw [u2_ne _ _ (by omega)]
    dsimp only
    by_cases e : j = N
    · subst e
      rw [if_pos rfl]
      obtain rfl | rfl | rfl | rfl | rfl := (by omega : f = 0 ∨ f = 1 ∨ f = 2 ∨ f = 3 ∨ f = 4)
      · rw [u2_ne _ _ (by omega), u2_ne _ _ (by omega), u2_ne _ _ (by omega), u2_ne _ _ (by omega), u2_eq]; rfl
      · rw [u2_ne _ _ (by omega), u2_ne _ _ (by omega), u2_ne _ _ (by omega), u2_eq]; rfl
      · rw [u2_ne _ _ (by omega), u2_ne _ _ (by omega), u2_eq]; rfl
      · rw [u2_ne _ _ (by omega), u2_eq]; rfl
      · rw [u2_eq]; rfl
    · rw [if_neg e, u2_ne _ _ (by omega), u2_ne _ _ (by omega), u2_ne _ _ (by omega), u2_ne _ _ (by omega), u2_ne _ _ (by omega)]
      exact hR.2 j (by omega) f hf
  · rw [u2_ne _ _ (by omega), u2_ne _ _ (by omega), u2_ne _ _ (by omega), u2_ne _ _ (by omega), u2_ne _ _ (by omega), u2_ne _ _ (by omega)]
  · rw [u2_ne _ _ (by omega), u2_ne _ _ (by omega), u2_ne _ _ (by omega), u2_ne _ _ (by omega), u2_ne _ _ (by omega), u2_ne _ _ (by omega)]
theorem r163_36 {d : Nat} (hd : 8 ≤ d + 1) (hS : sk_G S) (hB : OKB B n) (h : RT B n J) (hi : i ≤ n) {W : Int} (w1 : 1 ≤ W) (w2 : W ≤ 20) (hW : J 107 0 = W) {g : Nat → Nat → Int} {N : Nat} (hN : N < 60) (hR : RIT J g N) (o2 o3 o4 o5 o6 o7 o8 : Option Value) : ((itI B n W i).2 = none → sk_D163 d 36 [some (.ref 105), some (.int (sj (i : Int))), o2, o3, o4, o5, o6, o7, o8] [] (sk_mk S J) = some (some (.int (sj ((itI B n W i).1 : Int))), sk_mk S J)) ∧ ∀ t, (itI B n W i).2 = some t → ∃ J' p2 p3 p4 p5 p6 p7 p8, sk_D163 d 36 [some (.ref 105), some (.int (sj (i : Int))), o2, o3, o4, o5, o6, o7, o8] [] (sk_mk S J) = sk_D163 d 315 [some (.ref 105), some (.int (sj ((itI B n W i).1 : Int))), p2, p3, p4, p5, p6, p7, p8] [] (sk_mk S J') ∧ RIT J' (fun j => if j = N then t else g j) (N + 1) ∧ RF J J' := by
  have hn := hB.1
  have z0 : (0 : Int).toNat = 0 := rfl
  have r := tb_rng hB i
  have k0 := kdF_rng (tb B n i)
  have r1 := tb_rng hB (i + 1)
  unfold itI
  rw [sk_e163_36]
  simp only [sn]
  rw [g105_ob hS, m160 (by omega) hS hB h (by omega), sk_ci_some, m2 (by omega) r.1 r.2, sk_ci_some]
  by_cases c0 : kdF (tb B n i) = -1
  · rw [if_pos c0, if_neg (kn_ne c0)]
    exact ⟨fun _ => rfl, fun t ht => by cases ht⟩
  have hin := kdF_in hB c0
  rw [if_neg c0, if_pos (ky_ne (by omega) (by omega) (by omega) (by omega) c0), g105_ob hS, m161 (by omega) hS hB h (by omega) (by omega) (by omega), sk_ci_some]
  have h1 := wdI_le (B := B) (n := n) (i := i + 1) (by omega)
  by_cases cd : dgt (tb B n (i + 1)) 0 = true
  rotate_left
  · have ew : wdI B n (i + 1) = (0, i + 1) := by unfold wdI; rw [if_neg cd]
    rw [eq_false_of_ne_true cd, if_neg cf_bne, ew, if_pos (show ¬ (1 ≤ ((0 : Int), i + 1).1 ∧ ((0 : Int), i + 1).1 ≤ W) from fun e => absurd e.1 (show ¬ (1 : Int) ≤ 0 by decide))]
    exact ⟨fun _ => rfl, fun t ht => by cases ht⟩
  -- on to the width
  have e109 : sk_ci (sk_c d 160 [.ref 105, .int (sj ((i + 1 : Nat) : Int))] (sk_mk S J)) (fun v8 w7 => if sk_isO w7 105 11 = true then sk_ci (sk_c d 161 [.ref 105, .int (sj ((i + 1 + 1 : Nat) : Int)), .int (sj 0)] w7) fun v10 w9 => if sk_cond .eq v10 (sj 0) = true then sk_D163 d 109 [some (.ref 105), some (.int (sj ((i + 1 + 1 : Nat) : Int))), some (.int (sj (kdF (tb B n i)))), some (.int (sj ((i + 1 : Nat) : Int))), some (.int (v8 - (sj 48))), o5, o6, o7, o8] [] w9 else if sk_isO w9 105 11 = true then sk_ci (sk_c d 160 [.ref 105, .int (sj ((i + 1 + 1 : Nat) : Int))] w9) fun v12 w11 => sk_D163 d 109 [some (.ref 105), some (.int (sj ((i + 1 + 1 + 1 : Nat) : Int))), some (.int (sj (kdF (tb B n i)))), some (.int (sj ((i + 1 : Nat) : Int))), some (.int ((((sj 10) * (v8 - (sj 48))) + v12) - (sj 48))), o5, o6, o7, o8] [] w11 else none else none) = sk_D163 d 109 [some (.ref 105), some (.int (sj ((wdI B n (i + 1)).2 : Int))), some (.int (sj (kdF (tb B n i)))), some (.int (sj ((i + 1 : Nat) : Int))), some (.int (sj (wdI B n (i + 1)).1)), o5, o6, o7, o8] [] (sk_mk S J) := by
    rw [m160 (by omega) hS hB h (by omega), sk_ci_some, g105_ob hS, m161 (by omega) hS hB h (by omega) (by omega) (by omega), sk_ci_some]
    unfold wdI
    rw [if_pos cd]
    by_cases ce : dgt (tb B n (i + 1 + 1)) 0 = true
    · rw [ce, if_neg ct_beq, if_pos rfl, g105_ob hS, m160 (by omega) hS hB h (by omega), sk_ci_some, sj_sub, sj_mul, sj_add, sj_sub]
    · rw [eq_false_of_ne_true ce, if_pos cf_beq, if_neg (by decide), sj_sub]
  rw [cd, if_pos ct_bne, g105_ob hS, e109]
  generalize hw : wdI B n (i + 1) = w at *
  have r2 := tb_rng hB w.2
  have q0 : J 107 0 = W := hW
  rw [sk_e163_109]
  simp only [sn]
  rw [g105_r1b hS, g107_ab hS (by omega) (by omega), z0, hW, m144 (by omega) (by omega) (by omega) (by omega) (by omega) (by omega) (by omega), sk_ci_some]
  by_cases c1 : 1 ≤ w.1 ∧ w.1 ≤ W
  rotate_left
  · rw [if_pos c1, decide_eq_false c1, if_neg cf_bne]
    exact ⟨fun _ => rfl, fun t ht => by cases ht⟩
  rw [if_neg (fun e => e c1), decide_eq_true c1, if_pos ct_bne, g105_ob hS, m160 (by omega) hS hB h (by omega), sk_ci_some]
  by_cases c2 : tb B n w.2 = 120
  rotate_left
  · rw [if_pos c2, if_neg (kn_eq (by omega) (by omega) (by omega) (by omega) c2)]
    exact ⟨fun _ => rfl, fun t ht => by cases ht⟩
  have h2 : w.2 < n := tb_in (B := B) (by omega)
  rw [if_neg (fun e => e c2), if_pos (ky_eq c2), g105_ob hS, m161 (by omega) hS hB h (by omega) (by omega) (by omega), sk_ci_some]
  have r3 := tb_rng hB (w.2 + 1)
  by_cases cf : dgt (tb B n (w.2 + 1)) 1 = true
  rotate_left
  · have ef : fgI B n (w.2 + 1) = (0, w.2 + 1) := by unfold fgI; rw [if_neg cf]
    rw [eq_false_of_ne_true cf, if_neg cf_bne, ef, if_pos (show ((0 : Int), w.2 + 1).1 = 0 from rfl)]
    exact ⟨fun _ => rfl, fun t ht => by cases ht⟩
  have cf' := dgt_in (by omega) cf
  have ef : fgI B n (w.2 + 1) = (tb B n (w.2 + 1) - 48, w.2 + 2) := by unfold fgI; rw [if_pos cf]
  rw [cf, if_pos ct_bne, g105_ob hS, m160 (by omega) hS hB h (by omega), sk_ci_some, sj_sub, g105_ob hS, m160 (by omega) hS hB h (by omega), sk_ci_some, ef, if_neg (show ¬ (tb B n (w.2 + 1) - 48, w.2 + 2).1 = 0 from by dsimp only; omega)]
  have r4 := tb_rng hB (w.2 + 2)
  -- the last two marks
  have fin : ∀ (m : Int × Nat) (o7 : Option Value), m.2 ≤ n → ((if (mkI B n 42 m.2).1 = 0 then ((mkI B n 42 m.2).2, none) else ((mkI B n 42 m.2).2, some (itT (kdF (tb B n i)) w.1 (tb B n (w.2 + 1) - 48) m.1 (mkI B n 42 m.2).1))).2 = none → sk_D163 d 208 [some (.ref 105), some (.int (sj (m.2 : Int))), some (.int (sj (kdF (tb B n i)))), some (.int (sj ((i + 1 : Nat) : Int))), some (.int (sj w.1)), some (.int (sj (tb B n (w.2 + 1) - 48))), some (.int (sj m.1)), some (.int (sj 1)), o8] [] (sk_mk S J) = some (some (.int (sj ((if (mkI B n 42 m.2).1 = 0 then ((mkI B n 42 m.2).2, none) else ((mkI B n 42 m.2).2, some (itT (kdF (tb B n i)) w.1 (tb B n (w.2 + 1) - 48) m.1 (mkI B n 42 m.2).1))).1 : Int))), sk_mk S J)) ∧ ∀ t, (if (mkI B n 42 m.2).1 = 0 then ((mkI B n 42 m.2).2, none) else ((mkI B n 42 m.2).2, some (itT (kdF (tb B n i)) w.1 (tb B n (w.2 + 1) - 48) m.1 (mkI B n 42 m.2).1))).2 = some t → ∃ J' p2 p3 p4 p5 p6 p7 p8, sk_D163 d 208 [some (.ref 105), some (.int (sj (m.2 : Int))), some (.int (sj (kdF (tb B n i)))), some (.int (sj ((i + 1 : Nat) : Int))), some (.int (sj w.1)), some (.int (sj (tb B n (w.2 + 1) - 48))), some (.int (sj m.1)), some (.int (sj 1)), o8] [] (sk_mk S J) = sk_D163 d 315 [some (.ref 105), some (.int (sj ((if (mkI B n 42 m.2).1 = 0 then ((mkI B n 42 m.2).2, none) else ((mkI B n 42 m.2).2, some (itT (kdF (tb B n i)) w.1 (tb B n (w.2 + 1) - 48) m.1 (mkI B n 42 m.2).1))).1 : Int))), p2, p3, p4, p5, p6, p7, p8] [] (sk_mk S J') ∧ RIT J' (fun j => if j = N then t else g j) (N + 1) ∧ RF J J' := by
    intro m o7 hm
    have r5 := tb_rng hB m.2
    have r6 := tb_rng hB (m.2 + 1)
    rw [sk_e163_208]
    simp only [sn]
    rw [g105_ob hS, m160 (by omega) hS hB h (by omega), sk_ci_some]
    unfold mkI
    by_cases c5 : tb B n m.2 = 42
    rotate_left
    · rw [if_pos (ky_ne (by omega) (by omega) (by omega) (by omega) c5), if_neg c5, if_neg (show ¬ ((1 : Int), m.2).1 = 0 from (show ¬ (1 : Int) = 0 by decide))]
      refine ⟨fun e => (by cases e), fun t ht => ?_⟩
      cases ht
      obtain ⟨J', e, a1, a2⟩ := r163_245 (S := S) (J := J) (d := d) hS hN hR (k := kdF (tb B n i)) (w := w.1) (t := tb B n (w.2 + 1) - 48) (m := m.1) (c := 1) m.2 (some (.int (sj ((i + 1 : Nat) : Int)))) o8
      exact ⟨J', _, _, _, _, _, _, _, e, a1, a2⟩
    have h5 : m.2 < n := tb_in (B := B) (by omega)
    rw [if_neg (kn_ne c5), if_pos c5, g105_ob hS, m161 (by omega) hS hB h (by omega) (by omega) (by omega), sk_ci_some]
    by_cases cg : dgt (tb B n (m.2 + 1)) 1 = true
    rotate_left
    · have eg : fgI B n (m.2 + 1) = (0, m.2 + 1) := by unfold fgI; rw [if_neg cg]
      rw [eq_false_of_ne_true cg, if_neg cf_bne, eg, if_pos (show ((0 : Int), m.2 + 1).1 = 0 from rfl)]
      exact ⟨fun _ => rfl, fun t ht => by cases ht⟩
    have cg' := dgt_in (by omega) cg
    have eg : fgI B n (m.2 + 1) = (tb B n (m.2 + 1) - 48, m.2 + 2) := by unfold fgI; rw [if_pos cg]
    rw [cg, if_pos ct_bne, g105_ob hS, m160 (by omega) hS hB h (by omega), sk_ci_some, sj_sub, eg, if_neg (show ¬ (tb B n (m.2 + 1) - 48, m.2 + 2).1 = 0 from by dsimp only; omega)]
    refine ⟨fun e => (by cases e), fun t ht => ?_⟩
    cases ht
    obtain ⟨J', e, a1, a2⟩ := r163_245 (S := S) (J := J) (d := d) hS hN hR (k := kdF (tb B n i)) (w := w.1) (t := tb B n (w.2 + 1) - 48) (m := m.1) (c := tb B n (m.2 + 1) - 48) (m.2 + 2) (some (.int (sj ((i + 1 : Nat) : Int)))) o8
    exact ⟨J', _, _, _, _, _, _, _, e, a1, a2⟩
  by_cases c4 : tb B n (w.2 + 2) = 58
  rotate_left
  · have em : mkI B n 58 (w.2 + 2) = (1, w.2 + 2) := by unfold mkI; rw [if_neg c4]
    rw [if_pos (ky_ne (by omega) (by omega) (by omega) (by omega) c4)]
    dsimp only
    rw [em, if_neg (show ¬ ((1 : Int), w.2 + 2).1 = 0 from (show ¬ (1 : Int) = 0 by decide))]
    exact fin (1, w.2 + 2) none (by dsimp only; omega)
  have h4 : w.2 + 2 < n := tb_in (B := B) (by omega)
  rw [if_neg (kn_ne c4), g105_ob hS, m161 (by omega) hS hB h (by omega) (by omega) (by omega), sk_ci_some]
  dsimp only
  by_cases cg : dgt (tb B n (w.2 + 2 + 1)) 1 = true
  rotate_left
  · have em : mkI B n 58 (w.2 + 2) = (0, w.2 + 2 + 1) := by unfold mkI fgI; rw [if_pos c4, if_neg cg]
    rw [eq_false_of_ne_true cg, if_neg cf_bne, em, if_pos (show ((0 : Int), w.2 + 2 + 1).1 = 0 from rfl)]
    exact ⟨fun _ => rfl, fun t ht => by cases ht⟩
  have cg' := dgt_in (by omega) cg
  have em : mkI B n 58 (w.2 + 2) = (tb B n (w.2 + 2 + 1) - 48, w.2 + 2 + 2) := by unfold mkI fgI; rw [if_pos c4, if_pos cg]
  rw [cg, if_pos ct_bne, g105_ob hS, m160 (by omega) hS hB h (by omega), sk_ci_some, sj_sub, em, if_neg (show ¬ (tb B n (w.2 + 2 + 1) - 48, w.2 + 2 + 2).1 = 0 from by dsimp only; omega)]
  exact fin (tb B n (w.2 + 2 + 1) - 48, w.2 + 2 + 2) none (by dsimp only; omega)
theorem r163_21 {d : Nat} (hd : 8 ≤ d + 1) (hS : sk_G S) (hB : OKB B n) {W : Int} (w1 : 1 ≤ W) (w2 : W ≤ 20) : ∀ m i N g J, N + m = 60 → N ≤ i → i ≤ n → RT B n J → J 107 0 = W → RIT J g N → ∀ o2 o3 o4 o5 o6 o7 o8, ∃ J', RF J J' ∧ ((rdL B n W m i N g).2 = none → sk_D163 d 21 [some (.ref 105), some (.int (sj (skp B n 60 i : Int))), o2, o3, o4, o5, o6, o7, o8] [] (sk_mk S J) = some (some (.int (sj ((rdL B n W m i N g).1 : Int))), sk_mk S J')) ∧ ∀ N' g', (rdL B n W m i N g).2 = some (N', g') → sk_D163 d 21 [some (.ref 105), some (.int (sj (skp B n 60 i : Int))), o2, o3, o4, o5, o6, o7, o8] [] (sk_mk S J) = some (some (.int (sj (-1))), sk_mk S J') ∧ RIT J' g' N' := by
  have hn := hB.1
  intro m
  induction m with
  | zero =>
    intro i N g J hN hNi hi h hW hR o2 o3 o4 o5 o6 o7 o8
    have sk := skp_le (B := B) (n := n) 60 i hi
    refine ⟨J, RF.rfl' J, fun e => (by cases e), fun N' g' e => ?_⟩
    cases e
    refine ⟨?_, hR⟩
    rw [sk_e163_21, g105_i4b hS, h.1, if_neg (kn_lt (by omega) (by omega) (by omega) (by omega) (by omega)), g105_i6b hS, hR.1, if_pos (ky_ne (by omega) (by omega) (by omega) (by omega) (by omega))]
  | succ m ih =>
    intro i N g J hN hNi hi h hW hR o2 o3 o4 o5 o6 o7 o8
    have sk := skp_le (B := B) (n := n) 60 i hi
    unfold rdL
    by_cases c : N = 0 ∨ skp B n 60 i < n
    rotate_left
    · rw [if_neg c]
      refine ⟨J, RF.rfl' J, fun e => (by cases e), fun N' g' e => ?_⟩
      cases e
      refine ⟨?_, hR⟩
      rw [sk_e163_21, g105_i4b hS, h.1, if_neg (kn_lt (by omega) (by omega) (by omega) (by omega) (by omega)), g105_i6b hS, hR.1, if_pos (ky_ne (by omega) (by omega) (by omega) (by omega) (by omega))]
    rw [if_pos c]
    have e36 : sk_D163 d 21 [some (.ref 105), some (.int (sj (skp B n 60 i : Int))), o2, o3, o4, o5, o6, o7, o8] [] (sk_mk S J) = sk_D163 d 36 [some (.ref 105), some (.int (sj (skp B n 60 i : Int))), o2, o3, o4, o5, o6, o7, o8] [] (sk_mk S J) := by
      rw [sk_e163_21, g105_i4b hS, h.1]
      by_cases e : skp B n 60 i < n
      · rw [if_pos (ky_lt (by omega) (by omega) (by omega) (by omega) (by omega))]
      · rw [if_neg (kn_lt (by omega) (by omega) (by omega) (by omega) (by omega)), g105_i6b hS, hR.1, if_neg (kn_ne (by omega))]
    obtain ⟨hno, hso⟩ := r163_36 (S := S) (J := J) (d := d) hd hS hB h sk.2 w1 w2 hW (N := N) (by omega) hR o2 o3 o4 o5 o6 o7 o8
    have ir := itI_rng hB W sk.2
    cases hit : (itI B n W (skp B n 60 i)).2 with
    | none => exact ⟨J, RF.rfl' J, fun _ => e36.trans (hno hit), fun N' g' e => by cases e⟩
    | some t =>
      obtain ⟨J2, p2, p3, p4, p5, p6, p7, p8, e2, a1, a2⟩ := hso t hit
      have it := ir.2.2 t hit
      have e3 := r163_315 (S := S) (J := J2) (d := d) (by omega) hS hB (h.rf a2) p2 p3 p4 p5 p6 p7 p8 60 (itI B n W (skp B n 60 i)).1 ir.2.1 (by omega)
      obtain ⟨J3, f3, x1, x2⟩ := ih (itI B n W (skp B n 60 i)).1 (N + 1) (fun j => if j = N then t else g j) J2 (by omega) (by omega) ir.2.1 (h.rf a2) (by rw [a2.1 107 (by omega) (by omega)]; exact hW) a1 p2 p3 p4 p5 p6 p7 p8
      exact ⟨J3, a2.trans f3, fun e => ((e36.trans e2).trans e3).trans (x1 e), fun N' g' e => ⟨((e36.trans e2).trans e3).trans (x2 N' g' e).1, (x2 N' g' e).2⟩⟩
end ITR
