/-! ===== floats: the bits ===== -/
theorem sh_23 : ∀ e : Nat, e < 256 → (sj (e : Int)) <<< ((sj 23) &&& 31) = sj ((e : Int) * 8388608) := by decide +kernel
theorem pow_le {N a b : Nat} (h : 2 ^ a ≤ N) {k : Nat} (hk : a + k = b) : 2 ^ b ≤ N * 2 ^ k := by
  rw [← hk, Nat.pow_add]
  exact Nat.mul_le_mul_right _ h
theorem pow_lt {N a b : Nat} (h : N < 2 ^ a) {k : Nat} (hk : a + k ≤ b) : N * 2 ^ k < 2 ^ b :=
  Nat.lt_of_lt_of_le (Nat.mul_lt_mul_of_pos_right h (Nat.two_pow_pos k)) (by rw [← Nat.pow_add]; exact Nat.pow_le_pow_right (by decide) hk)
theorem c139_7 {d : Nat} {w : sk_W} {N : Nat} (hN : N < 2 ^ 24) (hN2 : 2 ^ 23 ≤ N) (o0 : Option Value) : ∀ (m j : Nat) (x : UInt32), m + j ≤ 127 → ZU x (N * 2 ^ (126 + m)) → ∃ y, ZU y (N * 2 ^ 126) ∧ sk_D139 d 7 [o0, some (.float x), some (.int (sj (127 + (j : Int)))), some (.int (sj (j : Int)))] [] w = sk_D139 d 34 [o0, some (.float y), some (.int (sj (127 + ((j + m : Nat) : Int)))), some (.int (sj 0))] [] w := by
  intro m
  induction m with
  | zero =>
    intro j x hj hx
    refine ⟨x, hx, ?_⟩
    have c : FP.fcmp x FP.fconst2 = _ := zu_cmp hx zu_2
    have lt : N * 2 ^ (126 + 0) < 2 ^ 150 := pow_lt hN (by omega)
    rw [sk_e139_7, if_pos (show sk_cond .lt (Op.cmpValue (FP.fcmp x FP.fconst2) .l) (sj 0) = true by rw [cv_lt c]; exact Int.ofNat_lt.mpr lt)]
    split <;> rfl
  | succ m ih =>
    intro j x hj hx
    have c : FP.fcmp x FP.fconst2 = _ := zu_cmp hx zu_2
    have ge : 2 ^ 150 ≤ N * 2 ^ (126 + (m + 1)) := Nat.le_trans (pow_le hN2 (k := 127) rfl) (Nat.mul_le_mul_left _ (Nat.pow_le_pow_right (by decide) (by omega)))
    have hh : ZU (FP.fdiv x FP.fconst2) (N * 2 ^ (126 + m)) := zu_half hN (by omega) hx
    have t1 : 127 + (j : Int) + 1 = 127 + ((j + 1 : Nat) : Int) := by omega
    have t2 : (j : Int) + 1 = ((j + 1 : Nat) : Int) := rfl
    obtain ⟨y, hy, e⟩ := ih (j + 1) _ (by omega) hh
    refine ⟨y, hy, ?_⟩
    rw [sk_e139_7, if_neg (kn_ge (by omega) (by omega) (by omega) (by omega) (by omega)), if_neg (show ¬ sk_cond .lt (Op.cmpValue (FP.fcmp x FP.fconst2) .l) (sj 0) = true by rw [cv_lt c]; exact Int.not_lt.mpr (Int.ofNat_le.mpr ge)), if_pos (nn_of (zu_ne hh)), sj_add, sj_add, t1, t2, e, show j + 1 + m = j + (m + 1) by omega]
theorem c139_34 {d : Nat} {w : sk_W} {N : Nat} (hN : N < 2 ^ 24) (o0 : Option Value) {e : Int} (e0 : 0 ≤ e) (e1 : e ≤ 255) : ∀ (m k j : Nat) (x : UInt32), k + m = 126 → j + m ≤ 126 → (j : Int) + m ≤ e → (2 ^ 23 ≤ N ∨ j + m = 126) → ZU x (N * 2 ^ k) → sk_D139 d 34 [o0, some (.float x), some (.int (sj (e - (j : Int)))), some (.int (sj (j : Int)))] [] w = some (some (.int (sj ((e - ((j : Int) + m)) * 8388608 + ((N : Int) - 8388608)))), w) := by
  intro m
  induction m with
  | zero =>
    intro k j x hk hj he hend hx
    obtain rfl : k = 126 := by omega
    have l := fx_last hN hx
    have fin : (if (FP.fsub x FP.fconst1) &&& 0x7fffffff ≤ 0x7f800000 then
        if (FP.fmul (FP.fsub x FP.fconst1) (UInt32.ofNat 1258291200)) &&& 0x7fffffff ≤ 0x7f800000 then
        (some (some (.int ((sj (e - (j : Int)) <<< ((sj 23) &&& 31)) + (FP.f2i (FP.fmul (FP.fsub x FP.fconst1) (UInt32.ofNat 1258291200))))), w) : Option sk_R) else none else none) = some (some (.int (sj ((e - ((j : Int) + (0 : Nat))) * 8388608 + ((N : Int) - 8388608)))), w) := by
      have es : e - (j : Int) = (((e - j).toNat : Nat) : Int) := by omega
      rw [if_pos (nn_of l.1), if_pos (nn_of l.2.1), l.2.2, es, sh_23 _ (by omega), sj_add, ← es]
      congr 5
    rw [sk_e139_34]
    by_cases c : 126 ≤ (j : Int)
    · rw [if_pos (ky_ge (by omega) (by omega) (by omega) (by omega) c)]
      exact fin
    · have hN2 : 2 ^ 23 ≤ N := by
        rcases hend with h | h
        · exact h
        · omega
      have cm : FP.fcmp x FP.fconst1 = _ := zu_cmp hx zu_1
      have ge : 2 ^ 149 ≤ N * 2 ^ 126 := pow_le hN2 rfl
      rw [if_neg (kn_ge (by omega) (by omega) (by omega) (by omega) (by omega)), if_pos (show sk_cond .ge (Op.cmpValue (FP.fcmp x FP.fconst1) .g) (sj 0) = true by rw [cv_ge cm]; exact Int.ofNat_le.mpr ge)]
      exact fin
  | succ m ih =>
    intro k j x hk hj he hend hx
    have cm : FP.fcmp x FP.fconst1 = _ := zu_cmp hx zu_1
    have lt : N * 2 ^ k < 2 ^ 149 := pow_lt hN (by omega)
    have hh : ZU (FP.fmul x FP.fconst2) (N * 2 ^ (k + 1)) := zu_dbl hN (by omega) hx
    have t1 : e - (j : Int) + -1 = e - ((j + 1 : Nat) : Int) := by omega
    have t2 : (j : Int) + 1 = ((j + 1 : Nat) : Int) := rfl
    have t3 : (j : Int) + ((m + 1 : Nat) : Int) = ((j + 1 : Nat) : Int) + (m : Int) := by omega
    rw [sk_e139_34, if_neg (kn_ge (by omega) (by omega) (by omega) (by omega) (by omega)), if_neg (show ¬ sk_cond .ge (Op.cmpValue (FP.fcmp x FP.fconst1) .g) (sj 0) = true by rw [cv_ge cm]; exact Int.not_le.mpr (Int.ofNat_lt.mpr lt)), if_pos (nn_of (zu_ne hh)), sj_add, sj_add, t1, t2, t3]
    exact ih (k + 1) (j + 1) _ (by omega) (by omega) (by omega) (by omega) hh
theorem m139 {d : Nat} (hd : 1 ≤ d) {x : UInt32} (hx : PF 255 x) {w : sk_W} : sk_c d 139 [.float x] w = some (some (.int (sj (x.toNat : Int))), w) := by
  have z := zu_pf hx
  unfold PF at hx
  have tl : FP.Core.b32.tails = 8388608 := by decide
  unfold FP.Core.unitsOf at z
  rw [tl] at z
  obtain ⟨d, rfl⟩ : ∃ e, d = e + 1 := ⟨d - 1, by omega⟩; rw [sk_e139]
  by_cases c : x.toNat < 8388608
  · rw [if_pos c] at z
    have hN : x.toNat < 2 ^ 24 := by omega
    have z0 : ZU x (x.toNat * 2 ^ 0) := by rw [Nat.pow_zero, Nat.mul_one]; exact z
    have cm : FP.fcmp x FP.fconst2 = _ := zu_cmp z0 zu_2
    have lt : x.toNat * 2 ^ 0 < 2 ^ 150 := pow_lt hN (by omega)
    have e := c139_34 (d := d) (w := w) hN (some (.float x)) (e := 127) (by omega) (by omega) 126 0 0 x rfl (by omega) (by omega) (Or.inr rfl) z0
    rw [sk_e139_7, if_neg (kn_ge (by omega) (by omega) (by omega) (by omega) (by omega)), if_pos (show sk_cond .lt (Op.cmpValue (FP.fcmp x FP.fconst2) .l) (sj 0) = true by rw [cv_lt cm]; exact Int.ofNat_lt.mpr lt)]
    refine (show _ = _ from e).trans ?_
    exact congrArg (fun z => some (some (Value.int (sj z)), w)) (by omega)
  rw [if_neg c] at z
  have hN : 8388608 + x.toNat % 8388608 < 2 ^ 24 := by omega
  have hN2 : 2 ^ 23 ≤ 8388608 + x.toNat % 8388608 := by omega
  obtain ⟨E, hE⟩ : ∃ E, E = x.toNat / 8388608 := ⟨_, rfl⟩
  rw [← hE] at z
  by_cases c2 : 128 ≤ E
  · obtain ⟨y, hy, e⟩ := c139_7 (d := d) (w := w) hN hN2 (some (.float x)) (E - 127) 0 x (by omega) (by rw [show 126 + (E - 127) = E - 1 by omega]; exact z)
    have e : sk_D139 d 7 [some (.float x), some (.float x), some (.int (sj 127)), some (.int (sj 0))] [] w = _ := e
    have e2 := c139_34 (d := d) (w := w) hN (some (.float x)) (e := 127 + ((0 + (E - 127) : Nat) : Int)) (by omega) (by omega) 0 126 0 y rfl (by omega) (by omega) (Or.inl hN2) hy
    have t : 127 + ((0 + (E - 127) : Nat) : Int) - ((0 : Nat) : Int) = 127 + ((0 + (E - 127) : Nat) : Int) := by omega
    rw [t] at e2
    refine e.trans ((show _ = _ from e2).trans ?_)
    exact congrArg (fun z => some (some (Value.int (sj z)), w)) (by omega)
  · have cm : FP.fcmp x FP.fconst2 = _ := zu_cmp z zu_2
    have lt : (8388608 + x.toNat % 8388608) * 2 ^ (E - 1) < 2 ^ 150 := pow_lt hN (by omega)
    have e := c139_34 (d := d) (w := w) hN (some (.float x)) (e := 127) (by omega) (by omega) (127 - E) (E - 1) 0 x (by omega) (by omega) (by omega) (Or.inl hN2) z
    rw [sk_e139_7, if_neg (kn_ge (by omega) (by omega) (by omega) (by omega) (by omega)), if_pos (show sk_cond .lt (Op.cmpValue (FP.fcmp x FP.fconst2) .l) (sj 0) = true by rw [cv_lt cm]; exact Int.ofNat_lt.mpr lt)]
    refine (show _ = _ from e).trans ?_
    exact congrArg (fun z => some (some (Value.int (sj z)), w)) (by omega)
theorem bits_i {x : UInt32} (hx : PF 255 x) : x.toInt32 = sj (x.toNat : Int) := by
  unfold PF at hx
  apply Int32.toInt.inj
  rw [sj_toInt (by omega) (by omega)]
  show x.toBitVec.toInt = _
  exact BitVec.toInt_eq_toNat_of_lt (by show 2 * x.toNat < 2 ^ 32; omega)
theorem m237 {d : Nat} (hd : 1 ≤ d) {x : UInt32} (hx : PF 255 x) {w : sk_W} : sk_c d 237 [.float x] w = some (some (.int (sj 0)), w) := by
  have z := zu_pf hx
  have cm : FP.fcmp x x = _ := zu_cmp z z
  obtain ⟨d, rfl⟩ : ∃ e, d = e + 1 := ⟨d - 1, by omega⟩; rw [sk_e237]
  rw [if_pos (show sk_cond .eq (Op.cmpValue (FP.fcmp x x) .l) (sj 0) = true by rw [cv_same cm])]
theorem m238 {d : Nat} (hd : 2 ≤ d) {x : UInt32} (hx : PF 255 x) {w : sk_W} : sk_c d 238 [.float x] w = some (some (.int (sj (x.toNat : Int))), w) := by
  obtain ⟨d, rfl⟩ : ∃ e, d = e + 1 := ⟨d - 1, by omega⟩; rw [sk_e238]
  rw [m237 (by omega) hx, sk_ci_some, if_neg (kn_ne rfl), bits_i hx]
