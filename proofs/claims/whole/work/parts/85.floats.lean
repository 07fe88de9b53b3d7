/-! ===== floats: not negative and below a power of two ===== -/
def PF (K : Nat) (a : UInt32) : Prop := a.toNat < K * 2 ^ 23
theorem pf_mono {K M : Nat} {a : UInt32} (h : PF K a) (hk : K ≤ M) : PF M a := Nat.lt_of_lt_of_le h (Nat.mul_le_mul_right _ hk)
theorem pf_mod {K : Nat} {a : UInt32} (h : PF K a) (hK : K ≤ 255) : a.toNat % 2 ^ 31 = a.toNat := by
  unfold PF at h
  exact Nat.mod_eq_of_lt (by omega)
theorem pf_lt {K : Nat} {a : UInt32} (h : PF K a) (hK : K ≤ 255) : a.toNat % 2 ^ 31 < K * 2 ^ 23 := by
  rw [pf_mod h hK]
  exact h
theorem pf_fin {K : Nat} {a : UInt32} (h : PF K a) (hK : K ≤ 255) : ∃ c q, FP.Core.val32 a = .fin false c q := by
  have hm := pf_mod h hK
  unfold PF at h
  obtain ⟨s, c, q, e⟩ := (FP.Core.fin_bits32 a).mpr (by omega)
  have hs := FP.Core.sign_bits32 (a := a) (s := s) (Or.inl ⟨c, q, e⟩)
  cases s with
  | false => exact ⟨c, q, e⟩
  | true =>
    have := hs.mp rfl
    omega
theorem pf_of {K : Nat} {a : UInt32} (hm : a.toNat % 2 ^ 31 < K * 2 ^ 23) (hK : K ≤ 255) (hs : FP.Core.sgn (FP.Core.val32 a) = false) : PF K a := by
  have hn : FP.Core.val32 a ≠ .nan := (FP.Core.ne_nan32 a).mpr (by omega)
  rw [FP.Core.sgn_bits32 hn] at hs
  have := of_decide_eq_false hs
  unfold PF
  rw [Nat.mod_eq_of_lt (by omega)] at hm
  exact hm
theorem nn_of {a : UInt32} (h : FP.Core.val32 a ≠ .nan) : a &&& 0x7fffffff ≤ 0x7f800000 := by
  rw [UInt32.le_iff_toNat_le, FP.Core.mask_toNat32]
  exact (FP.Core.ne_nan32 a).mp h
theorem pf_ne {K : Nat} {a : UInt32} (h : PF K a) (hK : K ≤ 255) : FP.Core.val32 a ≠ .nan := by
  obtain ⟨c, q, e⟩ := pf_fin h hK
  rw [e]
  exact fun h => by cases h
theorem pf_nn {K : Nat} {a : UInt32} (h : PF K a) (hK : K ≤ 255) : a &&& 0x7fffffff ≤ 0x7f800000 := nn_of (pf_ne h hK)
theorem pf_add {K : Nat} {a b : UInt32} (ha : PF K a) (hb : PF K b) (hK : K + 2 ≤ 255) : PF (K + 2) (FP.fadd a b) := by
  obtain ⟨c, q, e⟩ := pf_fin ha (by omega)
  obtain ⟨d, r, f⟩ := pf_fin hb (by omega)
  refine pf_of (FP.Core.fadd_mag (pf_lt ha (by omega)) (pf_lt hb (by omega)) (by omega)) hK ?_
  rw [FP.Core.val32_fadd, e, f]
  have hv : 0 ≤ FP.Core.sumUnits false c q false d r (min q r) := Int.add_nonneg (Int.natCast_nonneg _) (Int.natCast_nonneg _)
  refine (FP.Core.sgn_roundRatio _ _ _ _ _).trans ?_
  unfold FP.Core.sumSign
  split
  · rfl
  · exact decide_eq_false (by omega)
theorem pf_mul {K M : Nat} {a b : UInt32} (ha : PF K a) (hb : PF M b) (hK : K ≤ 255) (hM : M ≤ 255) (h : K + M - 129 + 3 ≤ 255) : PF (K + M - 129 + 3) (FP.fmul a b) := by
  obtain ⟨c, q, e⟩ := pf_fin ha hK
  obtain ⟨d, r, f⟩ := pf_fin hb hM
  refine pf_of (FP.Core.fmul_mag (pf_lt ha hK) (pf_lt hb hM) hK hM) h ?_
  rw [FP.Core.val32_fmul, e, f]
  exact FP.Core.sgn_roundRatio _ _ _ _ _
theorem pf_div {K L : Nat} {a b : UInt32} (ha : PF K a) (hb : L * 2 ^ 23 ≤ b.toNat) (hb2 : PF 255 b) (hK : K ≤ 255) (hL : 1 ≤ L) (h : K + (149 - 23 - 1) - L + 3 ≤ 255) : PF (K + (149 - 23 - 1) - L + 3) (FP.fdiv a b) := by
  obtain ⟨c, q, e⟩ := pf_fin ha hK
  obtain ⟨d, r, f⟩ := pf_fin hb2 (Nat.le_refl _)
  have hm := pf_mod hb2 (Nat.le_refl _)
  refine pf_of (FP.Core.fdiv_mag (pf_lt ha hK) (by rw [hm]; exact hb) (pf_lt hb2 (Nat.le_refl _)) hK hL) h ?_
  have hd : d ≠ 0 := by
    rintro rfl
    have := (FP.Core.zero_bits232 b).mp ⟨false, r, f⟩
    omega
  rw [FP.Core.val32_fdiv, e, f]
  show FP.Core.sgn (if d = 0 then (if c = 0 then .nan else .inf (false != false)) else FP.Core.roundRatio FP.Core.b32 (false != false) c d (q - r)) = false
  rw [if_neg hd]
  exact FP.Core.sgn_roundRatio _ _ _ _ _
theorem pf_i2f {v : Int32} (h : 0 ≤ v.toInt) : PF 160 (FP.i2f v) := by
  refine pf_of (FP.Core.i2f_mag v) (by omega) ?_
  rw [FP.Core.val32_i2f]
  refine (FP.Core.sgn_roundRatio _ _ _ _ _).trans ?_
  exact decide_eq_false (by omega)
theorem pf_i2s {x : Int} (h0 : 0 ≤ x) (h1 : x < 2147483648) : PF 160 (FP.i2f (sj x)) := pf_i2f (by rw [sj_toInt (by omega) h1]; exact h0)
theorem pf_0 : PF 1 FP.fconst0 := by unfold PF; decide
theorem pf_2 : PF 255 FP.fconst2 := by unfold PF; decide
theorem two_nat : FP.fconst2.toNat = 128 * 2 ^ 23 := rfl
/-! whole numbers -/
theorem fi_0 : FP.Core.FInt 0 FP.fconst0 := by
  unfold FP.Core.FInt
  rw [show FP.Core.val32 FP.fconst0 = .fin false 0 FP.Core.b32.qmin from FP.Core.val32_fconst0]
  rfl
theorem fi_1 : FP.Core.FInt 1 FP.fconst1 := by
  unfold FP.Core.FInt
  rw [show FP.Core.val32 FP.fconst1 = .fin false (2 ^ 23) (-23) from FP.Core.val32_fconst1]
  show FP.Core.signed false (2 ^ 23 * 2 ^ (-23 : Int).toNat) = 1 * ((2 ^ (-(-23 : Int)).toNat : Nat) : Int)
  decide
theorem fi_big {i : Int} {K : Nat} {a : UInt32} (h : FP.Core.FInt i a) (hp : PF K a) (hK : K ≤ 255) (h1 : 1 ≤ i) : 127 * 2 ^ 23 ≤ a.toNat := by
  have e1 : FP.fcmp a FP.fconst1 = some (compare i 1) := FP.Core.fcmp_int h fi_1
  have e2 : FP.fcmp a FP.fconst1 = some (compare (FP.Core.fkey a) (FP.Core.fkey FP.fconst1)) := FP.Core.fcmp_key (pf_ne hp hK) (FP.Core.FInt_ne_nan fi_1)
  have e3 : compare (FP.Core.fkey a) (FP.Core.fkey FP.fconst1) = compare i 1 := Option.some.inj (e2.symm.trans e1)
  have k1 : FP.Core.fkey FP.fconst1 = 1065353216 := by decide
  have ka : FP.Core.fkey a = (a.toNat : Int) := by
    unfold FP.Core.fkey
    unfold PF at hp
    rw [if_neg (by omega)]
  have hn : ¬ compare (FP.Core.fkey a) (FP.Core.fkey FP.fconst1) = .lt := by
    rw [e3, FP.Core.compare_lt_iff]
    omega
  rw [FP.Core.compare_lt_iff, ka, k1] at hn
  omega
theorem fi_i2s {x : Int} (h0 : 0 ≤ x) (h1 : x ≤ 16777216) : FP.Core.FInt x (FP.i2f (sj x)) := by
  have h := FP.Core.i2f_int (a := sj x) (by rw [sj_toInt (by omega) (by omega)]; omega)
  rw [sj_toInt (by omega) (by omega)] at h
  exact h
/-! what is compared -/
theorem cv_eq (a b : Int) : ∀ o, Op.cmpValue (some (compare a b)) o = sj (if a < b then -1 else if a = b then 0 else 1) := by
  intro o
  rw [FP.Core.compare_ite]
  split
  · rfl
  · split <;> rfl
theorem cv_rng (a b : Int) : -1 ≤ (if a < b then -1 else if a = b then 0 else 1 : Int) ∧ (if a < b then -1 else if a = b then 0 else 1 : Int) ≤ 1 := by
  split
  · omega
  · split <;> omega
theorem cv_lt {x y : UInt32} {a b : Int} (h : FP.fcmp x y = some (compare a b)) : ∀ o, (sk_cond .lt (Op.cmpValue (FP.fcmp x y) o) (sj 0) = true) = (a < b) := by
  intro o
  have r := cv_rng a b
  rw [h, cv_eq, sj_clt (by omega) (by omega) (by omega) (by omega)]
  refine propext ?_
  split
  · omega
  · split <;> omega
theorem cv_le {x y : UInt32} {a b : Int} (h : FP.fcmp x y = some (compare a b)) : ∀ o, (sk_cond .le (Op.cmpValue (FP.fcmp x y) o) (sj 0) = true) = (a ≤ b) := by
  intro o
  have r := cv_rng a b
  rw [h, cv_eq, sj_cle (by omega) (by omega) (by omega) (by omega)]
  refine propext ?_
  split
  · omega
  · split <;> omega
theorem cv_ge {x y : UInt32} {a b : Int} (h : FP.fcmp x y = some (compare a b)) : ∀ o, (sk_cond .ge (Op.cmpValue (FP.fcmp x y) o) (sj 0) = true) = (b ≤ a) := by
  intro o
  have r := cv_rng a b
  rw [h, cv_eq, sj_cge (by omega) (by omega) (by omega) (by omega)]
  refine propext ?_
  split
  · omega
  · split <;> omega
theorem cv_same {x y : UInt32} {a b : Int} (h : FP.fcmp x y = some (compare a b)) : ∀ o, (sk_cond .eq (Op.cmpValue (FP.fcmp x y) o) (sj 0) = true) = (a = b) := by
  intro o
  have r := cv_rng a b
  rw [h, cv_eq, sj_ceq (by omega) (by omega) (by omega) (by omega)]
  refine propext ?_
  split
  · omega
  · split <;> omega
/-! in units of the least number -/
def ZU (x : UInt32) (U : Nat) : Prop := ∃ c q, FP.Core.val32 x = .fin false c q ∧ FP.Core.inUnits c q FP.Core.b32.qmin = U
theorem zu_ne {x : UInt32} {U : Nat} (h : ZU x U) : FP.Core.val32 x ≠ .nan := by
  obtain ⟨c, q, e, -⟩ := h
  rw [e]
  exact fun h => by cases h
theorem zu_val {x : UInt32} {U : Nat} (h : ZU x U) : FP.Core.zval FP.Core.b32 (FP.Core.val32 x) = (U : Int) := by
  obtain ⟨c, q, e, rfl⟩ := h
  rw [e]
  rfl
theorem zu_cmp {x y : UInt32} {U V : Nat} (h : ZU x U) (g : ZU y V) : FP.fcmp x y = some (compare (U : Int) (V : Int)) := by
  have := FP.Core.fcmp_zval (zu_ne h) (zu_ne g)
  rw [zu_val h, zu_val g] at this
  exact this
theorem zu_pf {x : UInt32} (h : PF 255 x) : ZU x (FP.Core.unitsOf FP.Core.b32 x.toNat) := by
  obtain ⟨c, q, e⟩ := pf_fin h (Nat.le_refl _)
  have z := FP.Core.zmag_toNat32 (pf_ne h (Nat.le_refl _))
  rw [pf_mod h (Nat.le_refl _), e] at z
  exact ⟨c, q, e, z⟩
theorem val_1 : FP.Core.val32 FP.fconst1 = .fin false (2 ^ 23) (-23) := FP.Core.val32_fconst1
theorem val_2 : FP.Core.val32 FP.fconst2 = .fin false (2 ^ 23) (-22) := by decide +kernel
theorem val_b : FP.Core.val32 (UInt32.ofNat 1258291200) = .fin false (2 ^ 23) 0 := by decide +kernel
theorem zu_1 : ZU FP.fconst1 (2 ^ 149) := ⟨_, _, val_1, by decide +kernel⟩
theorem zu_2 : ZU FP.fconst2 (2 ^ 150) := ⟨_, _, val_2, by decide +kernel⟩
theorem fx_pw {c M a b : Nat} {x y : Int} (h : c * 2 ^ a = M * 2 ^ b) (hx : x = (a : Int) - b) (hy : y = (b : Int) - a) : c * 2 ^ x.toNat = M * 2 ^ y.toNat := by
  by_cases g : b ≤ a
  · have e1 : x.toNat = a - b := by omega
    have e2 : y.toNat = 0 := by omega
    rw [e1, e2, Nat.pow_zero, Nat.mul_one]
    apply Nat.eq_of_mul_eq_mul_right (Nat.two_pow_pos b)
    rw [Nat.mul_assoc, ← Nat.pow_add, Nat.sub_add_cancel g, h]
  · have e1 : x.toNat = 0 := by omega
    have e2 : y.toNat = b - a := by omega
    rw [e1, e2, Nat.pow_zero, Nat.mul_one]
    apply Nat.eq_of_mul_eq_mul_right (Nat.two_pow_pos a)
    rw [Nat.mul_assoc, ← Nat.pow_add, Nat.sub_add_cancel (by omega), h]
theorem qmx_b32 : FP.Core.b32.qmax = 104 := by decide
/-- what fits is not rounded -/
theorem fx_ex {s : Bool} {A B : Nat} {e : Int} {M k : Nat} (hB : 0 < B) (hM : M < 2 ^ 24) (hk : k ≤ 253) (h : A * 2 ^ (e - ((k : Int) - 149)).toNat = M * B * 2 ^ (((k : Int) - 149) - e).toNat) : ∃ c q, FP.Core.roundRatio FP.Core.b32 s A B e = .fin s c q ∧ FP.Core.inUnits c q FP.Core.b32.qmin = M * 2 ^ k := by
  obtain ⟨c, q, h1, h2⟩ := FP.Core.round_exact FP.Core.good_b32 s (c := M) (q := (k : Int) - 149) hM (by rw [FP.Core.qmin_b32]; omega) (by rw [qmx_b32]; omega)
  refine ⟨c, q, ?_, ?_⟩
  · rw [FP.Core.roundRatio_congr (A' := M) (B' := 1) (e' := (k : Int) - 149) hB (by decide) (by rw [Nat.mul_one]; exact h)]
    exact h1
  · rw [h2]
    unfold FP.Core.inUnits
    rw [FP.Core.qmin_b32, show ((k : Int) - 149 - -149).toNat = k by omega]
theorem zu_half {x : UInt32} {M k : Nat} (hM : M < 2 ^ 24) (hk : k ≤ 253) (h : ZU x (M * 2 ^ (k + 1))) : ZU (FP.fdiv x FP.fconst2) (M * 2 ^ k) := by
  obtain ⟨c, q, e, u⟩ := h
  have f := FP.Core.val32_fits x
  rw [e] at f
  have hq := f.2.1
  unfold FP.Core.inUnits at u
  rw [FP.Core.qmin_b32] at hq u
  obtain ⟨c', q', h1, h2⟩ := fx_ex (s := false) (A := c) (B := 2 ^ 23) (e := q - (-22)) (M := M) (k := k) (by decide) hM hk (fx_pw (a := (q - -149).toNat + 22) (b := k) (by
    rw [Nat.pow_add, ← Nat.mul_assoc, u, Nat.pow_succ]
    have : (2 : Nat) ^ 23 = 2 * 2 ^ 22 := by decide
    rw [this]
    ac_rfl) (by omega) (by omega))
  refine ⟨c', q', ?_, h2⟩
  rw [FP.Core.val32_fdiv, e, val_2]
  show (if 2 ^ 23 = 0 then (if c = 0 then .nan else .inf (false != false)) else FP.Core.roundRatio FP.Core.b32 (false != false) c (2 ^ 23) (q - (-22))) = _
  rw [if_neg (by decide)]
  exact h1
theorem zu_dbl {x : UInt32} {M k : Nat} (hM : M < 2 ^ 24) (hk : k + 1 ≤ 253) (h : ZU x (M * 2 ^ k)) : ZU (FP.fmul x FP.fconst2) (M * 2 ^ (k + 1)) := by
  obtain ⟨c, q, e, u⟩ := h
  have f := FP.Core.val32_fits x
  rw [e] at f
  have hq := f.2.1
  unfold FP.Core.inUnits at u
  rw [FP.Core.qmin_b32] at hq u
  obtain ⟨c', q', h1, h2⟩ := fx_ex (s := false) (A := c * 2 ^ 23) (B := 1) (e := q + (-22)) (M := M) (k := k + 1) (by decide) hM hk (fx_pw (a := (q - -149).toNat) (b := k + 23) (by
    rw [Nat.mul_one, Nat.pow_add, ← Nat.mul_assoc, ← u]
    ac_rfl) (by omega) (by omega))
  refine ⟨c', q', ?_, h2⟩
  rw [FP.Core.val32_fmul, e, val_2]
  exact h1
/-- the last step of bitsOf -/
theorem fx_last {x : UInt32} {N : Nat} (hN : N < 2 ^ 24) (h : ZU x (N * 2 ^ 126)) : FP.Core.val32 (FP.fsub x FP.fconst1) ≠ .nan ∧ FP.Core.val32 (FP.fmul (FP.fsub x FP.fconst1) (UInt32.ofNat 1258291200)) ≠ .nan ∧ FP.f2i (FP.fmul (FP.fsub x FP.fconst1) (UInt32.ofNat 1258291200)) = sj ((N : Int) - 8388608) := by
  obtain ⟨c, q, e, u⟩ := h
  have f := FP.Core.val32_fits x
  rw [e] at f
  have f1 := FP.Core.val32_fits FP.fconst1
  rw [val_1] at f1
  obtain ⟨sg, n, e0, s1, s2, s3⟩ := FP.Core.sum_units (f := FP.Core.b32) (s := false) (c := c) (q := q) (t := true) (d := 2 ^ 23) (r := -23) f f1
  have z1 : FP.Core.zval FP.Core.b32 (.fin false c q) = ((N * 2 ^ 126 : Nat) : Int) := by rw [← u]; rfl
  have z2 : FP.Core.zval FP.Core.b32 (.fin true (2 ^ 23) (-23)) = -((2 ^ 149 : Nat) : Int) := by decide +kernel
  rw [z1, z2] at s3
  obtain ⟨M, hM⟩ : ∃ M, M = ((N : Int) - 8388608).natAbs := ⟨_, rfl⟩
  have hM24 : M < 2 ^ 24 := by omega
  have s4 : FP.Core.signed sg (FP.Core.inUnits n e0 FP.Core.b32.qmin) = ((N : Int) - 8388608) * ((2 ^ 126 : Nat) : Int) := by
    rw [s3, Int.sub_mul]
    rfl
  have s5 : FP.Core.inUnits n e0 FP.Core.b32.qmin = M * 2 ^ 126 := by
    have := congrArg Int.natAbs s4
    rw [FP.Core.natAbs_signed, Int.natAbs_mul, Int.natAbs_natCast, ← hM] at this
    exact this
  have s6 : FP.Core.signed sg M = (N : Int) - 8388608 := by
    rw [s5, FP.Core.signed_mul] at s4
    exact Int.eq_of_mul_eq_mul_right (by decide) s4
  have v1 : ∃ c1 q1, FP.Core.val32 (FP.fsub x FP.fconst1) = .fin sg c1 q1 ∧ FP.Core.inUnits c1 q1 FP.Core.b32.qmin = M * 2 ^ 126 := by
    have u5 := s5
    unfold FP.Core.inUnits at u5
    rw [FP.Core.qmin_b32] at u5 s2
    obtain ⟨c', q', h1, h2⟩ := fx_ex (s := sg) (A := n) (B := 1) (e := e0) (M := M) (k := 126) (by decide) hM24 (by decide) (fx_pw (a := (e0 - -149).toNat) (b := 126) (by rw [Nat.mul_one]; exact u5) (by omega) (by omega))
    refine ⟨c', q', ?_, h2⟩
    rw [FP.Core.val32_fsub, e, val_1]
    show FP.Core.round FP.Core.b32 (FP.Core.exactSum (.fin false c q) (.fin true (2 ^ 23) (-23))) = _
    rw [s1]
    exact h1
  obtain ⟨c1, q1, v1, w1⟩ := v1
  have g := FP.Core.val32_fits (FP.fsub x FP.fconst1)
  rw [v1] at g
  have gq := g.2.1
  have v2 : ∃ c2 q2, FP.Core.val32 (FP.fmul (FP.fsub x FP.fconst1) (UInt32.ofNat 1258291200)) = .fin (sg != false) c2 q2 ∧ FP.Core.inUnits c2 q2 FP.Core.b32.qmin = M * 2 ^ 149 := by
    unfold FP.Core.inUnits at w1
    rw [FP.Core.qmin_b32] at w1 gq
    obtain ⟨c', q', h1, h2⟩ := fx_ex (s := sg != false) (A := c1 * 2 ^ 23) (B := 1) (e := q1 + 0) (M := M) (k := 149) (by decide) hM24 (by decide) (fx_pw (a := (q1 - -149).toNat) (b := 149) (by
      have : (2 : Nat) ^ 149 = 2 ^ 126 * 2 ^ 23 := by decide +kernel
      rw [Nat.mul_one, this, ← Nat.mul_assoc, ← w1]
      ac_rfl) (by omega) (by omega))
    refine ⟨c', q', ?_, h2⟩
    rw [FP.Core.val32_fmul, v1, val_b]
    exact h1
  obtain ⟨c2, q2, v2, w2⟩ := v2
  have n1 : FP.Core.val32 (FP.fsub x FP.fconst1) ≠ .nan := by rw [v1]; exact fun h => by cases h
  have n2 : FP.Core.val32 (FP.fmul (FP.fsub x FP.fconst1) (UInt32.ofNat 1258291200)) ≠ .nan := by rw [v2]; exact fun h => by cases h
  refine ⟨n1, n2, Int32.toInt.inj ?_⟩
  rw [sj_toInt (by omega) (by omega)]
  refine (FP.Core.f2i_val n2).trans ?_
  rw [v2]
  have t : FP.Core.zmag FP.Core.b32 (.fin (sg != false) c2 q2) / FP.Core.one32 = M := by
    show FP.Core.inUnits c2 q2 FP.Core.b32.qmin / FP.Core.one32 = M
    rw [w2]
    exact Nat.mul_div_cancel _ FP.Core.one32_pos
  have t2 : FP.Core.signed (FP.Core.sgn (.fin (sg != false) c2 q2)) M = (N : Int) - 8388608 := by
    show FP.Core.signed (sg != false) M = _
    rw [← s6]
    cases sg <;> rfl
  rw [t, t2]
  omega
