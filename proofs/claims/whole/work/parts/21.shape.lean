/-! ===== ints as integers; worlds as a shape that stays and contents ===== -/
theorem sj_0 : (0 : Int32) = sj 0 := rfl
theorem sj_1 : (1 : Int32) = sj 1 := rfl
theorem sj_add (a b : Int) : sj a + sj b = sj (a + b) := (Int32.ofInt_add a b).symm
theorem sj_sub (a b : Int) : sj a - sj b = sj (a - b) := (Int32.ofInt_sub a b).symm
theorem sj_mul (a b : Int) : sj a * sj b = sj (a * b) := (Int32.ofInt_mul a b).symm
theorem sj_neg (a : Int) : -sj a = sj (-a) := (Int32.ofInt_neg a).symm
theorem sj_toInt {a : Int} (h1 : -2147483648 ≤ a) (h2 : a < 2147483648) : (sj a).toInt = a := Int32.toInt_ofInt_of_le (by omega) (by omega)
theorem sj_of (x : Int32) : sj x.toInt = x := Int32.ofInt_toInt x
theorem sj_rng (x : Int32) : -2147483648 ≤ x.toInt ∧ x.toInt < 2147483648 := ⟨Int32.le_toInt x, Int32.toInt_lt x⟩
theorem sj_inj {a b : Int} (h1 : -2147483648 ≤ a) (h2 : a < 2147483648) (h3 : -2147483648 ≤ b) (h4 : b < 2147483648) : sj a = sj b ↔ a = b :=
  ⟨fun h => by have := congrArg Int32.toInt h; rwa [sj_toInt h1 h2, sj_toInt h3 h4] at this, fun h => by rw [h]⟩
theorem sj_lt {a b : Int} (h1 : -2147483648 ≤ a) (h2 : a < 2147483648) (h3 : -2147483648 ≤ b) (h4 : b < 2147483648) : sj a < sj b ↔ a < b := by
  rw [Int32.lt_iff_toInt_lt, sj_toInt h1 h2, sj_toInt h3 h4]
theorem sj_le {a b : Int} (h1 : -2147483648 ≤ a) (h2 : a < 2147483648) (h3 : -2147483648 ≤ b) (h4 : b < 2147483648) : sj a ≤ sj b ↔ a ≤ b := by
  rw [Int32.le_iff_toInt_le, sj_toInt h1 h2, sj_toInt h3 h4]
section CND
variable {a b : Int} (h1 : -2147483648 ≤ a) (h2 : a < 2147483648) (h3 : -2147483648 ≤ b) (h4 : b < 2147483648)
theorem sj_ceq (h1 : -2147483648 ≤ a) (h2 : a < 2147483648) (h3 : -2147483648 ≤ b) (h4 : b < 2147483648) : (sk_cond .eq (sj a) (sj b) = true) = (a = b) := by
  simp only [sk_cond, beq_iff_eq]
  exact propext (sj_inj h1 h2 h3 h4)
theorem sj_cne (h1 : -2147483648 ≤ a) (h2 : a < 2147483648) (h3 : -2147483648 ≤ b) (h4 : b < 2147483648) : (sk_cond .ne (sj a) (sj b) = true) = ¬ (a = b) := by
  simp only [sk_cond, bne_iff_ne, ne_eq]
  exact propext (not_congr (sj_inj h1 h2 h3 h4))
theorem sj_clt (h1 : -2147483648 ≤ a) (h2 : a < 2147483648) (h3 : -2147483648 ≤ b) (h4 : b < 2147483648) : (sk_cond .lt (sj a) (sj b) = true) = (a < b) := by
  simp only [sk_cond, decide_eq_true_eq]
  exact propext (sj_lt h1 h2 h3 h4)
theorem sj_cge (h1 : -2147483648 ≤ a) (h2 : a < 2147483648) (h3 : -2147483648 ≤ b) (h4 : b < 2147483648) : (sk_cond .ge (sj a) (sj b) = true) = (b ≤ a) := by
  simp only [sk_cond, decide_eq_true_eq]
  exact propext (sj_le h3 h4 h1 h2)
theorem sj_cgt (h1 : -2147483648 ≤ a) (h2 : a < 2147483648) (h3 : -2147483648 ≤ b) (h4 : b < 2147483648) : (sk_cond .gt (sj a) (sj b) = true) = (b < a) := by
  simp only [sk_cond, decide_eq_true_eq]
  exact propext (sj_lt h3 h4 h1 h2)
theorem sj_cle (h1 : -2147483648 ≤ a) (h2 : a < 2147483648) (h3 : -2147483648 ≤ b) (h4 : b < 2147483648) : (sk_cond .le (sj a) (sj b) = true) = (a ≤ b) := by
  simp only [sk_cond, decide_eq_true_eq]
  exact propext (sj_le h1 h2 h3 h4)
end CND
theorem sj_nat {a : Int} (h1 : -2147483648 ≤ a) (h2 : a < 2147483648) : (sj a).toNatClampNeg = a.toNat := by
  show (sj a).toInt.toNat = _
  rw [sj_toInt h1 h2]
theorem sj_div {a b : Int} (h1 : 0 ≤ a) (h2 : a < 2147483648) (h3 : 0 < b) (h4 : b < 2147483648) : sj a / sj b = sj (a / b) := by
  apply Int32.toInt_inj.mp
  have h5 : a / b ≤ a := Int.ediv_le_self b h1
  have h6 : 0 ≤ a / b := Int.ediv_nonneg h1 (by omega)
  rw [Int32.toInt_div, sj_toInt (by omega) h2, sj_toInt (by omega) h4, sj_toInt (by omega) (by omega), Int.tdiv_eq_ediv_of_nonneg h1, Int.bmod_eq_of_le (by omega) (by omega)]
theorem sj_rem {a b : Int} (h1 : 0 ≤ a) (h2 : a < 2147483648) (h3 : 0 < b) (h4 : b < 2147483648) : sj a - sj a / sj b * sj b = sj (a % b) := by
  rw [sj_div h1 h2 h3 h4, sj_mul, sj_sub]
  congr 1
  have := Int.emod_def a b
  rw [this, Int.mul_comm]
/-- a cell's shape: ints; references that stay; an object whose references stay -/
abbrev sk_Sh : Type := Nat ⊕ ((Nat × Nat × (Nat → Option Nat)) ⊕ (Nat × List (Option Nat)))
/-- the ints of all cells -/
abbrev sk_H : Type := Nat → Nat → Int
def sk_mkC (I : sk_H) (a : Nat) : sk_Sh → sk_C
  | .inl n => .inl (n, fun j => sj (I a j))
  | .inr (.inl x) => .inr (.inl x)
  | .inr (.inr (ci, fs)) => .inr (.inr (ci, fs.mapIdx fun k f => match f with
    | some r => .ref r
    | none => .int (sj (I a k))))
def sk_mk (S : List sk_Sh) (I : sk_H) : sk_W := S.mapIdx fun a sh => sk_mkC I a sh
def u2 (I : sk_H) (a k : Nat) (v : Int) : sk_H := fun a' k' => if a' = a ∧ k' = k then v else I a' k'
theorem u2_eq (I : sk_H) (a k : Nat) (v : Int) : u2 I a k v a k = v := by simp [u2]
theorem u2_ne (I : sk_H) {a k a' k' : Nat} (v : Int) (h : ¬ (a' = a ∧ k' = k)) : u2 I a k v a' k' = I a' k' := by simp [u2, h]
theorem sk_mk_get {S : List sk_Sh} {I : sk_H} {a : Nat} {sh : sk_Sh} (h : S[a]? = some sh) : (sk_mk S I)[a]? = some (sk_mkC I a sh) := by
  unfold sk_mk
  rw [List.getElem?_mapIdx, h]
  rfl
theorem sk_mk_len (S : List sk_Sh) (I : sk_H) : (sk_mk S I).length = S.length := by simp [sk_mk]
/-- one cell's ints change -/
theorem sk_mk_set {S : List sk_Sh} {I I' : sk_H} {a : Nat} {sh : sk_Sh} {c : sk_C} (h : S[a]? = some sh) (hc : c = sk_mkC I' a sh) (ho : ∀ b : Nat, b ≠ a → I' b = I b) : (sk_mk S I).set a c = sk_mk S I' := by
  apply List.ext_getElem?
  intro b
  rw [List.getElem?_set]
  unfold sk_mk
  rw [List.getElem?_mapIdx, List.getElem?_mapIdx]
  by_cases hb : a = b
  · subst hb
    have hl : a < S.length := (List.getElem?_eq_some_iff.mp h).1
    rw [if_pos rfl, if_pos (by simpa using hl), h, hc]
    rfl
  · rw [if_neg hb]
    cases hs : S[b]? with
    | none => rfl
    | some s =>
      show some (sk_mkC I b s) = some (sk_mkC I' b s)
      have e : I' b = I b := ho b (fun q => hb q.symm)
      rcases s with n | x | ⟨ci, fs⟩ <;> simp only [sk_mkC, e]
section MK
variable {S : List sk_Sh} {I : sk_H} {a ci k : Nat} {fs : List (Option Nat)}
theorem mk_geti (h : S[a]? = some (.inr (.inr (ci, fs)))) (hk : fs[k]? = some none) : sk_geti (sk_mk S I) a ci k = some (sj (I a k)) := by
  unfold sk_geti
  rw [sk_mk_get h]
  simp only [sk_mkC, if_true, List.getElem?_mapIdx, hk, Option.map_some]
theorem mk_getr {r : Nat} (h : S[a]? = some (.inr (.inr (ci, fs)))) (hk : fs[k]? = some (some r)) : sk_getr (sk_mk S I) a ci k = some r := by
  unfold sk_getr
  rw [sk_mk_get h]
  simp only [sk_mkC, if_true, List.getElem?_mapIdx, hk, Option.map_some]
theorem mk_put (v : Int) (h : S[a]? = some (.inr (.inr (ci, fs)))) (hk : fs[k]? = some none) : sk_put (sk_mk S I) a ci k (.int (sj v)) = some (sk_mk S (u2 I a k v)) := by
  have hl : k < fs.length := (List.getElem?_eq_some_iff.mp hk).1
  unfold sk_put
  rw [sk_mk_get h]
  simp only [sk_mkC, List.length_mapIdx, true_and, hl, if_true]
  refine congrArg some (sk_mk_set h ?_ (fun b hb => funext fun j => u2_ne I v (fun q => hb q.1)))
  simp only [sk_mkC]
  congr 3
  apply List.ext_getElem?
  intro j
  rw [List.getElem?_set, List.getElem?_mapIdx, List.getElem?_mapIdx]
  by_cases hj : k = j
  · subst hj
    rw [if_pos rfl, if_pos (by simpa using hl), hk]
    show some _ = some (Value.int (sj (u2 I a k v a k)))
    rw [u2_eq]
  · rw [if_neg hj]
    cases hf : fs[j]? with
    | none => rfl
    | some f =>
      cases f with
      | some r => rfl
      | none =>
        show some (Value.int (sj (I a j))) = some (Value.int (sj (u2 I a k v a j)))
        rw [u2_ne I v (fun q => hj q.2.symm)]
theorem mk_ald {n : Nat} {i : Int} (h : S[a]? = some (.inl n)) (h0 : 0 ≤ i) (h1 : i < n) (hn : (n : Int) ≤ 2147483648) : sk_ald (sk_mk S I) a (sj i) = some (sj (I a i.toNat)) := by
  unfold sk_ald
  rw [sk_mk_get h]
  simp only [sk_mkC]
  rw [if_neg, sj_nat (by omega) (by omega)]
  rw [sj_nat (by omega) (by omega), sj_0, sj_lt (by omega) (by omega) (by omega) (by omega)]
  omega
theorem mk_ast {n : Nat} {i : Int} (v : Int) (h : S[a]? = some (.inl n)) (ha : a ≠ 0) (h0 : 0 ≤ i) (h1 : i < n) (hn : (n : Int) ≤ 2147483648) : sk_ast (sk_mk S I) a (sj i) (sj v) = some (sk_mk S (u2 I a i.toNat v)) := by
  obtain ⟨a, rfl⟩ : ∃ b, a = b + 1 := ⟨a - 1, by omega⟩
  unfold sk_ast
  dsimp only
  rw [sk_mk_get h]
  simp only [sk_mkC]
  rw [if_neg, sj_nat (by omega) (by omega)]
  · refine congrArg some (sk_mk_set h ?_ (fun b hb => funext fun j => u2_ne I v (fun q => hb q.1)))
    simp only [sk_mkC]
    congr 2
    funext j
    unfold upd u2
    by_cases hj : j = i.toNat
    · simp [hj]
    · simp [hj]
  · rw [sj_nat (by omega) (by omega), sj_0, sj_lt (by omega) (by omega) (by omega) (by omega)]
    omega
theorem mk_aldr {t n r : Nat} {f : Nat → Option Nat} {i : Int} (h : S[a]? = some (.inr (.inl (t, n, f)))) (ht : t < 4) (h0 : 0 ≤ i) (h1 : i < n) (hn : (n : Int) ≤ 2147483648) (hf : f i.toNat = some r) : sk_aldr (sk_mk S I) a (sj i) = some r := by
  unfold sk_aldr
  rw [sk_mk_get h]
  simp only [sk_mkC]
  rw [if_pos ht, if_neg, sj_nat (by omega) (by omega), hf]
  rw [sj_nat (by omega) (by omega), sj_0, sj_lt (by omega) (by omega) (by omega) (by omega)]
  omega
theorem mk_isO (h : S[a]? = some (.inr (.inr (ci, fs)))) : sk_isO (sk_mk S I) a ci = true := by
  unfold sk_isO
  rw [sk_mk_get h]
  simp [sk_mkC]
theorem mk_len {n : Nat} (h : S[a]? = some (.inl n)) : sk_len (sk_mk S I) a = some (sj n) := by
  unfold sk_len
  rw [sk_mk_get h]
  rfl
def cpy2 (I : sk_H) (a0 : Nat) (sp : Nat) (a : Nat) (dp n : Nat) : sk_H := fun a' k => if a' = a ∧ dp ≤ k ∧ k < dp + n then I a0 (sp + (k - dp)) else I a' k
theorem mk_copy {a0 n0 n1 : Nat} {sp dp n : Int} (h0 : S[a0]? = some (.inl n0)) (h1 : S[a]? = some (.inl n1)) (ha0 : a0 ≠ 0) (ha : a ≠ 0) (hs : 0 ≤ sp) (hd : 0 ≤ dp) (hn : 0 ≤ n) (hs1 : sp + n ≤ n0) (hd1 : dp + n ≤ n1) (g0 : (n0 : Int) < 2147483648) (g1 : (n1 : Int) < 2147483648) : sk_copy (sk_mk S I) a0 (sj sp) a (sj dp) (sj n) = some (sk_mk S (cpy2 I a0 sp.toNat a dp.toNat n.toNat)) := by
  obtain ⟨a, rfl⟩ : ∃ b, a = b + 1 := ⟨a - 1, by omega⟩
  obtain ⟨a0, rfl⟩ : ∃ b, a0 = b + 1 := ⟨a0 - 1, by omega⟩
  unfold sk_copy
  dsimp only
  rw [sk_mk_get h0, sk_mk_get h1]
  simp only [sk_mkC]
  rw [sj_nat (by omega) (by omega), sj_nat (by omega) (by omega), sj_nat (by omega) (by omega), if_pos]
  · refine congrArg some (sk_mk_set h1 ?_ (fun b hb => funext fun j => ?_))
    · simp only [sk_mkC]
      congr 2
      funext j
      unfold va_cpy cpy2
      by_cases hj : dp.toNat ≤ j ∧ j < dp.toNat + n.toNat
      · rw [if_pos hj, if_pos ⟨rfl, hj⟩]
      · rw [if_neg hj, if_neg (fun q => hj q.2)]
    · unfold cpy2
      rw [if_neg (fun q => hb q.1)]
  · rw [sj_0, sj_lt (by omega) (by omega) (by omega) (by omega), sj_lt (by omega) (by omega) (by omega) (by omega), sj_lt (by omega) (by omega) (by omega) (by omega)]
    refine ⟨by omega, by omega, by omega, by omega, by omega⟩
end MK
