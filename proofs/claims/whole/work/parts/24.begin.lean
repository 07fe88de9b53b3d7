/-! ===== the constructors of SkylineNester and of the reference: the world in which the law begins ===== -/
theorem sk_cv_some (w : sk_W) (k : sk_W → Option sk_R) : sk_cv (some (none, w)) k = k w := rfl
theorem sk_ci_some (v : Int32) (w : sk_W) (k : Int32 → sk_W → Option sk_R) : sk_ci (some (some (.int v), w)) k = k v w := rfl
theorem sk_cf_some (v : UInt32) (w : sk_W) (k : UInt32 → sk_W → Option sk_R) : sk_cf (some (some (.float v), w)) k = k v w := rfl
def sk_o10 (fs : List Value) : sk_C := .inr (.inr (10, fs))
theorem c_put (c0 : sk_C) (fs : List Value) (R B : sk_W) (k : Nat) (v : Value) (h : k < fs.length) : sk_put ((c0 :: sk_o10 fs :: R) ++ B) 1 10 k v = some (c0 :: sk_o10 (fs.set k v) :: (R ++ B)) := by
  simp [sk_put, sk_o10, h]
theorem c_put0 (c0 : sk_C) (fs : List Value) (R : sk_W) (k : Nat) (v : Value) (h : k < fs.length) : sk_put (c0 :: sk_o10 fs :: R) 1 10 k v = some (c0 :: sk_o10 (fs.set k v) :: R) := by
  simp [sk_put, sk_o10, h]
theorem c_step {d mi ci k : Nat} {c0 : sk_C} {fs g : List Value} {R : sk_W} {blk : sk_W} (h : sk_c d mi [.ref (c0 :: sk_o10 fs :: R).length] ((c0 :: sk_o10 fs :: R) ++ [.inr (.inr (ci, g))]) = some (none, (c0 :: sk_o10 fs :: R) ++ blk)) (hk : k < fs.length) (K : sk_W → Option sk_R) :
    (if sk_isO ((c0 :: sk_o10 fs :: R) ++ [.inr (.inr (ci, g))]) (List.length (c0 :: sk_o10 fs :: R)) ci = true then sk_cv (sk_c d mi [.ref (List.length (c0 :: sk_o10 fs :: R))] ((c0 :: sk_o10 fs :: R) ++ [.inr (.inr (ci, g))])) fun w1 => (sk_put w1 1 10 k (.ref (List.length (c0 :: sk_o10 fs :: R)))).bind K else none) = K (c0 :: sk_o10 (fs.set k (.ref (List.length (c0 :: sk_o10 fs :: R)))) :: (R ++ blk)) := by
  rw [if_pos (by rw [b_isO0]; simp [sk_isO]), h, sk_cv_some, c_put _ _ _ _ _ _ hk]
  rfl
/-- rack and sheet k, the blocks of the loop -/
def sk_hs (n : Nat) : Nat → sk_W
  | 0 => []
  | k + 1 => sk_hs n k ++ [.inr (.inr (4, [.ref (n + 4 * k + 1), .int (sj (-1)), .int (sj 0)])), .inl (10, fun _ => 0), .inr (.inr (6, [.ref (n + 4 * k + 3), .int (sj (-1)), .int (sj 0)])), .inl (40, fun _ => 0)]
theorem sk_hs_len (n k : Nat) : (sk_hs n k).length = 4 * k := by
  induction k with
  | zero => rfl
  | succ k ih => simp [sk_hs, ih]; omega
def sk_four (n b : Nat) : Nat → Nat → Option Nat := fun k j => if j < k then some (n + b + 4 * j) else none
theorem sk_four_up (n b k : Nat) : va_up (sk_four n b k) k (some (n + b + 4 * k)) = sk_four n b (k + 1) := by
  funext j
  unfold va_up sk_four
  by_cases h : j = k
  · subst h; simp
  · by_cases h2 : j < k
    · simp [h, h2, Nat.lt_succ_of_lt h2]
    · simp [h, h2, show ¬ j < k + 1 by omega]
theorem sk_four_0 (n b : Nat) : (fun _ => none : Nat → Option Nat) = sk_four n b 0 := by
  funext j
  simp [sk_four]
def sk_hw (Q : sk_W) (k : Nat) : sk_W := Q ++ .inr (.inl (1, 4, sk_four Q.length 2 k)) :: .inr (.inl (2, 4, sk_four Q.length 4 k)) :: sk_hs (Q.length + 2) k
theorem sk_n101L (d : Nat) (Q : sk_W) (fs : List Value) (hq : Q[1]? = some (.inr (.inr (10, fs)))) (h7 : fs[7]? = some (.ref Q.length)) (h8 : fs[8]? = some (.ref (Q.length + 1))) : ∀ m k : Nat, m + k = 4 → sk_D101 (d + 1) 104 [some (.ref 1), some (.int (sj (k : Int)))] [] (sk_hw Q k) = some (none, sk_hw Q 4) := by
  have hr : ∀ (W : sk_W), sk_getr (Q ++ W) 1 10 7 = some Q.length ∧ sk_getr (Q ++ W) 1 10 8 = some (Q.length + 1) := fun W => by
    have hl : 1 < Q.length := (List.getElem?_eq_some_iff.mp hq).1
    unfold sk_getr
    rw [List.getElem?_append_left hl, hq]
    simp [h7, h8]
  intro m
  induction m with
  | zero =>
    intro k hk
    obtain rfl : k = 4 := by omega
    rw [sk_e101_104, if_pos]
    rw [sk_ge4 (by omega)]
    omega
  | succ m ih =>
    intro k hk
    rw [sk_e101_104, if_neg (by rw [sk_ge4 (by omega)]; omega)]
    have h1 : sk_getr (sk_hw Q k) 1 10 7 = some Q.length := (hr _).1
    rw [h1, Option.bind_some]
    have h2 : sk_isO (sk_hw Q k ++ [.inr (.inr (4, sk_fields 4))]) (sk_hw Q k).length 4 = true := by
      rw [b_isO0]
      rfl
    have hl : (sk_hw Q k).length = Q.length + 2 + 4 * k := by simp [sk_hw, sk_hs_len]; omega
    rw [if_pos h2, sk_n62, sk_cv_some]
    have e1 := sk_put1 (P := Q) (A := .inr (.inl (1, 4, sk_four Q.length 2 k)) :: .inr (.inl (2, 4, sk_four Q.length 4 k)) :: sk_hs (Q.length + 2) k) (j := 0) (t := 1) (ci := 4) (k := k) (n := 4) (c := .inr (.inr (4, [.ref ((sk_hw Q k).length + 1), .int (sj (-1)), .int (sj 0)]))) (g := sk_four Q.length 2 (k + 1)) rfl ⟨_, rfl⟩ (by omega) (by omega) (by rw [← sk_four_up]; congr 2; simp [sk_hs_len]; omega) [.inl (10, fun _ => 0)]
    have e1 : sk_astr (sk_hw Q k ++ .inr (.inr (4, [.ref ((sk_hw Q k).length + 1), .int (sj (-1)), .int (sj 0)])) :: [.inl (10, fun _ => 0)]) Q.length 1 4 (sj (k : Int)) (sk_hw Q k).length = _ := e1
    rw [e1, Option.bind_some, (hr _).2, Option.bind_some, if_pos (by rw [b_isO0]; rfl), sk_n78, sk_cv_some]
    have e2 := fun (n2 : Nat) (hn2 : n2 = Q.length + 2 + 4 * k + 2) => sk_put1 (P := Q) (A := (.inr (.inl (1, 4, sk_four Q.length 2 (k + 1))) :: .inr (.inl (2, 4, sk_four Q.length 4 k)) :: sk_hs (Q.length + 2) k) ++ .inr (.inr (4, [.ref ((sk_hw Q k).length + 1), .int (sj (-1)), .int (sj 0)])) :: [.inl (10, fun _ => 0)]) (j := 1) (t := 2) (ci := 6) (k := k) (n := 4) (c := .inr (.inr (6, [.ref (n2 + 1), .int (sj (-1)), .int (sj 0)]))) (g := sk_four Q.length 4 (k + 1)) rfl ⟨_, rfl⟩ (by omega) (by omega) (by rw [← sk_four_up]; congr 2; simp [sk_hs_len]; omega) [.inl (40, fun _ => 0)]
    rw [List.set_cons_zero]
    rw [e2 _ (by simp [sk_hs_len]; omega), Option.bind_some, sk_kS]
    rw [← ih (k + 1) (by omega)]
    congr 1
    simp [sk_hw, sk_hs, sk_hs_len, hl]
    omega
def sk_B84 : sk_W := sk_tb 2 10 (.inr (.inr (8, [.ref 3, .int (sj 0), .ref 4, .int 0, .int 0])))
def sk_B35 (n : Nat) : sk_W := sk_pb n 10 (.inr (.inr (3, [.ref (n + 1), .ref (n + 2), .ref (n + 3), .ref (n + 4), .int (sj 10), .int (sj 0), .int (sj 0), .int (sj 0), .int (sj 1)]))) [.inl (10, fun _ => 0), .inl (20, fun _ => 0), .inr (.inr (9, [.ref (n + 5), .ref (n + 6), .ref (n + 7), .ref (n + 8), .int (sj 0)])), .inl (64, fun _ => 0), .inl (64, fun _ => 0), .inl (64, fun _ => 0), .inl (64, fun _ => 0)]
def sk_R1 : sk_W := sk_B84
def sk_R2 : sk_W := sk_R1 ++ sk_B35 15
def sk_R3 : sk_W := sk_R2 ++ sk_B35 34
def sk_R4 : sk_W := sk_R3 ++ sk_B35 53
def sk_R5 : sk_W := sk_R4 ++ [.inr (.inr (1, [.ref 73])), .inr (.inr (7, sk_fields 7))]
def sk_R6 : sk_W := sk_R5 ++ [.inr (.inr (5, [.ref 75, .int 0, .int 0, .ref 76, .ref 77, .ref 78, .ref 79, .int 0])), .inl (5, fun _ => 0), .inl (120, fun _ => 0), .inl (1200, fun _ => 0), .inl (10, fun _ => 0), .inl (10, fun _ => 0)]
def sk_R7 : sk_W := sk_R6 ++ [.inr (.inr (0, [.ref 81, .ref 82, .ref 83, .ref 84, .ref 85, .ref 86, .int 0])), .inl (10, fun _ => 0), .inl (10, fun _ => 0), .inl (10, fun _ => 0), .inl (10, fun _ => 0), .inl (10, fun _ => 0), .inl (10, fun _ => 0)]
def sk_Q0 (c0 : sk_C) : sk_W := c0 :: sk_o10 [.ref 2, .ref 15, .ref 34, .ref 53, .ref 72, .ref 74, .ref 80, .ref 87, .ref 88, .int (sj 0)] :: sk_R7
theorem c_step2 {d mi ci k : Nat} {c0 : sk_C} {fs g : List Value} {R : sk_W} {blk : sk_W} (n : Nat) (hn : n = (c0 :: sk_o10 fs :: R).length) (h : sk_c d mi [.ref (c0 :: sk_o10 fs :: R).length] ((c0 :: sk_o10 fs :: R) ++ [.inr (.inr (ci, g))]) = some (none, (c0 :: sk_o10 fs :: R) ++ blk)) (hk : k < fs.length) (fs' : List Value) (hf : fs' = fs.set k (.ref n)) (R' : sk_W) (hR : R' = R ++ blk) (K : sk_W → Option sk_R) :
    (if sk_isO ((c0 :: sk_o10 fs :: R) ++ [.inr (.inr (ci, g))]) (List.length (c0 :: sk_o10 fs :: R)) ci = true then sk_cv (sk_c d mi [.ref (List.length (c0 :: sk_o10 fs :: R))] ((c0 :: sk_o10 fs :: R) ++ [.inr (.inr (ci, g))])) fun w1 => (sk_put w1 1 10 k (.ref (List.length (c0 :: sk_o10 fs :: R)))).bind K else none) = K (c0 :: sk_o10 fs' :: R') := by
  rw [hf, hR, hn]
  exact c_step h hk K
theorem sk_n101 (d : Nat) (c0 : sk_C) : sk_c (d + 3) 101 [.ref 1] [c0, .inr (.inr (10, sk_fields 10))] = some (none, sk_hw (sk_Q0 c0) 4) := by
  rw [sk_e101]
  refine (c_step2 (c0 := c0) (fs := sk_fields 10) (R := []) 2 rfl (sk_n84 d _) (by decide) [.ref 2, .null, .null, .null, .null, .null, .null, .null, .null, .int 0] rfl sk_R1 rfl _).trans ?_
  refine (c_step2 15 rfl (sk_n35 d _) (by decide) [.ref 2, .ref 15, .null, .null, .null, .null, .null, .null, .null, .int 0] rfl sk_R2 rfl _).trans ?_
  refine (c_step2 34 rfl (sk_n35 d _) (by decide) [.ref 2, .ref 15, .ref 34, .null, .null, .null, .null, .null, .null, .int 0] rfl sk_R3 rfl _).trans ?_
  refine (c_step2 53 rfl (sk_n35 d _) (by decide) [.ref 2, .ref 15, .ref 34, .ref 53, .null, .null, .null, .null, .null, .int 0] rfl sk_R4 rfl _).trans ?_
  refine (c_step2 72 rfl (sk_n17 d _) (by decide) [.ref 2, .ref 15, .ref 34, .ref 53, .ref 72, .null, .null, .null, .null, .int 0] rfl sk_R5 rfl _).trans ?_
  refine (c_step2 74 rfl (sk_n68 (d + 1) _) (by decide) [.ref 2, .ref 15, .ref 34, .ref 53, .ref 72, .ref 74, .null, .null, .null, .int 0] rfl sk_R6 rfl _).trans ?_
  refine (c_step2 80 rfl (sk_n10 (d + 1) _) (by decide) [.ref 2, .ref 15, .ref 34, .ref 53, .ref 72, .ref 74, .ref 80, .null, .null, .int 0] rfl sk_R7 rfl _).trans ?_
  rw [c_put _ _ _ _ _ _ (by decide), Option.bind_some, c_put _ _ _ _ _ _ (by simp only [List.length_set]; decide), Option.bind_some, c_put0 _ _ _ _ _ (by simp only [List.length_set]; decide), Option.bind_some]
  refine Eq.trans ?_ (sk_n101L (d + 1) (sk_Q0 c0) _ rfl rfl rfl 4 0 rfl)
  have e0 : sk_hw (sk_Q0 c0) 0 = (sk_Q0 c0) ++ [.inr (.inl (1, 4, fun _ => none)), .inr (.inl (2, 4, fun _ => none))] := by
    rw [sk_hw, ← sk_four_0, ← sk_four_0]
    rfl
  rw [e0]
  rfl
def sk_o11 (fs : List Value) : sk_C := .inr (.inr (11, fs))
theorem b_ald (P l : sk_W) (j : Nat) (i : Int32) : sk_aldr (P ++ l) (P.length + j) i = sk_aldr l j i := by
  unfold sk_aldr
  rw [b_get]
theorem b_ast (P l : sk_W) (hP : 0 < P.length) (j : Nat) (i x : Int32) : sk_ast (P ++ l) (P.length + j) i x = match l[j]? with
    | some (.inl (n, f)) => if i < 0 ∨ n ≤ i.toNatClampNeg then none else some (P ++ l.set j (.inl (n, upd f i.toNatClampNeg x)))
    | _ => none := by
  obtain ⟨a, ha⟩ : ∃ a, P.length + j = a + 1 := ⟨P.length + j - 1, by omega⟩
  rw [ha]
  unfold sk_ast
  dsimp only
  rw [← ha, b_get]
  cases h : l[j]? with
  | none => rfl
  | some c =>
    rcases c with ⟨n, f⟩ | x
    · dsimp only
      rw [b_set]
    · rfl
def sk_rowA : Nat → Int32 := upd (upd (fun _ => 0) 0 (sj 10)) 4 (sj 1)
def sk_neg4 : Nat → Int32 := upd (upd (upd (upd (fun _ => 0) 0 (sj (-1))) 1 (sj (-1))) 2 (sj (-1))) 3 (sj (-1))
def sk_B145 (n : Nat) : sk_W := sk_o11 [.ref (n + 1), .ref (n + 2), .int 0, .ref (n + 5), .int 0, .ref (n + 6), .int 0, .int 0, .int 0, .int 0, .int 0, .ref (n + 7), .ref (n + 8), .ref (n + 9), .ref (n + 10), .ref (n + 11), .ref (n + 12), .ref (n + 13), .ref (n + 14), .ref (n + 19), .ref (n + 20), .ref (n + 21), .ref (n + 22), .ref (n + 27)] ::
  [.inr (.inl (3, 3, fun q => if q < 3 then some (n + 1 + 1 + q) else none)), .inl (1141, sk_rowA), .inl (1141, fun _ => 0), .inl (1141, fun _ => 0), .inl (60, fun _ => 0), .inl (300, fun _ => 0), .inl (10, fun _ => 0), .inl (1220, fun _ => 0), .inl (120, fun _ => 0), .inl (10, fun _ => 0), .inl (10, fun _ => 0), .inl (4, sk_neg4), .inl (4, fun _ => 0),
   .inr (.inl (3, 4, fun q => if q < 4 then some (n + 14 + 1 + q) else none)), .inl (10, fun _ => 0), .inl (10, fun _ => 0), .inl (10, fun _ => 0), .inl (10, fun _ => 0), .inl (10, fun _ => 0), .inl (4, sk_neg4), .inl (4, fun _ => 0), .inr (.inl (3, 4, fun q => if q < 4 then some (n + 22 + 1 + q) else none)), .inl (40, fun _ => 0), .inl (40, fun _ => 0), .inl (40, fun _ => 0), .inl (40, fun _ => 0), .inl (40, fun _ => 0)]
theorem d_put (P R B : sk_W) (fs : List Value) (k : Nat) (v : Value) (h : k < fs.length) : sk_put ((P ++ sk_o11 fs :: R) ++ B) P.length 11 k v = some (P ++ sk_o11 (fs.set k v) :: (R ++ B)) := by
  rw [List.append_assoc, b_put0]
  simp [sk_put, sk_o11, h]
theorem d_put0 (P R : sk_W) (fs : List Value) (k : Nat) (v : Value) (h : k < fs.length) : sk_put (P ++ sk_o11 fs :: R) P.length 11 k v = some (P ++ sk_o11 (fs.set k v) :: R) := by
  rw [b_put0]
  simp [sk_put, sk_o11, h]
theorem d_getr (P R : sk_W) (fs : List Value) (k r : Nat) (h : fs[k]? = some (.ref r)) : sk_getr (P ++ sk_o11 fs :: R) P.length 11 k = some r := by
  rw [b_getr0]
  simp [sk_getr, sk_o11, h]
theorem d_len (P R : sk_W) (fs : List Value) : (P ++ sk_o11 fs :: R).length = P.length + (1 + R.length) := by
  simp
  omega
theorem d_neg (P R : sk_W) (hP : 0 < P.length) (fs : List Value) (k : Nat) (v : Value) (h : k < fs.length) (K : sk_W → Option sk_R) : ((sk_ast ((P ++ sk_o11 fs :: R) ++ [.inl (4, fun _ => 0)]) (List.length (P ++ sk_o11 fs :: R)) (sj 0) (sj (-1))).bind fun w12 =>
  (sk_ast w12 (List.length (P ++ sk_o11 fs :: R)) (sj 1) (sj (-1))).bind fun w13 =>
  (sk_ast w13 (List.length (P ++ sk_o11 fs :: R)) (sj 2) (sj (-1))).bind fun w14 =>
  (sk_ast w14 (List.length (P ++ sk_o11 fs :: R)) (sj 3) (sj (-1))).bind fun w15 =>
  (sk_put w15 P.length 11 k v).bind K) = K (P ++ sk_o11 (fs.set k v) :: (R ++ [.inl (4, sk_neg4)])) := by
  have hl : 0 < (P ++ sk_o11 fs :: R).length := by rw [d_len]; omega
  have hb := fun (f : Nat → Int32) (i x : Int32) => b_ast (P ++ sk_o11 fs :: R) [.inl (4, f)] hl 0 i x
  have hk := fun (f : Nat → Int32) (i : Nat) (hi : i < 4) => show sk_ast ((P ++ sk_o11 fs :: R) ++ [.inl (4, f)]) (List.length (P ++ sk_o11 fs :: R)) (sj i) (sj (-1)) = some ((P ++ sk_o11 fs :: R) ++ [.inl (4, upd f i (sj (-1)))]) by
    refine (hb f _ _).trans ?_
    dsimp only [List.getElem?_cons_zero]
    rw [if_neg (sk_kin hi (by omega)), sj_nat (by omega) (by omega), Int.toNat_natCast]
    rfl
  rw [show (sj 0) = sj ((0 : Nat) : Int) from rfl, hk _ 0 (by omega), Option.bind_some, show (sj 1) = sj ((1 : Nat) : Int) from rfl, hk _ 1 (by omega), Option.bind_some, show (sj 2) = sj ((2 : Nat) : Int) from rfl, hk _ 2 (by omega), Option.bind_some, show (sj 3) = sj ((3 : Nat) : Int) from rfl, hk _ 3 (by omega), Option.bind_some, d_put _ _ _ _ _ _ h, Option.bind_some]
  rfl
theorem d_mk {P R B : sk_W} {fs : List Value} {k : Nat} (m : Nat) (hm : m = 1 + R.length) (hk : k < fs.length) (K : sk_W → Option sk_R) : (sk_put ((P ++ sk_o11 fs :: R) ++ B) P.length 11 k (.ref (List.length (P ++ sk_o11 fs :: R)))).bind K = K (P ++ sk_o11 (fs.set k (.ref (P.length + m))) :: (R ++ B)) := by
  rw [d_put _ _ _ _ _ _ hk, d_len, hm]
  rfl
theorem d_neg2 {P R : sk_W} (hP : 0 < P.length) {fs : List Value} {k : Nat} (m : Nat) (hm : m = 1 + R.length) (h : k < fs.length) (K : sk_W → Option sk_R) : ((sk_ast ((P ++ sk_o11 fs :: R) ++ [.inl (4, fun _ => 0)]) (List.length (P ++ sk_o11 fs :: R)) (sj 0) (sj (-1))).bind fun w12 =>
  (sk_ast w12 (List.length (P ++ sk_o11 fs :: R)) (sj 1) (sj (-1))).bind fun w13 =>
  (sk_ast w13 (List.length (P ++ sk_o11 fs :: R)) (sj 2) (sj (-1))).bind fun w14 =>
  (sk_ast w14 (List.length (P ++ sk_o11 fs :: R)) (sj 3) (sj (-1))).bind fun w15 =>
  (sk_put w15 P.length 11 k (.ref (List.length (P ++ sk_o11 fs :: R)))).bind K) = K (P ++ sk_o11 (fs.set k (.ref (P.length + m))) :: (R ++ [.inl (4, sk_neg4)])) := by
  have := d_neg P R hP fs k (.ref (List.length (P ++ sk_o11 fs :: R))) h K
  rw [this, d_len, hm]
theorem d_ast {P R : sk_W} (hP : 0 < P.length) {fs : List Value} {n : Nat} {f : Nat → Int32} (j i : Nat) (v : Int32) (hj : R[j]? = some (.inl (n, f))) (hi : i < n) (hn : n ≤ 2000) : sk_ast (P ++ sk_o11 fs :: R) (P.length + (j + 1)) (sj (i : Int)) v = some (P ++ sk_o11 fs :: R.set j (.inl (n, upd f i v))) := by
  rw [b_ast _ _ hP, List.getElem?_cons_succ, hj]
  dsimp only
  rw [if_neg, sj_nat (by omega) (by omega), Int.toNat_natCast]
  · rfl
  · rw [sj_nat (by omega) (by omega), sj_0, sj_lt (by omega) (by omega) (by omega) (by omega)]
    omega
theorem sk_n145 (d : Nat) (P : sk_W) (hP : 0 < P.length) : sk_c (d + 1) 145 [.ref P.length] (P ++ [.inr (.inr (11, sk_fields 11))]) = some (none, P ++ sk_B145 P.length) := by
  rw [sk_e145]
  refine (d_mk (P := P) (fs := sk_fields 11) (R := []) 1 rfl (by decide) _).trans ?_
  rw [d_getr _ _ _ _ (P.length + 1) rfl, Option.bind_some, b_ald]
  have e1 : ∀ (R : sk_W) (o : sk_C) (f : Nat → Option Nat) (r : Nat), f 0 = some r → sk_aldr (o :: .inr (.inl (3, 3, f)) :: R) 1 (sj 0) = some r := fun R o f r hr => by
    unfold sk_aldr
    dsimp only [List.getElem?_cons_succ, List.getElem?_cons_zero]
    rw [if_pos (by decide), if_neg (by decide)]
    exact hr
  refine (congrArg (fun q => Option.bind q _) (e1 _ _ _ (P.length + 2) (by simp))).trans ?_
  rw [Option.bind_some, d_put0 _ _ _ _ _ (by simp only [List.length_set]; decide), Option.bind_some]
  refine (d_mk 5 rfl (by simp only [List.length_set]; decide) _).trans ?_
  refine (d_mk 6 rfl (by simp only [List.length_set]; decide) _).trans ?_
  refine (d_mk 7 rfl (by simp only [List.length_set]; decide) _).trans ?_
  refine (d_mk 8 rfl (by simp only [List.length_set]; decide) _).trans ?_
  refine (d_mk 9 rfl (by simp only [List.length_set]; decide) _).trans ?_
  refine (d_mk 10 rfl (by simp only [List.length_set]; decide) _).trans ?_
  refine (d_mk 11 rfl (by simp only [List.length_set]; decide) _).trans ?_
  refine (d_neg2 hP 12 rfl (by simp only [List.length_set]; decide) _).trans ?_
  refine (d_mk 13 rfl (by simp only [List.length_set]; decide) _).trans ?_
  refine (d_mk 14 rfl (by simp only [List.length_set]; decide) _).trans ?_
  refine (d_mk 19 rfl (by simp only [List.length_set]; decide) _).trans ?_
  refine (d_neg2 hP 20 rfl (by simp only [List.length_set]; decide) _).trans ?_
  refine (d_mk 21 rfl (by simp only [List.length_set]; decide) _).trans ?_
  refine (d_mk 22 rfl (by simp only [List.length_set]; decide) _).trans ?_
  refine (d_mk 27 rfl (by simp only [List.length_set]; decide) _).trans ?_
  rw [d_getr _ _ _ _ (P.length + 2) rfl, Option.bind_some, show (sj 0) = sj ((0 : Nat) : Int) from rfl, d_ast hP 1 0 _ rfl (by omega) (by omega), Option.bind_some, d_getr _ _ _ _ (P.length + 2) rfl, Option.bind_some, show (sj 4) = sj ((4 : Nat) : Int) from rfl, d_ast hP 1 4 _ rfl (by omega) (by omega), Option.bind_some]
  simp only [d_len]
  refine congrArg (fun q => some (none, P ++ q)) ?_
  unfold sk_B145
  refine congr (congrArg List.cons ?_) ?_
  · refine congrArg sk_o11 ?_
    simp only [sk_fields_11, List.set_cons_zero, List.set_cons_succ]
  · simp only [List.nil_append, List.cons_append, List.replicate_succ, List.replicate_zero, List.set_cons_zero, List.set_cons_succ, List.length_cons, List.length_nil, List.length_append, Nat.zero_add, Nat.reduceAdd, Nat.add_assoc]
    rfl
/-- where the law begins: both objects stand -/
def sk_w0 (c0 : sk_C) : sk_W := sk_hw (sk_Q0 c0) 4 ++ sk_B145 105
theorem sk_n244 (d : Nat) (c0 : sk_C) : sk_D244 (d + 3) 0 [some (.ref 0), none, none, none] [] [c0] = sk_D244 (d + 3) 18 [some (.ref 0), some (.ref 1), some (.ref 105), some (.int (sj 0))] [] (sk_w0 c0) := by
  rw [sk_e244]
  have h1 : sk_isO ([c0] ++ [.inr (.inr (10, sk_fields 10))]) (List.length [c0]) 10 = true := rfl
  rw [if_pos h1]
  have h2 : sk_c (d + 3) 101 [.ref (List.length [c0])] ([c0] ++ [.inr (.inr (10, sk_fields 10))]) = _ := sk_n101 d c0
  rw [h2, sk_cv_some, if_pos (by rw [b_isO0]; rfl)]
  rw [sk_n145 (d + 2) _ (by rw [sk_hw, List.length_append]; exact Nat.add_pos_left (Nat.succ_pos _) _), sk_cv_some]
  rfl
/-! ===== the first world as shape and contents ===== -/
def sk_sh : sk_C → sk_Sh
  | .inl (n, _) => .inl n
  | .inr (.inl x) => .inr (.inl x)
  | .inr (.inr (ci, fs)) => .inr (.inr (ci, fs.map fun v => match v with
    | .ref r => some r
    | _ => none))
def sk_rd (w : sk_W) : sk_H := fun a k => match w[a]? with
  | some (.inl (_, f)) => (f k).toInt
  | some (.inr (.inr (_, fs))) => (match fs[k]? with
    | some (.int v) => v.toInt
    | _ => 0)
  | _ => 0
def sk_okV : Value → Bool
  | .int _ => true
  | .ref _ => true
  | _ => false
def sk_okC : sk_C → Bool
  | .inr (.inr (_, fs)) => fs.all sk_okV
  | _ => true
theorem sk_mk_rd (w : sk_W) (h : w.all sk_okC = true) : w = sk_mk (w.map sk_sh) (sk_rd w) := by
  apply List.ext_getElem?
  intro a
  unfold sk_mk
  rw [List.getElem?_mapIdx, List.getElem?_map]
  cases hc : w[a]? with
  | none => rfl
  | some c =>
    show some c = some (sk_mkC (sk_rd w) a (sk_sh c))
    have hr : ∀ k, sk_rd w a k = match some c with
      | some (.inl (_, f)) => (f k).toInt
      | some (.inr (.inr (_, fs))) => (match fs[k]? with
        | some (.int v) => v.toInt
        | _ => 0)
      | _ => 0 := fun k => by unfold sk_rd; rw [hc]
    have hok := List.all_eq_true.mp h c (List.mem_of_getElem? hc)
    rcases c with ⟨n, f⟩ | x | ⟨ci, fs⟩
    · dsimp only [sk_sh, sk_mkC]
      congr 3
      funext j
      rw [hr]
      exact (sj_of _).symm
    · rfl
    · dsimp only [sk_sh, sk_mkC]
      congr 4
      apply List.ext_getElem?
      intro k
      rw [List.getElem?_mapIdx, List.getElem?_map]
      cases hv : fs[k]? with
      | none => rfl
      | some v =>
        have hvo := List.all_eq_true.mp hok v (List.mem_of_getElem? hv)
        have hrk := hr k
        dsimp only at hrk
        rw [hv] at hrk
        cases v with
        | int v =>
          show some (Value.int v) = some (Value.int (sj (sk_rd w a k)))
          rw [hrk]
          dsimp only
          rw [sj_of]
        | ref r => rfl
        | _ => cases hvo
