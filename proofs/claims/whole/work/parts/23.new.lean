/-! ===== constructors: each makes its block behind what stands ===== -/
section BLK
variable (P l : sk_W)
theorem b_get (j : Nat) : (P ++ l)[P.length + j]? = l[j]? := by
  rw [List.getElem?_append_right (by omega), Nat.add_sub_cancel_left]
theorem b_get0 : (P ++ l)[P.length]? = l[0]? := b_get P l 0
theorem b_set (j : Nat) (c : sk_C) : (P ++ l).set (P.length + j) c = P ++ l.set j c := by
  induction P with
  | nil => simp
  | cons p P ih =>
    rw [List.cons_append, List.length_cons, show P.length + 1 + j = (P.length + j) + 1 by omega, List.set_cons_succ, ih]
    rfl
theorem b_set0 (c : sk_C) : (P ++ l).set P.length c = P ++ l.set 0 c := b_set P l 0 c
theorem b_put (j ci k : Nat) (v : Value) : sk_put (P ++ l) (P.length + j) ci k v = (sk_put l j ci k v).map (fun q => P ++ q) := by
  unfold sk_put
  rw [b_get]
  cases h : l[j]? with
  | none => rfl
  | some c =>
    rcases c with x | x | ⟨c, fs⟩
    · rfl
    · rfl
    · dsimp only
      split
      · rw [b_set]; rfl
      · rfl
theorem b_put0 (ci k : Nat) (v : Value) : sk_put (P ++ l) P.length ci k v = (sk_put l 0 ci k v).map (fun q => P ++ q) := b_put P l 0 ci k v
theorem b_getr (j ci k : Nat) : sk_getr (P ++ l) (P.length + j) ci k = sk_getr l j ci k := by
  unfold sk_getr
  rw [b_get]
theorem b_getr0 (ci k : Nat) : sk_getr (P ++ l) P.length ci k = sk_getr l 0 ci k := b_getr P l 0 ci k
theorem b_isO (j ci : Nat) : sk_isO (P ++ l) (P.length + j) ci = sk_isO l j ci := by
  unfold sk_isO
  rw [b_get]
theorem b_isO0 (ci : Nat) : sk_isO (P ++ l) P.length ci = sk_isO l 0 ci := b_isO P l 0 ci
theorem b_astr (j t ci v : Nat) (i : Int32) : sk_astr (P ++ l) (P.length + j) t ci i (P.length + v) = match l[j]? with
    | some (.inr (.inl (t', n, f))) => if t' = t ∧ sk_isO l v ci = true then (if i < 0 ∨ n ≤ i.toNatClampNeg then none else some (P ++ l.set j (.inr (.inl (t', n, va_up f i.toNatClampNeg (some (P.length + v))))))) else none
    | _ => none := by
  unfold sk_astr
  rw [b_get]
  cases h : l[j]? with
  | none => rfl
  | some c =>
    rcases c with x | ⟨t', n, f⟩ | x
    · rfl
    · dsimp only
      rw [b_isO, b_set]
    · rfl
end BLK
theorem sk_put_hd (ci k : Nat) (fs : List Value) (l : sk_W) (v : Value) (h : k < fs.length) : sk_put (.inr (.inr (ci, fs)) :: l) 0 ci k v = some (.inr (.inr (ci, fs.set k v)) :: l) := by
  simp [sk_put, h]
theorem sk_fields_0 : sk_fields 0 = [.null, .null, .null, .null, .null, .null, .int 0] := rfl
theorem sk_fields_1 : sk_fields 1 = [.null] := rfl
theorem sk_fields_2 : sk_fields 2 = [.int 0, .int 0, .int 0, .int 0, .int 0, .int 0, .int 0, .int 0, .int 0, .int 0] := rfl
theorem sk_fields_3 : sk_fields 3 = [.null, .null, .null, .null, .int 0, .int 0, .int 0, .int 0, .int 0] := rfl
theorem sk_fields_4 : sk_fields 4 = [.null, .int 0, .int 0] := rfl
theorem sk_fields_5 : sk_fields 5 = [.null, .int 0, .int 0, .null, .null, .null, .null, .int 0] := rfl
theorem sk_fields_6 : sk_fields 6 = [.null, .int 0, .int 0] := rfl
theorem sk_fields_7 : sk_fields 7 = [.int 0, .int 0, .int 0, .int 0, .int 0, .int 0] := rfl
theorem sk_fields_8 : sk_fields 8 = [.null, .int 0, .null, .int 0, .int 0] := rfl
theorem sk_fields_9 : sk_fields 9 = [.null, .null, .null, .null, .int 0] := rfl
theorem sk_fields_10 : sk_fields 10 = [.null, .null, .null, .null, .null, .null, .null, .null, .null, .int 0] := rfl
theorem sk_fields_11 : sk_fields 11 = [.null, .null, .int 0, .null, .int 0, .null, .int 0, .int 0, .int 0, .int 0, .int 0, .null, .null, .null, .null, .null, .null, .null, .null, .null, .null, .null, .null, .null] := rfl
theorem sk_n24 (d a : Nat) (w : sk_W) : sk_c (d + 1) 24 [.ref a] w = some (none, w) := sk_e24 d a w
theorem sk_n82 (d a : Nat) (w : sk_W) : sk_c (d + 1) 82 [.ref a] w = some (none, w) := sk_e82 d a w
theorem sk_n95 (d : Nat) (P : sk_W) : sk_c (d + 1) 95 [.ref P.length] (P ++ [.inr (.inr (9, sk_fields 9))]) = some (none, P ++ .inr (.inr (9, [.ref (P.length + 1), .ref (P.length + 2), .ref (P.length + 3), .ref (P.length + 4), .int (sj 0)])) :: [.inl (64, fun _ => 0), .inl (64, fun _ => 0), .inl (64, fun _ => 0), .inl (64, fun _ => 0)]) := by
  rw [sk_e95]
  simp [List.append_assoc, List.cons_append, List.nil_append, List.length_append, List.length_cons, List.length_nil, b_put0, b_put, b_getr0, b_getr, b_isO0, b_isO, Option.map_some, Option.bind_some, List.set_cons_zero, List.set_cons_succ, Nat.zero_add, Nat.add_assoc, Nat.reduceAdd, if_true, sk_put_hd, sk_fields_9]
theorem sk_n62 (d : Nat) (P : sk_W) : sk_c (d + 1) 62 [.ref P.length] (P ++ [.inr (.inr (4, sk_fields 4))]) = some (none, P ++ .inr (.inr (4, [.ref (P.length + 1), .int (sj (-1)), .int (sj 0)])) :: [.inl (10, fun _ => 0)]) := by
  rw [sk_e62]
  simp [List.append_assoc, List.cons_append, List.nil_append, List.length_append, List.length_cons, List.length_nil, b_put0, b_put, b_getr0, b_getr, b_isO0, b_isO, Option.map_some, Option.bind_some, List.set_cons_zero, List.set_cons_succ, Nat.zero_add, Nat.add_assoc, Nat.reduceAdd, if_true, sk_put_hd, sk_fields_4]
theorem sk_n78 (d : Nat) (P : sk_W) : sk_c (d + 1) 78 [.ref P.length] (P ++ [.inr (.inr (6, sk_fields 6))]) = some (none, P ++ .inr (.inr (6, [.ref (P.length + 1), .int (sj (-1)), .int (sj 0)])) :: [.inl (40, fun _ => 0)]) := by
  rw [sk_e78]
  simp [List.append_assoc, List.cons_append, List.nil_append, List.length_append, List.length_cons, List.length_nil, b_put0, b_put, b_getr0, b_getr, b_isO0, b_isO, Option.map_some, Option.bind_some, List.set_cons_zero, List.set_cons_succ, Nat.zero_add, Nat.add_assoc, Nat.reduceAdd, if_true, sk_put_hd, sk_fields_6]
theorem sk_n10 (d : Nat) (P : sk_W) : sk_c (d + 1) 10 [.ref P.length] (P ++ [.inr (.inr (0, sk_fields 0))]) = some (none, P ++ .inr (.inr (0, [.ref (P.length + 1), .ref (P.length + 2), .ref (P.length + 3), .ref (P.length + 4), .ref (P.length + 5), .ref (P.length + 6), .int 0])) :: [.inl (10, fun _ => 0), .inl (10, fun _ => 0), .inl (10, fun _ => 0), .inl (10, fun _ => 0), .inl (10, fun _ => 0), .inl (10, fun _ => 0)]) := by
  rw [sk_e10]
  simp [List.append_assoc, List.cons_append, List.nil_append, List.length_append, List.length_cons, List.length_nil, b_put0, b_put, b_getr0, b_getr, b_isO0, b_isO, Option.map_some, Option.bind_some, List.set_cons_zero, List.set_cons_succ, Nat.zero_add, Nat.add_assoc, Nat.reduceAdd, if_true, sk_put_hd, sk_fields_0]
theorem sk_n68 (d : Nat) (P : sk_W) : sk_c (d + 1) 68 [.ref P.length] (P ++ [.inr (.inr (5, sk_fields 5))]) = some (none, P ++ .inr (.inr (5, [.ref (P.length + 1), .int 0, .int 0, .ref (P.length + 2), .ref (P.length + 3), .ref (P.length + 4), .ref (P.length + 5), .int 0])) :: [.inl (5, fun _ => 0), .inl (120, fun _ => 0), .inl (1200, fun _ => 0), .inl (10, fun _ => 0), .inl (10, fun _ => 0)]) := by
  rw [sk_e68]
  simp [List.append_assoc, List.cons_append, List.nil_append, List.length_append, List.length_cons, List.length_nil, b_put0, b_put, b_getr0, b_getr, b_isO0, b_isO, Option.map_some, Option.bind_some, List.set_cons_zero, List.set_cons_succ, Nat.zero_add, Nat.add_assoc, Nat.reduceAdd, if_true, sk_put_hd, sk_fields_5]
theorem sk_n17 (d : Nat) (P : sk_W) : sk_c (d + 2) 17 [.ref P.length] (P ++ [.inr (.inr (1, sk_fields 1))]) = some (none, P ++ .inr (.inr (1, [.ref (P.length + 1)])) :: [.inr (.inr (7, sk_fields 7))]) := by
  rw [sk_e17]
  simp [List.append_assoc, List.cons_append, List.nil_append, List.length_append, List.length_cons, List.length_nil, b_put0, b_put, b_getr0, b_getr, b_isO0, b_isO, Option.map_some, Option.bind_some, List.set_cons_zero, List.set_cons_succ, Nat.zero_add, Nat.add_assoc, Nat.reduceAdd, if_true, sk_put_hd, sk_fields_1, sk_cv, sk_n82, sk_isO]
theorem sk_isO_hd4 (a b c e : sk_C) (ci : Nat) (fs : List Value) : sk_isO [a, b, c, e, .inr (.inr (ci, fs))] 4 ci = true := by
  simp [sk_isO]
theorem sk_isO_put {w w1 : sk_W} {a ci k a2 c2 : Nat} {v : Value} (h : sk_put w a ci k v = some w1) : sk_isO w1 a2 c2 = sk_isO w a2 c2 := by
  obtain ⟨fs, h1, h2, rfl⟩ := sk_put_spec h
  unfold sk_isO
  rw [List.getElem?_set]
  by_cases hb : a = a2
  · subst hb
    rw [if_pos rfl, if_pos (List.getElem?_eq_some_iff.mp h1).1, h1]
  · rw [if_neg hb]
def sk_ten (n b : Nat) : Nat → Nat → Option Nat := fun k j => if j < k then some (n + b + j) else none
theorem sk_ten_up (n b k : Nat) : va_up (sk_ten n b k) k (some (n + b + k)) = sk_ten n b (k + 1) := by
  funext j
  unfold va_up sk_ten
  by_cases h : j = k
  · subst h; simp
  · by_cases h2 : j < k
    · simp [h, h2, Nat.lt_succ_of_lt h2]
    · simp [h, h2, show ¬ j < k + 1 by omega]
theorem sk_ten_0 (n b : Nat) : (fun _ => none : Nat → Option Nat) = sk_ten n b 0 := by
  funext j
  simp [sk_ten]
abbrev sk_part : sk_C := .inr (.inr (2, sk_fields 2))
theorem sk_ge10 {k : Nat} (h : k ≤ 10) : (sk_cond .ge (sj (k : Int)) (sj 10) = true) = ((10 : Int) ≤ k) := sj_cge (by omega) (by omega) (by omega) (by omega)
theorem sk_ge4 {k : Nat} (h : k ≤ 10) : (sk_cond .ge (sj (k : Int)) (sj 4) = true) = ((4 : Int) ≤ k) := sj_cge (by omega) (by omega) (by omega) (by omega)
theorem sk_kin {k n : Nat} (h : k < n) (hn : n ≤ 10) : ¬ (sj (k : Int) < 0 ∨ n ≤ (sj (k : Int)).toNatClampNeg) := by
  rw [sj_nat (by omega) (by omega), sj_0, sj_lt (by omega) (by omega) (by omega) (by omega)]
  omega
theorem sk_kS (k : Nat) : sj (k : Int) + sj 1 = sj ((k + 1 : Nat) : Int) := by
  rw [sj_add]
  rfl
/-- a row of references (at +j of the block) gets one more thing, made at the block's end -/
theorem sk_put1 {P A : sk_W} {j t ci k n : Nat} {f g : Nat → Option Nat} {c : sk_C} (hj : A[j]? = some (.inr (.inl (t, n, f)))) (hc : ∃ fs, c = .inr (.inr (ci, fs))) (hk : k < n) (hn : n ≤ 10) (hg : g = va_up f k (some (P.length + A.length))) (B : sk_W) : sk_astr ((P ++ A) ++ c :: B) (P.length + j) t ci (sj (k : Int)) (P ++ A).length = some (P ++ (A.set j (.inr (.inl (t, n, g))) ++ c :: B)) := by
  obtain ⟨fs, rfl⟩ := hc
  have hjl : j < A.length := (List.getElem?_eq_some_iff.mp hj).1
  rw [List.append_assoc, List.length_append, b_astr, List.getElem?_append_left hjl, hj]
  dsimp only
  have ho : sk_isO (A ++ .inr (.inr (ci, fs)) :: B) A.length ci = true := by
    unfold sk_isO
    rw [List.getElem?_append_right (Nat.le_refl _), Nat.sub_self]
    simp
  rw [if_pos ⟨rfl, ho⟩, if_neg (sk_kin hk hn), hg, sj_nat (by omega) (by omega), Int.toNat_natCast]
  congr 2
  rw [List.set_append]
  rw [if_pos hjl]
def sk_pb (n k : Nat) (c0 : sk_C) (r : sk_W) : sk_W := c0 :: .inr (.inl (0, 10, sk_ten n 9 k)) :: (r ++ List.replicate k sk_part)
theorem sk_n35L (d : Nat) (P r : sk_W) (hr : r.length = 7) (fs : List Value) (hf : fs[0]? = some (.ref (P.length + 1))) : ∀ m k : Nat, m + k = 10 → sk_D35 (d + 1) 68 [some (.ref P.length), some (.int (sj (k : Int)))] [] (P ++ sk_pb P.length k (.inr (.inr (3, fs))) r) = some (none, P ++ sk_pb P.length 10 (.inr (.inr (3, fs))) r) := by
  intro m
  induction m with
  | zero =>
    intro k hk
    obtain rfl : k = 10 := by omega
    rw [sk_e35_68, if_pos]
    rw [sk_ge10 (Nat.le_refl _)]
    omega
  | succ m ih =>
    intro k hk
    have hA : (sk_pb P.length k (.inr (.inr (3, fs))) r).length = 9 + k := by simp [sk_pb, hr]; omega
    rw [sk_e35_68, if_neg (by rw [sk_ge10 (by omega)]; omega)]
    have h1 : sk_getr (P ++ sk_pb P.length k (.inr (.inr (3, fs))) r) P.length 3 0 = some (P.length + 1) := by
      rw [b_getr0]
      unfold sk_getr sk_pb
      simp [hf]
    rw [h1, Option.bind_some]
    have h2 : sk_isO ((P ++ sk_pb P.length k (.inr (.inr (3, fs))) r) ++ [sk_part]) (P ++ sk_pb P.length k (.inr (.inr (3, fs))) r).length 2 = true := by
      rw [b_isO0]
      rfl
    rw [if_pos h2, sk_n24]
    show (sk_astr _ _ _ _ _ _).bind _ = _
    rw [sk_put1 (g := sk_ten P.length 9 (k + 1)) (n := 10) (f := sk_ten P.length 9 k) rfl ⟨_, rfl⟩ (by omega) (by omega) (by rw [hA, ← Nat.add_assoc, sk_ten_up]), Option.bind_some, sk_kS]
    have h3 : (sk_pb P.length k (.inr (.inr (3, fs))) r).set 1 (.inr (.inl (0, 10, sk_ten P.length 9 (k + 1)))) ++ [sk_part] = sk_pb P.length (k + 1) (.inr (.inr (3, fs))) r := by
      simp [sk_pb, List.replicate_succ']
    rw [h3]
    exact ih (k + 1) (by omega)
theorem sk_n35 (d : Nat) (P : sk_W) : sk_c (d + 2) 35 [.ref P.length] (P ++ [.inr (.inr (3, sk_fields 3))]) = some (none, P ++ sk_pb P.length 10 (.inr (.inr (3, [.ref (P.length + 1), .ref (P.length + 2), .ref (P.length + 3), .ref (P.length + 4), .int (sj 10), .int (sj 0), .int (sj 0), .int (sj 0), .int (sj 1)]))) [.inl (10, fun _ => 0), .inl (20, fun _ => 0), .inr (.inr (9, [.ref (P.length + 5), .ref (P.length + 6), .ref (P.length + 7), .ref (P.length + 8), .int (sj 0)])), .inl (64, fun _ => 0), .inl (64, fun _ => 0), .inl (64, fun _ => 0), .inl (64, fun _ => 0)]) := by
  rw [sk_e35]
  have hw := sk_n95 d (P ++ [.inr (.inr (3, [.ref (P.length + 1), .ref (P.length + 2), .ref (P.length + 3), .null, .int 0, .int 0, .int 0, .int 0, .int 0])), .inr (.inl (0, 10, fun _ => none)), .inl (10, fun _ => 0), .inl (20, fun _ => 0)])
  simp only [List.length_append, List.length_cons, List.length_nil, Nat.zero_add, Nat.reduceAdd, List.append_assoc, List.cons_append, List.nil_append] at hw
  simp [List.append_assoc, List.cons_append, List.nil_append, List.length_append, List.length_cons, List.length_nil, b_put0, b_put, b_getr0, b_getr, b_isO0, b_isO, Option.map_some, Option.bind_some, List.set_cons_zero, List.set_cons_succ, Nat.zero_add, Nat.add_assoc, Nat.reduceAdd, if_true, sk_put_hd, sk_fields_3, sk_isO_hd4, hw, sk_cv]
  rw [sk_ten_0 P.length 9]
  refine ⟨rfl, ?_⟩
  exact sk_n35L d P [.inl (10, fun _ => 0), .inl (20, fun _ => 0), .inr (.inr (9, [.ref (P.length + 5), .ref (P.length + 6), .ref (P.length + 7), .ref (P.length + 8), .int (sj 0)])), .inl (64, fun _ => 0), .inl (64, fun _ => 0), .inl (64, fun _ => 0), .inl (64, fun _ => 0)] rfl [.ref (P.length + 1), .ref (P.length + 2), .ref (P.length + 3), .ref (P.length + 4), .int (sj 10), .int (sj 0), .int (sj 0), .int (sj 0), .int (sj 1)] rfl 10 0 rfl
def sk_tb (n k : Nat) (c0 : sk_C) : sk_W := c0 :: .inl (60, fun _ => 0) :: .inr (.inl (0, 10, sk_ten n 3 k)) :: List.replicate k sk_part
theorem sk_n84L (d : Nat) (P : sk_W) (fs : List Value) (hf : fs[2]? = some (.ref (P.length + 2))) : ∀ m k : Nat, m + k = 10 → sk_D84 (d + 1) 28 [some (.ref P.length), some (.int (sj (k : Int)))] [] (P ++ sk_tb P.length k (.inr (.inr (8, fs)))) = some (none, P ++ sk_tb P.length 10 (.inr (.inr (8, fs)))) := by
  intro m
  induction m with
  | zero =>
    intro k hk
    obtain rfl : k = 10 := by omega
    rw [sk_e84_28, if_pos]
    rw [sk_ge10 (Nat.le_refl _)]
    omega
  | succ m ih =>
    intro k hk
    have hA : (sk_tb P.length k (.inr (.inr (8, fs)))).length = 3 + k := by simp [sk_tb]; omega
    rw [sk_e84_28, if_neg (by rw [sk_ge10 (by omega)]; omega)]
    have h1 : sk_getr (P ++ sk_tb P.length k (.inr (.inr (8, fs)))) P.length 8 2 = some (P.length + 2) := by
      rw [b_getr0]
      unfold sk_getr sk_tb
      simp [hf]
    rw [h1, Option.bind_some]
    have h2 : sk_isO ((P ++ sk_tb P.length k (.inr (.inr (8, fs)))) ++ [sk_part]) (P ++ sk_tb P.length k (.inr (.inr (8, fs)))).length 2 = true := by
      rw [b_isO0]
      rfl
    rw [if_pos h2, sk_n24]
    show (sk_astr _ _ _ _ _ _).bind _ = _
    rw [sk_put1 (g := sk_ten P.length 3 (k + 1)) (n := 10) (f := sk_ten P.length 3 k) rfl ⟨_, rfl⟩ (by omega) (by omega) (by rw [hA, ← Nat.add_assoc, sk_ten_up]), Option.bind_some, sk_kS]
    have h3 : (sk_tb P.length k (.inr (.inr (8, fs)))).set 2 (.inr (.inl (0, 10, sk_ten P.length 3 (k + 1)))) ++ [sk_part] = sk_tb P.length (k + 1) (.inr (.inr (8, fs))) := by
      simp [sk_tb, List.replicate_succ']
    rw [h3]
    exact ih (k + 1) (by omega)
theorem sk_n84 (d : Nat) (P : sk_W) : sk_c (d + 2) 84 [.ref P.length] (P ++ [.inr (.inr (8, sk_fields 8))]) = some (none, P ++ sk_tb P.length 10 (.inr (.inr (8, [.ref (P.length + 1), .int (sj 0), .ref (P.length + 2), .int 0, .int 0])))) := by
  rw [sk_e84]
  simp [List.append_assoc, List.cons_append, List.nil_append, List.length_append, List.length_cons, List.length_nil, b_put0, b_put, b_getr0, b_getr, b_isO0, b_isO, Option.map_some, Option.bind_some, List.set_cons_zero, List.set_cons_succ, Nat.zero_add, Nat.add_assoc, Nat.reduceAdd, if_true, sk_put_hd, sk_fields_8]
  rw [sk_ten_0 P.length 3]
  exact sk_n84L d P [.ref (P.length + 1), .int (sj 0), .ref (P.length + 2), .int 0, .int 0] rfl 10 0 rfl
