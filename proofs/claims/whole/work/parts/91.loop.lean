/-! ===== the law's loop ===== -/
section LAW
variable {S : List sk_Sh} {I v : sk_H} {X : sk_X}
theorem ce_same (x : Int32) : sk_cond .eq x x = true := by simp [sk_cond]
theorem ald_k {w : sk_W} (hw : sk_Sc X w) (hL : X.1 ≤ 100000) {i k : Nat} (h : i + k < X.1) : sk_ald w 0 (sj (i : Int) + sj (k : Int)) = some (X.2 (i + k)) := by
  obtain ⟨L, xs⟩ := X
  dsimp only at h hL ⊢
  unfold sk_Sc at hw
  unfold sk_ald
  rw [hw]
  dsimp only
  have t : (i : Int) + (k : Int) = ((i + k : Nat) : Int) := rfl
  have n : ¬ (sj ((i + k : Nat) : Int) < 0 ∨ L ≤ (sj ((i + k : Nat) : Int)).toNatClampNeg) := by
    rw [sj_nat (by omega) (by omega), sj_0, sj_lt (by omega) (by omega) (by omega) (by omega)]
    omega
  rw [sj_add, t, if_neg n, sj_nat (by omega) (by omega), Int.toNat_natCast]
theorem ald_0 {w : sk_W} (hw : sk_Sc X w) (hL : X.1 ≤ 100000) {i : Nat} (h : i < X.1) : sk_ald w 0 (sj (i : Int)) = some (X.2 i) := by
  have e := ald_k hw hL (i := i) (k := 0) h
  rw [sj_add, show (i : Int) + ((0 : Nat) : Int) = (i : Int) by omega] at e
  exact e
theorem len_0 {w : sk_W} (hw : sk_Sc X w) : sk_len w 0 = some (sj (X.1 : Int)) := by
  obtain ⟨L, xs⟩ := X
  unfold sk_Sc at hw
  unfold sk_len
  rw [hw]
  rfl
theorem law_0 (hS : sk_G S) (hX : sk_Sc X (sk_mk S I)) (hL : X.1 ≤ 100000) {i : Nat} (hi : i + 7 ≤ X.1) {mc mr : Nat} (hf : FC S I mc mr []) (K : sk_W → Option sk_R) : ∃ I2 v2, GI I2 v2 ∧ sk_Sc X (sk_mk S I2) ∧ (
    if sk_isO (sk_mk S I) 1 10 = true then
    sk_ci (sk_c 20 mc [.ref 1] (sk_mk S I)) fun a w1 =>
    if sk_isO w1 105 11 = true then
    sk_ci (sk_c 20 mr [.ref 105] w1) fun b w2 =>
    if sk_cond .eq a b = true then K w2 else some (some (.int (sj 0)), w2) else none else none) = K (sk_mk S I2) := by
  obtain ⟨x, I1, I2, v2, e1, e2, g⟩ := hf
  have s1 : sk_Sc X (sk_mk S I1) := sk_c_Kp _ _ _ _ _ hX e1
  have s2 : sk_Sc X (sk_mk S I2) := sk_c_Kp _ _ _ _ _ s1 e2
  refine ⟨I2, v2, g, s2, ?_⟩
  rw [g1_ob hS, e1, sk_ci_some, g105_ob hS, e2, sk_ci_some, if_pos (ce_same x)]
theorem law_1 (hS : sk_G S) (hX : sk_Sc X (sk_mk S I)) (hL : X.1 ≤ 100000) {i : Nat} (hi : i + 7 ≤ X.1) {mc mr : Nat} (hf : FC S I mc mr [.int (X.2 (i + 1))]) (K : sk_W → Option sk_R) : ∃ I2 v2, GI I2 v2 ∧ sk_Sc X (sk_mk S I2) ∧ (
    (sk_ald (sk_mk S I) 0 (sj (i : Int) + sj 1)).bind fun p1 =>
    if sk_isO (sk_mk S I) 1 10 = true then
    sk_ci (sk_c 20 mc [.ref 1, .int p1] (sk_mk S I)) fun a w1 =>
    (sk_ald w1 0 (sj (i : Int) + sj 1)).bind fun q1 =>
    if sk_isO w1 105 11 = true then
    sk_ci (sk_c 20 mr [.ref 105, .int q1] w1) fun b w2 =>
    if sk_cond .eq a b = true then K w2 else some (some (.int (sj 0)), w2) else none else none) = K (sk_mk S I2) := by
  obtain ⟨x, I1, I2, v2, e1, e2, g⟩ := hf
  have s1 : sk_Sc X (sk_mk S I1) := sk_c_Kp _ _ _ _ _ hX e1
  have s2 : sk_Sc X (sk_mk S I2) := sk_c_Kp _ _ _ _ _ s1 e2
  refine ⟨I2, v2, g, s2, ?_⟩
  have r1 : ∀ w, sk_Sc X w → sk_ald w 0 (sj (i : Int) + sj 1) = some (X.2 (i + 1)) := fun w hw => ald_k hw hL (k := 1) (by omega)
  rw [r1 _ hX, Option.bind_some, g1_ob hS, e1, sk_ci_some, r1 _ s1, Option.bind_some, g105_ob hS, e2, sk_ci_some, if_pos (ce_same x)]
theorem law_2 (hS : sk_G S) (hX : sk_Sc X (sk_mk S I)) (hL : X.1 ≤ 100000) {i : Nat} (hi : i + 7 ≤ X.1) {mc mr : Nat} (hf : FC S I mc mr [.int (X.2 (i + 1)), .int (X.2 (i + 2))]) (K : sk_W → Option sk_R) : ∃ I2 v2, GI I2 v2 ∧ sk_Sc X (sk_mk S I2) ∧ (
    (sk_ald (sk_mk S I) 0 (sj (i : Int) + sj 1)).bind fun p1 =>
    (sk_ald (sk_mk S I) 0 (sj (i : Int) + sj 2)).bind fun p2 =>
    if sk_isO (sk_mk S I) 1 10 = true then
    sk_ci (sk_c 20 mc [.ref 1, .int p1, .int p2] (sk_mk S I)) fun a w1 =>
    (sk_ald w1 0 (sj (i : Int) + sj 1)).bind fun q1 =>
    (sk_ald w1 0 (sj (i : Int) + sj 2)).bind fun q2 =>
    if sk_isO w1 105 11 = true then
    sk_ci (sk_c 20 mr [.ref 105, .int q1, .int q2] w1) fun b w2 =>
    if sk_cond .eq a b = true then K w2 else some (some (.int (sj 0)), w2) else none else none) = K (sk_mk S I2) := by
  obtain ⟨x, I1, I2, v2, e1, e2, g⟩ := hf
  have s1 : sk_Sc X (sk_mk S I1) := sk_c_Kp _ _ _ _ _ hX e1
  have s2 : sk_Sc X (sk_mk S I2) := sk_c_Kp _ _ _ _ _ s1 e2
  refine ⟨I2, v2, g, s2, ?_⟩
  have r1 : ∀ w, sk_Sc X w → sk_ald w 0 (sj (i : Int) + sj 1) = some (X.2 (i + 1)) := fun w hw => ald_k hw hL (k := 1) (by omega)
  have r2 : ∀ w, sk_Sc X w → sk_ald w 0 (sj (i : Int) + sj 2) = some (X.2 (i + 2)) := fun w hw => ald_k hw hL (k := 2) (by omega)
  rw [r1 _ hX, Option.bind_some, r2 _ hX, Option.bind_some, g1_ob hS, e1, sk_ci_some, r1 _ s1, Option.bind_some, r2 _ s1, Option.bind_some, g105_ob hS, e2, sk_ci_some, if_pos (ce_same x)]
theorem law_3 (hS : sk_G S) (hX : sk_Sc X (sk_mk S I)) (hL : X.1 ≤ 100000) {i : Nat} (hi : i + 7 ≤ X.1) {mc mr : Nat} (hf : FC S I mc mr [.int (X.2 (i + 1)), .int (X.2 (i + 2)), .int (X.2 (i + 3))]) (K : sk_W → Option sk_R) : ∃ I2 v2, GI I2 v2 ∧ sk_Sc X (sk_mk S I2) ∧ (
    (sk_ald (sk_mk S I) 0 (sj (i : Int) + sj 1)).bind fun p1 =>
    (sk_ald (sk_mk S I) 0 (sj (i : Int) + sj 2)).bind fun p2 =>
    (sk_ald (sk_mk S I) 0 (sj (i : Int) + sj 3)).bind fun p3 =>
    if sk_isO (sk_mk S I) 1 10 = true then
    sk_ci (sk_c 20 mc [.ref 1, .int p1, .int p2, .int p3] (sk_mk S I)) fun a w1 =>
    (sk_ald w1 0 (sj (i : Int) + sj 1)).bind fun q1 =>
    (sk_ald w1 0 (sj (i : Int) + sj 2)).bind fun q2 =>
    (sk_ald w1 0 (sj (i : Int) + sj 3)).bind fun q3 =>
    if sk_isO w1 105 11 = true then
    sk_ci (sk_c 20 mr [.ref 105, .int q1, .int q2, .int q3] w1) fun b w2 =>
    if sk_cond .eq a b = true then K w2 else some (some (.int (sj 0)), w2) else none else none) = K (sk_mk S I2) := by
  obtain ⟨x, I1, I2, v2, e1, e2, g⟩ := hf
  have s1 : sk_Sc X (sk_mk S I1) := sk_c_Kp _ _ _ _ _ hX e1
  have s2 : sk_Sc X (sk_mk S I2) := sk_c_Kp _ _ _ _ _ s1 e2
  refine ⟨I2, v2, g, s2, ?_⟩
  have r1 : ∀ w, sk_Sc X w → sk_ald w 0 (sj (i : Int) + sj 1) = some (X.2 (i + 1)) := fun w hw => ald_k hw hL (k := 1) (by omega)
  have r2 : ∀ w, sk_Sc X w → sk_ald w 0 (sj (i : Int) + sj 2) = some (X.2 (i + 2)) := fun w hw => ald_k hw hL (k := 2) (by omega)
  have r3 : ∀ w, sk_Sc X w → sk_ald w 0 (sj (i : Int) + sj 3) = some (X.2 (i + 3)) := fun w hw => ald_k hw hL (k := 3) (by omega)
  rw [r1 _ hX, Option.bind_some, r2 _ hX, Option.bind_some, r3 _ hX, Option.bind_some, g1_ob hS, e1, sk_ci_some, r1 _ s1, Option.bind_some, r2 _ s1, Option.bind_some, r3 _ s1, Option.bind_some, g105_ob hS, e2, sk_ci_some, if_pos (ce_same x)]
theorem law_4 (hS : sk_G S) (hX : sk_Sc X (sk_mk S I)) (hL : X.1 ≤ 100000) {i : Nat} (hi : i + 7 ≤ X.1) {mc mr : Nat} (hf : FC S I mc mr [.int (X.2 (i + 1)), .int (X.2 (i + 2)), .int (X.2 (i + 3)), .int (X.2 (i + 4))]) (K : sk_W → Option sk_R) : ∃ I2 v2, GI I2 v2 ∧ sk_Sc X (sk_mk S I2) ∧ (
    (sk_ald (sk_mk S I) 0 (sj (i : Int) + sj 1)).bind fun p1 =>
    (sk_ald (sk_mk S I) 0 (sj (i : Int) + sj 2)).bind fun p2 =>
    (sk_ald (sk_mk S I) 0 (sj (i : Int) + sj 3)).bind fun p3 =>
    (sk_ald (sk_mk S I) 0 (sj (i : Int) + sj 4)).bind fun p4 =>
    if sk_isO (sk_mk S I) 1 10 = true then
    sk_ci (sk_c 20 mc [.ref 1, .int p1, .int p2, .int p3, .int p4] (sk_mk S I)) fun a w1 =>
    (sk_ald w1 0 (sj (i : Int) + sj 1)).bind fun q1 =>
    (sk_ald w1 0 (sj (i : Int) + sj 2)).bind fun q2 =>
    (sk_ald w1 0 (sj (i : Int) + sj 3)).bind fun q3 =>
    (sk_ald w1 0 (sj (i : Int) + sj 4)).bind fun q4 =>
    if sk_isO w1 105 11 = true then
    sk_ci (sk_c 20 mr [.ref 105, .int q1, .int q2, .int q3, .int q4] w1) fun b w2 =>
    if sk_cond .eq a b = true then K w2 else some (some (.int (sj 0)), w2) else none else none) = K (sk_mk S I2) := by
  obtain ⟨x, I1, I2, v2, e1, e2, g⟩ := hf
  have s1 : sk_Sc X (sk_mk S I1) := sk_c_Kp _ _ _ _ _ hX e1
  have s2 : sk_Sc X (sk_mk S I2) := sk_c_Kp _ _ _ _ _ s1 e2
  refine ⟨I2, v2, g, s2, ?_⟩
  have r1 : ∀ w, sk_Sc X w → sk_ald w 0 (sj (i : Int) + sj 1) = some (X.2 (i + 1)) := fun w hw => ald_k hw hL (k := 1) (by omega)
  have r2 : ∀ w, sk_Sc X w → sk_ald w 0 (sj (i : Int) + sj 2) = some (X.2 (i + 2)) := fun w hw => ald_k hw hL (k := 2) (by omega)
  have r3 : ∀ w, sk_Sc X w → sk_ald w 0 (sj (i : Int) + sj 3) = some (X.2 (i + 3)) := fun w hw => ald_k hw hL (k := 3) (by omega)
  have r4 : ∀ w, sk_Sc X w → sk_ald w 0 (sj (i : Int) + sj 4) = some (X.2 (i + 4)) := fun w hw => ald_k hw hL (k := 4) (by omega)
  rw [r1 _ hX, Option.bind_some, r2 _ hX, Option.bind_some, r3 _ hX, Option.bind_some, r4 _ hX, Option.bind_some, g1_ob hS, e1, sk_ci_some, r1 _ s1, Option.bind_some, r2 _ s1, Option.bind_some, r3 _ s1, Option.bind_some, r4 _ s1, Option.bind_some, g105_ob hS, e2, sk_ci_some, if_pos (ce_same x)]
theorem law_5 (hS : sk_G S) (hX : sk_Sc X (sk_mk S I)) (hL : X.1 ≤ 100000) {i : Nat} (hi : i + 7 ≤ X.1) {mc mr : Nat} (hf : FC S I mc mr [.int (X.2 (i + 1)), .int (X.2 (i + 2)), .int (X.2 (i + 3)), .int (X.2 (i + 4)), .int (X.2 (i + 5))]) (K : sk_W → Option sk_R) : ∃ I2 v2, GI I2 v2 ∧ sk_Sc X (sk_mk S I2) ∧ (
    (sk_ald (sk_mk S I) 0 (sj (i : Int) + sj 1)).bind fun p1 =>
    (sk_ald (sk_mk S I) 0 (sj (i : Int) + sj 2)).bind fun p2 =>
    (sk_ald (sk_mk S I) 0 (sj (i : Int) + sj 3)).bind fun p3 =>
    (sk_ald (sk_mk S I) 0 (sj (i : Int) + sj 4)).bind fun p4 =>
    (sk_ald (sk_mk S I) 0 (sj (i : Int) + sj 5)).bind fun p5 =>
    if sk_isO (sk_mk S I) 1 10 = true then
    sk_ci (sk_c 20 mc [.ref 1, .int p1, .int p2, .int p3, .int p4, .int p5] (sk_mk S I)) fun a w1 =>
    (sk_ald w1 0 (sj (i : Int) + sj 1)).bind fun q1 =>
    (sk_ald w1 0 (sj (i : Int) + sj 2)).bind fun q2 =>
    (sk_ald w1 0 (sj (i : Int) + sj 3)).bind fun q3 =>
    (sk_ald w1 0 (sj (i : Int) + sj 4)).bind fun q4 =>
    (sk_ald w1 0 (sj (i : Int) + sj 5)).bind fun q5 =>
    if sk_isO w1 105 11 = true then
    sk_ci (sk_c 20 mr [.ref 105, .int q1, .int q2, .int q3, .int q4, .int q5] w1) fun b w2 =>
    if sk_cond .eq a b = true then K w2 else some (some (.int (sj 0)), w2) else none else none) = K (sk_mk S I2) := by
  obtain ⟨x, I1, I2, v2, e1, e2, g⟩ := hf
  have s1 : sk_Sc X (sk_mk S I1) := sk_c_Kp _ _ _ _ _ hX e1
  have s2 : sk_Sc X (sk_mk S I2) := sk_c_Kp _ _ _ _ _ s1 e2
  refine ⟨I2, v2, g, s2, ?_⟩
  have r1 : ∀ w, sk_Sc X w → sk_ald w 0 (sj (i : Int) + sj 1) = some (X.2 (i + 1)) := fun w hw => ald_k hw hL (k := 1) (by omega)
  have r2 : ∀ w, sk_Sc X w → sk_ald w 0 (sj (i : Int) + sj 2) = some (X.2 (i + 2)) := fun w hw => ald_k hw hL (k := 2) (by omega)
  have r3 : ∀ w, sk_Sc X w → sk_ald w 0 (sj (i : Int) + sj 3) = some (X.2 (i + 3)) := fun w hw => ald_k hw hL (k := 3) (by omega)
  have r4 : ∀ w, sk_Sc X w → sk_ald w 0 (sj (i : Int) + sj 4) = some (X.2 (i + 4)) := fun w hw => ald_k hw hL (k := 4) (by omega)
  have r5 : ∀ w, sk_Sc X w → sk_ald w 0 (sj (i : Int) + sj 5) = some (X.2 (i + 5)) := fun w hw => ald_k hw hL (k := 5) (by omega)
  rw [r1 _ hX, Option.bind_some, r2 _ hX, Option.bind_some, r3 _ hX, Option.bind_some, r4 _ hX, Option.bind_some, r5 _ hX, Option.bind_some, g1_ob hS, e1, sk_ci_some, r1 _ s1, Option.bind_some, r2 _ s1, Option.bind_some, r3 _ s1, Option.bind_some, r4 _ s1, Option.bind_some, r5 _ s1, Option.bind_some, g105_ob hS, e2, sk_ci_some, if_pos (ce_same x)]
theorem law_f (hS : sk_G S) (hX : sk_Sc X (sk_mk S I)) (hG : GI I v) (hL : X.1 ≤ 100000) {i : Nat} (hi : i + 7 ≤ X.1) (K : sk_W → Option sk_R) : ∃ I2 v2, GI I2 v2 ∧ sk_Sc X (sk_mk (S ++ [.inl 5]) I2) ∧ (
    (sk_ald (sk_mk S I) 0 (sj (i : Int) + sj 1)).bind fun p1 =>
    (sk_ald (sk_mk S I) 0 (sj (i : Int) + sj 2)).bind fun p2 =>
    (sk_ald (sk_mk S I) 0 (sj (i : Int) + sj 3)).bind fun p3 =>
    (sk_ald (sk_mk S I) 0 (sj (i : Int) + sj 4)).bind fun p4 =>
    (sk_ald (sk_mk S I) 0 (sj (i : Int) + sj 5)).bind fun p5 =>
    (sk_ald (sk_mk S I) 0 (sj (i : Int) + sj 6)).bind fun p6 =>
    if sk_isO (sk_mk S I) 1 10 = true then
    sk_ci (sk_c 20 102 [.ref 1, .int p1, .int p2, .int p3, .int p4, .int p5, .int p6] (sk_mk S I)) fun a w1 =>
    (sk_ald w1 0 (sj (i : Int) + sj 1)).bind fun q1 =>
    (sk_ald w1 0 (sj (i : Int) + sj 2)).bind fun q2 =>
    (sk_ald w1 0 (sj (i : Int) + sj 3)).bind fun q3 =>
    (sk_ald w1 0 (sj (i : Int) + sj 4)).bind fun q4 =>
    (sk_ald w1 0 (sj (i : Int) + sj 5)).bind fun q5 =>
    (sk_ald w1 0 (sj (i : Int) + sj 6)).bind fun q6 =>
    if sk_isO w1 105 11 = true then
    sk_ci (sk_c 20 158 [.ref 105, .int q1, .int q2, .int q3, .int q4, .int q5, .int q6] w1) fun b w2 =>
    if sk_cond .eq a b = true then K w2 else some (some (.int (sj 0)), w2) else none else none) = K (sk_mk (S ++ [.inl 5]) I2) := by
  obtain ⟨x, I1, I2, v2, e1, e2, g⟩ := f_feed hS hG (c := (X.2 (i + 1)).toInt) (a0 := (X.2 (i + 2)).toInt) (a1 := (X.2 (i + 3)).toInt) (a2 := (X.2 (i + 4)).toInt) (a3 := (X.2 (i + 5)).toInt) (a4 := (X.2 (i + 6)).toInt) (sj_rng _).1 (sj_rng _).2 (fun k => by unfold A5; split <;> exact sj_rng _)
  simp only [sj_of] at e1 e2
  have s1 : sk_Sc X (sk_mk S I1) := sk_c_Kp _ _ _ _ _ hX e1
  have s2 : sk_Sc X (sk_mk (S ++ [.inl 5]) I2) := sk_c_Kp _ _ _ _ _ s1 e2
  refine ⟨I2, v2, g, s2, ?_⟩
  have r1 : ∀ w, sk_Sc X w → sk_ald w 0 (sj (i : Int) + sj 1) = some (X.2 (i + 1)) := fun w hw => ald_k hw hL (k := 1) (by omega)
  have r2 : ∀ w, sk_Sc X w → sk_ald w 0 (sj (i : Int) + sj 2) = some (X.2 (i + 2)) := fun w hw => ald_k hw hL (k := 2) (by omega)
  have r3 : ∀ w, sk_Sc X w → sk_ald w 0 (sj (i : Int) + sj 3) = some (X.2 (i + 3)) := fun w hw => ald_k hw hL (k := 3) (by omega)
  have r4 : ∀ w, sk_Sc X w → sk_ald w 0 (sj (i : Int) + sj 4) = some (X.2 (i + 4)) := fun w hw => ald_k hw hL (k := 4) (by omega)
  have r5 : ∀ w, sk_Sc X w → sk_ald w 0 (sj (i : Int) + sj 5) = some (X.2 (i + 5)) := fun w hw => ald_k hw hL (k := 5) (by omega)
  have r6 : ∀ w, sk_Sc X w → sk_ald w 0 (sj (i : Int) + sj 6) = some (X.2 (i + 6)) := fun w hw => ald_k hw hL (k := 6) (by omega)
  rw [r1 _ hX, Option.bind_some, r2 _ hX, Option.bind_some, r3 _ hX, Option.bind_some, r4 _ hX, Option.bind_some, r5 _ hX, Option.bind_some, r6 _ hX, Option.bind_some, g1_ob hS, e1, sk_ci_some, r1 _ s1, Option.bind_some, r2 _ s1, Option.bind_some, r3 _ s1, Option.bind_some, r4 _ s1, Option.bind_some, r5 _ s1, Option.bind_some, r6 _ s1, Option.bind_some, g105_ob hS, e2, sk_ci_some, if_pos (ce_same x)]
end LAW
set_option maxHeartbeats 4000000 in
theorem law_loop {X : sk_X} (hL : X.1 ≤ 3584) : ∀ (m q i : Nat) (I v : sk_H), X.1 < i + 7 * (m + 1) → q + m ≤ 512 → sk_Sc X (sk_mk (sk_S0 X.1 ++ List.replicate q (.inl 5)) I) → GI I v → i ≤ 4000 → ∃ q' I', q' ≤ 512 ∧ sk_D244 20 18 [some (.ref 0), some (.ref 1), some (.ref 105), some (.int (sj (i : Int)))] [] (sk_mk (sk_S0 X.1 ++ List.replicate q (.inl 5)) I) = some (some (.int (sj 1)), sk_mk (sk_S0 X.1 ++ List.replicate q' (.inl 5)) I') := by
  intro m
  induction m with
  | zero =>
    intro q i I v hi hq hX hG hi4
    refine ⟨q, I, by omega, ?_⟩
    rw [sk_e244_18, len_0 hX, Option.bind_some, sj_sub, if_pos (ky_gt (by omega) (by omega) (by omega) (by omega) (by omega))]
  | succ m ih =>
    intro q i I v hi hq hX hG hi4
    have hS : sk_G (sk_S0 X.1 ++ List.replicate q (.inl 5)) := sk_G_of _ _
    by_cases hend : X.1 < i + 7
    · refine ⟨q, I, by omega, ?_⟩
      rw [sk_e244_18, len_0 hX, Option.bind_some, sj_sub, if_pos (ky_gt (by omega) (by omega) (by omega) (by omega) (by omega))]
    have hi7 : i + 7 ≤ X.1 := by omega
    have hL1 : X.1 ≤ 100000 := by omega
    have t7 : sj (i : Int) + sj 7 = sj ((i + 7 : Nat) : Int) := by rw [sj_add]; rfl
    have nx : ∀ (I2 v2 : sk_H), GI I2 v2 → sk_Sc X (sk_mk (sk_S0 X.1 ++ List.replicate q (.inl 5)) I2) → ∃ q' I', q' ≤ 512 ∧ sk_D244 20 18 [some (.ref 0), some (.ref 1), some (.ref 105), some (.int (sj ((i + 7 : Nat) : Int)))] [] (sk_mk (sk_S0 X.1 ++ List.replicate q (.inl 5)) I2) = some (some (.int (sj 1)), sk_mk (sk_S0 X.1 ++ List.replicate q' (.inl 5)) I') := fun I2 v2 g s => ih q (i + 7) I2 v2 (by omega) (by omega) s g (by omega)
    have go : ∀ {E : Option sk_R}, (∃ I2 v2, GI I2 v2 ∧ sk_Sc X (sk_mk (sk_S0 X.1 ++ List.replicate q (.inl 5)) I2) ∧ E = sk_D244 20 18 [some (.ref 0), some (.ref 1), some (.ref 105), some (.int (sj ((i + 7 : Nat) : Int)))] [] (sk_mk (sk_S0 X.1 ++ List.replicate q (.inl 5)) I2)) → ∃ q' I', q' ≤ 512 ∧ E = some (some (.int (sj 1)), sk_mk (sk_S0 X.1 ++ List.replicate q' (.inl 5)) I') := fun h => by
      obtain ⟨I2, v2, g, s, e⟩ := h
      obtain ⟨q', I', hq', e'⟩ := nx I2 v2 g s
      exact ⟨q', I', hq', e.trans e'⟩
    rw [sk_e244_18, len_0 hX, Option.bind_some, sj_sub, if_neg (kn_gt (by omega) (by omega) (by omega) (by omega) (by omega)), ald_0 hX hL1 (by omega), Option.bind_some, t7]
    by_cases c0 : Int32.toInt (X.2 i &&& sj 31) = 0
    · rw [if_pos c0]
      obtain ⟨I2, v2, g, s, e⟩ := law_f hS hX hG hL1 hi7 (fun w => sk_D244 20 18 [some (.ref 0), some (.ref 1), some (.ref 105), some (.int (sj ((i + 7 : Nat) : Int)))] [] w)
      have es : (sk_S0 X.1 ++ List.replicate q (.inl 5)) ++ [.inl 5] = sk_S0 X.1 ++ List.replicate (q + 1) (.inl 5) := by rw [List.append_assoc, ← List.replicate_succ']
      rw [es] at e s
      obtain ⟨q', I', hq', e'⟩ := ih (q + 1) (i + 7) I2 v2 (by omega) (by omega) s g (by omega)
      exact ⟨q', I', hq', e.trans e'⟩
    rw [if_neg c0]
    by_cases c1 : Int32.toInt (X.2 i &&& sj 31) = 1
    · rw [if_pos c1]
      have h : FC (sk_S0 X.1 ++ List.replicate q (.inl 5)) I 103 159 [.int (sj (X.2 (i + 1)).toInt)] := f_strip hS hG (sj_rng _).1 (sj_rng _).2
      simp only [sj_of] at h
      exact go (law_1 hS hX hL1 hi7 h (fun w => sk_D244 20 18 [some (.ref 0), some (.ref 1), some (.ref 105), some (.int (sj ((i + 7 : Nat) : Int)))] [] w))
    rw [if_neg c1]
    by_cases c2 : Int32.toInt (X.2 i &&& sj 31) = 2
    · rw [if_pos c2]
      have h : FC (sk_S0 X.1 ++ List.replicate q (.inl 5)) I 104 164 [] := f_parts hS hG
      exact go (law_0 hS hX hL1 hi7 h (fun w => sk_D244 20 18 [some (.ref 0), some (.ref 1), some (.ref 105), some (.int (sj ((i + 7 : Nat) : Int)))] [] w))
    rw [if_neg c2]
    by_cases c3 : Int32.toInt (X.2 i &&& sj 31) = 3
    · rw [if_pos c3]
      have h : FC (sk_S0 X.1 ++ List.replicate q (.inl 5)) I 105 165 [.int (sj (X.2 (i + 1)).toInt), .int (sj (X.2 (i + 2)).toInt)] := f_told hS hG (sj_rng _).1 (sj_rng _).2 (sj_rng _).1 (sj_rng _).2
      simp only [sj_of] at h
      exact go (law_2 hS hX hL1 hi7 h (fun w => sk_D244 20 18 [some (.ref 0), some (.ref 1), some (.ref 105), some (.int (sj ((i + 7 : Nat) : Int)))] [] w))
    rw [if_neg c3]
    by_cases c4 : Int32.toInt (X.2 i &&& sj 31) = 4
    · rw [if_pos c4]
      have h : FC (sk_S0 X.1 ++ List.replicate q (.inl 5)) I 106 166 [.int (sj (X.2 (i + 1)).toInt), .int (sj (X.2 (i + 2)).toInt)] := f_taken hS hG (sj_rng _).1 (sj_rng _).2 (sj_rng _).1 (sj_rng _).2
      simp only [sj_of] at h
      exact go (law_2 hS hX hL1 hi7 h (fun w => sk_D244 20 18 [some (.ref 0), some (.ref 1), some (.ref 105), some (.int (sj ((i + 7 : Nat) : Int)))] [] w))
    rw [if_neg c4]
    by_cases c5 : Int32.toInt (X.2 i &&& sj 31) = 5
    · rw [if_pos c5]
      have h : FC (sk_S0 X.1 ++ List.replicate q (.inl 5)) I 107 169 [.int (sj (X.2 (i + 1)).toInt), .int (sj (X.2 (i + 2)).toInt), .int (sj (X.2 (i + 3)).toInt)] := f_fix hS hG (sj_rng _).1 (sj_rng _).2 (sj_rng _).1 (sj_rng _).2 (sj_rng _).1 (sj_rng _).2
      simp only [sj_of] at h
      exact go (law_3 hS hX hL1 hi7 h (fun w => sk_D244 20 18 [some (.ref 0), some (.ref 1), some (.ref 105), some (.int (sj ((i + 7 : Nat) : Int)))] [] w))
    rw [if_neg c5]
    by_cases c6 : Int32.toInt (X.2 i &&& sj 31) = 6
    · rw [if_pos c6]
      have h : FC (sk_S0 X.1 ++ List.replicate q (.inl 5)) I 108 170 [.int (sj (X.2 (i + 1)).toInt)] := f_order hS hG (sj_rng _).1 (sj_rng _).2
      simp only [sj_of] at h
      exact go (law_1 hS hX hL1 hi7 h (fun w => sk_D244 20 18 [some (.ref 0), some (.ref 1), some (.ref 105), some (.int (sj ((i + 7 : Nat) : Int)))] [] w))
    rw [if_neg c6]
    by_cases c7 : Int32.toInt (X.2 i &&& sj 31) = 7
    · rw [if_pos c7]
      have h : FC (sk_S0 X.1 ++ List.replicate q (.inl 5)) I 109 172 [.int (sj (X.2 (i + 1)).toInt), .int (sj (X.2 (i + 2)).toInt)] := f_swap hS hG (sj_rng _).1 (sj_rng _).2 (sj_rng _).1 (sj_rng _).2
      simp only [sj_of] at h
      exact go (law_2 hS hX hL1 hi7 h (fun w => sk_D244 20 18 [some (.ref 0), some (.ref 1), some (.ref 105), some (.int (sj ((i + 7 : Nat) : Int)))] [] w))
    rw [if_neg c7]
    by_cases c8 : Int32.toInt (X.2 i &&& sj 31) = 8
    · rw [if_pos c8]
      have h : FC (sk_S0 X.1 ++ List.replicate q (.inl 5)) I 110 173 [.int (sj (X.2 (i + 1)).toInt), .int (sj (X.2 (i + 2)).toInt)] := f_rule hS hG (sj_rng _).1 (sj_rng _).2 (sj_rng _).1 (sj_rng _).2
      simp only [sj_of] at h
      exact go (law_2 hS hX hL1 hi7 h (fun w => sk_D244 20 18 [some (.ref 0), some (.ref 1), some (.ref 105), some (.int (sj ((i + 7 : Nat) : Int)))] [] w))
    rw [if_neg c8]
    by_cases c9 : Int32.toInt (X.2 i &&& sj 31) = 9
    · rw [if_pos c9]
      have h : FC (sk_S0 X.1 ++ List.replicate q (.inl 5)) I 111 186 [.int (sj (X.2 (i + 1)).toInt), .int (sj (X.2 (i + 2)).toInt)] := f_place hS hG (sj_rng _).1 (sj_rng _).2 (sj_rng _).1 (sj_rng _).2
      simp only [sj_of] at h
      exact go (law_2 hS hX hL1 hi7 h (fun w => sk_D244 20 18 [some (.ref 0), some (.ref 1), some (.ref 105), some (.int (sj ((i + 7 : Nat) : Int)))] [] w))
    rw [if_neg c9]
    by_cases c10 : Int32.toInt (X.2 i &&& sj 31) = 10
    · rw [if_pos c10]
      have h : FC (sk_S0 X.1 ++ List.replicate q (.inl 5)) I 112 187 [.int (sj (X.2 (i + 1)).toInt)] := f_lay hS hG (sj_rng _).1 (sj_rng _).2
      simp only [sj_of] at h
      exact go (law_1 hS hX hL1 hi7 h (fun w => sk_D244 20 18 [some (.ref 0), some (.ref 1), some (.ref 105), some (.int (sj ((i + 7 : Nat) : Int)))] [] w))
    rw [if_neg c10]
    by_cases c11 : Int32.toInt (X.2 i &&& sj 31) = 11
    · rw [if_pos c11]
      have h : FC (sk_S0 X.1 ++ List.replicate q (.inl 5)) I 113 188 [] := f_run hS hG
      exact go (law_0 hS hX hL1 hi7 h (fun w => sk_D244 20 18 [some (.ref 0), some (.ref 1), some (.ref 105), some (.int (sj ((i + 7 : Nat) : Int)))] [] w))
    rw [if_neg c11]
    by_cases c12 : Int32.toInt (X.2 i &&& sj 31) = 12
    · rw [if_pos c12]
      have h : FC (sk_S0 X.1 ++ List.replicate q (.inl 5)) I 114 189 [.int (sj (X.2 (i + 1)).toInt), .int (sj (X.2 (i + 2)).toInt)] := f_sky hS hG (sj_rng _).1 (sj_rng _).2 (sj_rng _).1 (sj_rng _).2
      simp only [sj_of] at h
      exact go (law_2 hS hX hL1 hi7 h (fun w => sk_D244 20 18 [some (.ref 0), some (.ref 1), some (.ref 105), some (.int (sj ((i + 7 : Nat) : Int)))] [] w))
    rw [if_neg c12]
    by_cases c13 : Int32.toInt (X.2 i &&& sj 31) = 13
    · rw [if_pos c13]
      have h : FC (sk_S0 X.1 ++ List.replicate q (.inl 5)) I 115 190 [.int (sj (X.2 (i + 1)).toInt), .int (sj (X.2 (i + 2)).toInt)] := f_waste hS hG (sj_rng _).1 (sj_rng _).2 (sj_rng _).1 (sj_rng _).2
      simp only [sj_of] at h
      exact go (law_2 hS hX hL1 hi7 h (fun w => sk_D244 20 18 [some (.ref 0), some (.ref 1), some (.ref 105), some (.int (sj ((i + 7 : Nat) : Int)))] [] w))
    rw [if_neg c13]
    by_cases c14 : Int32.toInt (X.2 i &&& sj 31) = 14
    · rw [if_pos c14]
      have h : FC (sk_S0 X.1 ++ List.replicate q (.inl 5)) I 116 196 [.int (sj (X.2 (i + 1)).toInt)] := f_bound hS hG (sj_rng _).1 (sj_rng _).2
      simp only [sj_of] at h
      exact go (law_1 hS hX hL1 hi7 h (fun w => sk_D244 20 18 [some (.ref 0), some (.ref 1), some (.ref 105), some (.int (sj ((i + 7 : Nat) : Int)))] [] w))
    rw [if_neg c14]
    by_cases c15 : Int32.toInt (X.2 i &&& sj 31) = 15
    · rw [if_pos c15]
      have h : FC (sk_S0 X.1 ++ List.replicate q (.inl 5)) I 117 200 [.int (sj (X.2 (i + 1)).toInt)] := f_best hS hG (sj_rng _).1 (sj_rng _).2
      simp only [sj_of] at h
      exact go (law_1 hS hX hL1 hi7 h (fun w => sk_D244 20 18 [some (.ref 0), some (.ref 1), some (.ref 105), some (.int (sj ((i + 7 : Nat) : Int)))] [] w))
    rw [if_neg c15]
    by_cases c16 : Int32.toInt (X.2 i &&& sj 31) = 16
    · rw [if_pos c16]
      have h : FC (sk_S0 X.1 ++ List.replicate q (.inl 5)) I 118 203 [.int (sj (X.2 (i + 1)).toInt)] := f_layouts hS hG (sj_rng _).1 (sj_rng _).2
      simp only [sj_of] at h
      exact go (law_1 hS hX hL1 hi7 h (fun w => sk_D244 20 18 [some (.ref 0), some (.ref 1), some (.ref 105), some (.int (sj ((i + 7 : Nat) : Int)))] [] w))
    rw [if_neg c16]
    by_cases c17 : Int32.toInt (X.2 i &&& sj 31) = 17
    · rw [if_pos c17]
      have h : FC (sk_S0 X.1 ++ List.replicate q (.inl 5)) I 119 211 [] := f_stages hS hG
      exact go (law_0 hS hX hL1 hi7 h (fun w => sk_D244 20 18 [some (.ref 0), some (.ref 1), some (.ref 105), some (.int (sj ((i + 7 : Nat) : Int)))] [] w))
    rw [if_neg c17]
    by_cases c18 : Int32.toInt (X.2 i &&& sj 31) = 18
    · rw [if_pos c18]
      have h : FC (sk_S0 X.1 ++ List.replicate q (.inl 5)) I 120 213 [.int (sj (X.2 (i + 1)).toInt)] := f_centre hS hG (sj_rng _).1 (sj_rng _).2
      simp only [sj_of] at h
      exact go (law_1 hS hX hL1 hi7 h (fun w => sk_D244 20 18 [some (.ref 0), some (.ref 1), some (.ref 105), some (.int (sj ((i + 7 : Nat) : Int)))] [] w))
    rw [if_neg c18]
    by_cases c19 : Int32.toInt (X.2 i &&& sj 31) = 19
    · rw [if_pos c19]
      have h : FC (sk_S0 X.1 ++ List.replicate q (.inl 5)) I 121 215 [.int (X.2 (i + 1)), .int (sj (X.2 (i + 2)).toInt)] := f_drawn hS hG (X.2 (i + 1)) (sj_rng _).1 (sj_rng _).2
      simp only [sj_of] at h
      exact go (law_2 hS hX hL1 hi7 h (fun w => sk_D244 20 18 [some (.ref 0), some (.ref 1), some (.ref 105), some (.int (sj ((i + 7 : Nat) : Int)))] [] w))
    rw [if_neg c19]
    by_cases c20 : Int32.toInt (X.2 i &&& sj 31) = 20
    · rw [if_pos c20]
      have h : FC (sk_S0 X.1 ++ List.replicate q (.inl 5)) I 122 216 [.int (X.2 (i + 1)), .int (sj (X.2 (i + 2)).toInt), .int (sj (X.2 (i + 3)).toInt), .int (sj (X.2 (i + 4)).toInt)] := f_chance hS hG (X.2 (i + 1)) (sj_rng _).1 (sj_rng _).2 (sj_rng _).1 (sj_rng _).2 (sj_rng _).1 (sj_rng _).2
      simp only [sj_of] at h
      exact go (law_4 hS hX hL1 hi7 h (fun w => sk_D244 20 18 [some (.ref 0), some (.ref 1), some (.ref 105), some (.int (sj ((i + 7 : Nat) : Int)))] [] w))
    rw [if_neg c20]
    by_cases c21 : Int32.toInt (X.2 i &&& sj 31) = 21
    · rw [if_pos c21]
      have h : FC (sk_S0 X.1 ++ List.replicate q (.inl 5)) I 123 219 [.int (sj (X.2 (i + 1)).toInt), .int (sj (X.2 (i + 2)).toInt)] := f_tells hS hG (sj_rng _).1 (sj_rng _).2 (sj_rng _).1 (sj_rng _).2
      simp only [sj_of] at h
      exact go (law_2 hS hX hL1 hi7 h (fun w => sk_D244 20 18 [some (.ref 0), some (.ref 1), some (.ref 105), some (.int (sj ((i + 7 : Nat) : Int)))] [] w))
    rw [if_neg c21]
    by_cases c22 : Int32.toInt (X.2 i &&& sj 31) = 22
    · rw [if_pos c22]
      have h : FC (sk_S0 X.1 ++ List.replicate q (.inl 5)) I 124 222 [.int (sj (X.2 (i + 1)).toInt), .int (sj (X.2 (i + 2)).toInt), .int (sj (X.2 (i + 3)).toInt)] := f_rack hS hG (sj_rng _).1 (sj_rng _).2 (sj_rng _).1 (sj_rng _).2 (sj_rng _).1 (sj_rng _).2
      simp only [sj_of] at h
      exact go (law_3 hS hX hL1 hi7 h (fun w => sk_D244 20 18 [some (.ref 0), some (.ref 1), some (.ref 105), some (.int (sj ((i + 7 : Nat) : Int)))] [] w))
    rw [if_neg c22]
    by_cases c23 : Int32.toInt (X.2 i &&& sj 31) = 23
    · rw [if_pos c23]
      have h : FC (sk_S0 X.1 ++ List.replicate q (.inl 5)) I 125 224 [.int (sj (X.2 (i + 1)).toInt), .int (sj (X.2 (i + 2)).toInt), .int (sj (X.2 (i + 3)).toInt)] := f_puts hS hG (sj_rng _).1 (sj_rng _).2 (sj_rng _).1 (sj_rng _).2 (sj_rng _).1 (sj_rng _).2
      simp only [sj_of] at h
      exact go (law_3 hS hX hL1 hi7 h (fun w => sk_D244 20 18 [some (.ref 0), some (.ref 1), some (.ref 105), some (.int (sj ((i + 7 : Nat) : Int)))] [] w))
    rw [if_neg c23]
    by_cases c24 : Int32.toInt (X.2 i &&& sj 31) = 24
    · rw [if_pos c24]
      have h : FC (sk_S0 X.1 ++ List.replicate q (.inl 5)) I 126 225 [.int (sj (X.2 (i + 1)).toInt), .int (sj (X.2 (i + 2)).toInt), .int (sj (X.2 (i + 3)).toInt), .int (sj (X.2 (i + 4)).toInt), .int (sj (X.2 (i + 5)).toInt)] := f_moved hS hG (sj_rng _).1 (sj_rng _).2 (sj_rng _).1 (sj_rng _).2 (sj_rng _).1 (sj_rng _).2 (sj_rng _).1 (sj_rng _).2 (sj_rng _).1 (sj_rng _).2
      simp only [sj_of] at h
      exact go (law_5 hS hX hL1 hi7 h (fun w => sk_D244 20 18 [some (.ref 0), some (.ref 1), some (.ref 105), some (.int (sj ((i + 7 : Nat) : Int)))] [] w))
    rw [if_neg c24]
    by_cases c25 : Int32.toInt (X.2 i &&& sj 31) = 25
    · rw [if_pos c25]
      have h : FC (sk_S0 X.1 ++ List.replicate q (.inl 5)) I 127 226 [.int (sj (X.2 (i + 1)).toInt), .int (sj (X.2 (i + 2)).toInt)] := f_laid hS hG (sj_rng _).1 (sj_rng _).2 (sj_rng _).1 (sj_rng _).2
      simp only [sj_of] at h
      exact go (law_2 hS hX hL1 hi7 h (fun w => sk_D244 20 18 [some (.ref 0), some (.ref 1), some (.ref 105), some (.int (sj ((i + 7 : Nat) : Int)))] [] w))
    rw [if_neg c25]
    by_cases c26 : Int32.toInt (X.2 i &&& sj 31) = 26
    · rw [if_pos c26]
      have h : FC (sk_S0 X.1 ++ List.replicate q (.inl 5)) I 128 227 [] := f_image hS hG
      exact go (law_0 hS hX hL1 hi7 h (fun w => sk_D244 20 18 [some (.ref 0), some (.ref 1), some (.ref 105), some (.int (sj ((i + 7 : Nat) : Int)))] [] w))
    rw [if_neg c26]
    by_cases c27 : Int32.toInt (X.2 i &&& sj 31) = 27
    · rw [if_pos c27]
      have h : FC (sk_S0 X.1 ++ List.replicate q (.inl 5)) I 129 228 [] := f_back hS hG
      exact go (law_0 hS hX hL1 hi7 h (fun w => sk_D244 20 18 [some (.ref 0), some (.ref 1), some (.ref 105), some (.int (sj ((i + 7 : Nat) : Int)))] [] w))
    rw [if_neg c27]
    by_cases c28 : Int32.toInt (X.2 i &&& sj 31) = 28
    · rw [if_pos c28]
      have h : FC (sk_S0 X.1 ++ List.replicate q (.inl 5)) I 130 232 [.int (sj (X.2 (i + 1)).toInt)] := f_count hS hG (sj_rng _).1 (sj_rng _).2
      simp only [sj_of] at h
      exact go (law_1 hS hX hL1 hi7 h (fun w => sk_D244 20 18 [some (.ref 0), some (.ref 1), some (.ref 105), some (.int (sj ((i + 7 : Nat) : Int)))] [] w))
    rw [if_neg c28]
    by_cases c29 : Int32.toInt (X.2 i &&& sj 31) = 29
    · rw [if_pos c29]
      have h : FC (sk_S0 X.1 ++ List.replicate q (.inl 5)) I 131 234 [.int (sj (X.2 (i + 1)).toInt), .int (sj (X.2 (i + 2)).toInt), .int (sj (X.2 (i + 3)).toInt)] := f_sheet hS hG (sj_rng _).1 (sj_rng _).2 (sj_rng _).1 (sj_rng _).2 (sj_rng _).1 (sj_rng _).2
      simp only [sj_of] at h
      exact go (law_3 hS hX hL1 hi7 h (fun w => sk_D244 20 18 [some (.ref 0), some (.ref 1), some (.ref 105), some (.int (sj ((i + 7 : Nat) : Int)))] [] w))
    rw [if_neg c29]
    by_cases c30 : Int32.toInt (X.2 i &&& sj 31) = 30
    · rw [if_pos c30]
      have h : FC (sk_S0 X.1 ++ List.replicate q (.inl 5)) I 132 235 [.int (sj (X.2 (i + 1)).toInt), .int (sj (X.2 (i + 2)).toInt), .int (sj (X.2 (i + 3)).toInt)] := f_put hS hG (sj_rng _).1 (sj_rng _).2 (sj_rng _).1 (sj_rng _).2 (sj_rng _).1 (sj_rng _).2
      simp only [sj_of] at h
      exact go (law_3 hS hX hL1 hi7 h (fun w => sk_D244 20 18 [some (.ref 0), some (.ref 1), some (.ref 105), some (.int (sj ((i + 7 : Nat) : Int)))] [] w))
    rw [if_neg c30]
    by_cases c31 : Int32.toInt (X.2 i &&& sj 31) = 31
    · rw [if_pos c31]
      have h : FC (sk_S0 X.1 ++ List.replicate q (.inl 5)) I 133 236 [.int (sj (X.2 (i + 1)).toInt), .int (sj (X.2 (i + 2)).toInt), .int (sj (X.2 (i + 3)).toInt), .int (sj (X.2 (i + 4)).toInt), .int (sj (X.2 (i + 5)).toInt)] := f_copy hS hG (sj_rng _).1 (sj_rng _).2 (sj_rng _).1 (sj_rng _).2 (sj_rng _).1 (sj_rng _).2 (sj_rng _).1 (sj_rng _).2 (sj_rng _).1 (sj_rng _).2
      simp only [sj_of] at h
      exact go (law_5 hS hX hL1 hi7 h (fun w => sk_D244 20 18 [some (.ref 0), some (.ref 1), some (.ref 105), some (.int (sj ((i + 7 : Nat) : Int)))] [] w))
    rw [if_neg c31]
    exact nx I v hG hX
