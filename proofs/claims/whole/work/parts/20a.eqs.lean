/-! ===== what each method's run comes to (written by program; each row is found by rfl) ===== -/
def sj (a : Int) : Int32 := Int32.ofInt a
/-- behind a call that answers nothing, an int, a float -/
def sk_cv (o : Option sk_R) (k : sk_W → Option sk_R) : Option sk_R := match o with
  | some (none, w) => k w
  | _ => none
def sk_ci (o : Option sk_R) (k : Int32 → sk_W → Option sk_R) : Option sk_R := match o with
  | some (some (.int v), w) => k v w
  | _ => none
def sk_cf (o : Option sk_R) (k : UInt32 → sk_W → Option sk_R) : Option sk_R := match o with
  | some (some (.float v), w) => k v w
  | _ => none
/-- SkylineNester$Bounds.of(LSkylineNester$Plan;I)I -/
noncomputable abbrev sk_D3 (d : Nat) : sk_K := sk_den (sk_c d) sk_fields false sk_t3
set_option maxRecDepth 100000 in
theorem sk_e3 (d : Nat) (x0 : Nat) (x1 : Int32) (w : sk_W) : sk_c (d + 1) 3 [.ref x0, .int x1] w =
  if sk_cond .eq x1 (sj 8) = true then
    sk_D3 d 16 [some (.ref x0), some (.int x1), some (.int (sj 0)), some (.int (sj 0))] [] w
  else
    sk_ci (sk_c d 4 [.ref x0, .int x1] w) fun v2 w1 =>
    some (some (.int v2), w1) := by
  have h : sk_c (d + 1) 3 [.ref x0, .int x1] w = sk_D3 d 0 [some (.ref x0), some (.int x1), none, none] [] w := rfl
  rw [h]
  exact sk_unf (sk_c d) sk_fields false sk_t3 [16] 2000 rfl
set_option maxRecDepth 100000 in
theorem sk_e3_16 (d : Nat) (x0 : Nat) (o1 : Option Value) (x2 : Int32) (x3 : Int32) (w : sk_W) : sk_D3 d 16 [some (.ref x0), o1, some (.int x2), some (.int x3)] [] w =
  if sk_cond .ge x3 (sj 8) = true then
    some (some (.int x2), w)
  else
    sk_ci (sk_c d 4 [.ref x0, .int x3] w) fun v2 w1 =>
    sk_ci (sk_c d 239 [.int x2, .int v2] w1) fun v4 w3 =>
    sk_D3 d 16 [some (.ref x0), o1, some (.int v4), some (.int (x3 + (sj 1)))] [] w3 := sk_unf (sk_c d) sk_fields false sk_t3 [16] 2000 rfl
/-- SkylineNester$Bounds.single(LSkylineNester$Plan;I)I -/
noncomputable abbrev sk_D4 (d : Nat) : sk_K := sk_den (sk_c d) sk_fields false sk_t4
set_option maxRecDepth 100000 in
theorem sk_e4 (d : Nat) (x0 : Nat) (x1 : Int32) (w : sk_W) : sk_c (d + 1) 4 [.ref x0, .int x1] w =
  if sk_cond .ne x1 (sj 1) = true then
    if sk_cond .eq x1 (sj 7) = true then
      sk_D4 d 27 [some (.ref x0), some (.int x1), some (.int (sj 0)), some (.int (sj 1))] [] w
    else
      sk_ci (sk_c d 6 [.ref x0, .int x1, .int (sj 0)] w) fun v2 w1 =>
      some (some (.int v2), w1)
  else
    sk_ci (sk_c d 5 [.ref x0] w) fun v4 w3 =>
    some (some (.int v4), w3) := by
  have h : sk_c (d + 1) 4 [.ref x0, .int x1] w = sk_D4 d 0 [some (.ref x0), some (.int x1), none, none] [] w := rfl
  rw [h]
  exact sk_unf (sk_c d) sk_fields false sk_t4 [27] 2000 rfl
set_option maxRecDepth 100000 in
theorem sk_e4_27 (d : Nat) (x0 : Nat) (x1 : Int32) (x2 : Int32) (x3 : Int32) (w : sk_W) : sk_D4 d 27 [some (.ref x0), some (.int x1), some (.int x2), some (.int x3)] [] w =
  (sk_geti w x0 3 4).bind fun v1 =>
  if sk_cond .gt x3 (v1 / (sj 2)) = true then
    some (some (.int x2), w)
  else
    sk_ci (sk_c d 6 [.ref x0, .int x1, .int x3] w) fun v3 w2 =>
    sk_ci (sk_c d 239 [.int x2, .int v3] w2) fun v5 w4 =>
    sk_D4 d 27 [some (.ref x0), some (.int x1), some (.int v5), some (.int (x3 + (sj 1)))] [] w4 := sk_unf (sk_c d) sk_fields false sk_t4 [27] 2000 rfl
/-- SkylineNester$Bounds.tallest(LSkylineNester$Plan;)I -/
noncomputable abbrev sk_D5 (d : Nat) : sk_K := sk_den (sk_c d) sk_fields false sk_t5
set_option maxRecDepth 100000 in
theorem sk_e5 (d : Nat) (x0 : Nat) (w : sk_W) : sk_c (d + 1) 5 [.ref x0] w =
  sk_D5 d 4 [some (.ref x0), some (.int (sj 0)), some (.int (sj 0)), none, none] [] w := by
  have h : sk_c (d + 1) 5 [.ref x0] w = sk_D5 d 0 [some (.ref x0), none, none, none, none] [] w := rfl
  rw [h]
  exact sk_unf (sk_c d) sk_fields false sk_t5 [4] 2000 rfl
set_option maxRecDepth 100000 in
theorem sk_e5_4 (d : Nat) (x0 : Nat) (x1 : Int32) (x2 : Int32) (o3 : Option Value) (o4 : Option Value) (w : sk_W) : sk_D5 d 4 [some (.ref x0), some (.int x1), some (.int x2), o3, o4] [] w =
  (sk_geti w x0 3 5).bind fun v1 =>
  if sk_cond .ge x2 v1 = true then
    some (some (.int x1), w)
  else
    (sk_getr w x0 3 0).bind fun v2 =>
    (sk_aldr w v2 x2).bind fun v3 =>
    (sk_geti w v3 2 4).bind fun v4 =>
    if sk_cond .ne v4 (sj 1) = true then
      if sk_isO w x0 3 = true then
      sk_ci (sk_c d 40 [.ref x0, .int x2] w) fun v6 w5 =>
      if sk_cond .eq v6 (sj 0) = true then
        sk_D5 d 4 [some (.ref x0), some (.int x1), some (.int (x2 + (sj 1))), some (.ref v3), o4] [] w5
      else
        if sk_isO w5 v3 2 = true then
        sk_ci (sk_c d 32 [.ref v3, .int (sj 0)] w5) fun v8 w7 =>
        (sk_geti w7 x0 3 4).bind fun v9 =>
        if sk_isO w7 v3 2 = true then
        sk_ci (sk_c d 30 [.ref v3, .int v9] w7) fun v11 w10 =>
        if sk_cond .ne v11 (sj 2) = true then
          sk_ci (sk_c d 239 [.int x1, .int v8] w10) fun v13 w12 =>
          sk_D5 d 4 [some (.ref x0), some (.int v13), some (.int (x2 + (sj 1))), some (.ref v3), some (.int v8)] [] w12
        else
          if sk_isO w10 v3 2 = true then
          sk_ci (sk_c d 32 [.ref v3, .int (sj 1)] w10) fun v15 w14 =>
          sk_ci (sk_c d 240 [.int v8, .int v15] w14) fun v17 w16 =>
          sk_ci (sk_c d 239 [.int x1, .int v17] w16) fun v19 w18 =>
          sk_D5 d 4 [some (.ref x0), some (.int v19), some (.int (x2 + (sj 1))), some (.ref v3), some (.int v17)] [] w18 else none else none else none else none
    else
      (sk_geti w v3 2 6).bind fun v20 =>
      (sk_geti w v3 2 9).bind fun v21 =>
      sk_ci (sk_c d 239 [.int x1, .int (v20 + v21)] w) fun v23 w22 =>
      sk_D5 d 4 [some (.ref x0), some (.int v23), some (.int (x2 + (sj 1))), some (.ref v3), o4] [] w22 := sk_unf (sk_c d) sk_fields false sk_t5 [4] 2000 rfl
/-- SkylineNester$Bounds.together(LSkylineNester$Plan;II)I -/
noncomputable abbrev sk_D6 (d : Nat) : sk_K := sk_den (sk_c d) sk_fields false sk_t6
set_option maxRecDepth 100000 in
theorem sk_e6 (d : Nat) (x0 : Nat) (x1 : Int32) (x2 : Int32) (w : sk_W) : sk_c (d + 1) 6 [.ref x0, .int x1, .int x2] w =
  sk_D6 d 5 [some (.ref x0), some (.int x1), some (.int x2), some (.int (sj 0)), some (.int (sj 0)), none, none] [] w := by
  have h : sk_c (d + 1) 6 [.ref x0, .int x1, .int x2] w = sk_D6 d 0 [some (.ref x0), some (.int x1), some (.int x2), none, none, none, none] [] w := rfl
  rw [h]
  exact sk_unf (sk_c d) sk_fields false sk_t6 [5, 44, 141] 2000 rfl
set_option maxRecDepth 100000 in
theorem sk_e6_5 (d : Nat) (x0 : Nat) (x1 : Int32) (x2 : Int32) (x3 : Int32) (x4 : Int32) (o5 : Option Value) (o6 : Option Value) (w : sk_W) : sk_D6 d 5 [some (.ref x0), some (.int x1), some (.int x2), some (.int x3), some (.int x4), o5, o6] [] w =
  (sk_geti w x0 3 5).bind fun v1 =>
  if sk_cond .ge x4 v1 = true then
    if sk_cond .ne x1 (sj 2) = true then
      (sk_geti w x0 3 4).bind fun v2 =>
      sk_D6 d 141 [some (.ref x0), some (.int x1), some (.int x2), some (.int x3), some (.int x4), o5, o6] [.int v2] w
    else
      sk_D6 d 141 [some (.ref x0), some (.int x1), some (.int x2), some (.int x3), some (.int x4), o5, o6] [.int (sj 1)] w
  else
    (sk_getr w x0 3 0).bind fun v3 =>
    (sk_aldr w v3 x4).bind fun v4 =>
    (sk_geti w v4 2 4).bind fun v5 =>
    if sk_cond .eq v5 (sj 1) = true then
      sk_D6 d 44 [some (.ref x0), some (.int x1), some (.int x2), some (.int x3), some (.int x4), some (.ref v4), o6] [] w
    else
      if sk_isO w x0 3 = true then
      sk_ci (sk_c d 40 [.ref x0, .int x4] w) fun v7 w6 =>
      if sk_cond .ne v7 (sj 0) = true then
        sk_D6 d 44 [some (.ref x0), some (.int x1), some (.int x2), some (.int x3), some (.int x4), some (.ref v4), o6] [] w6
      else
        sk_D6 d 5 [some (.ref x0), some (.int x1), some (.int x2), some (.int x3), some (.int (x4 + (sj 1))), some (.ref v4), o6] [] w6 else none := sk_unf (sk_c d) sk_fields false sk_t6 [5, 44, 141] 2000 rfl
set_option maxRecDepth 100000 in
theorem sk_e6_44 (d : Nat) (x0 : Nat) (x1 : Int32) (x2 : Int32) (x3 : Int32) (x4 : Int32) (x5 : Nat) (o6 : Option Value) (w : sk_W) : sk_D6 d 44 [some (.ref x0), some (.int x1), some (.int x2), some (.int x3), some (.int x4), some (.ref x5), o6] [] w =
  (sk_geti w x5 2 1).bind fun v1 =>
  (sk_geti w x0 3 4).bind fun v2 =>
  sk_ci (sk_c d 9 [.int x1, .int x2, .int v1, .int v2] w) fun v4 w3 =>
  if sk_isO w3 x5 2 = true then
  sk_ci (sk_c d 32 [.ref x5, .int (sj 0)] w3) fun v6 w5 =>
  (sk_geti w5 x5 2 4).bind fun v7 =>
  if sk_cond .eq v7 (sj 1) = true then
    sk_D6 d 5 [some (.ref x0), some (.int x1), some (.int x2), some (.int (x3 + (v4 * v6))), some (.int (x4 + (sj 1))), some (.ref x5), some (.int (v4 * v6))] [] w5
  else
    (sk_geti w5 x0 3 4).bind fun v8 =>
    if sk_isO w5 x5 2 = true then
    sk_ci (sk_c d 30 [.ref x5, .int v8] w5) fun v10 w9 =>
    if sk_cond .ne v10 (sj 2) = true then
      sk_D6 d 5 [some (.ref x0), some (.int x1), some (.int x2), some (.int (x3 + (v4 * v6))), some (.int (x4 + (sj 1))), some (.ref x5), some (.int (v4 * v6))] [] w9
    else
      (sk_geti w9 x5 2 2).bind fun v11 =>
      (sk_geti w9 x0 3 4).bind fun v12 =>
      sk_ci (sk_c d 9 [.int x1, .int x2, .int v11, .int v12] w9) fun v14 w13 =>
      if sk_isO w13 x5 2 = true then
      sk_ci (sk_c d 32 [.ref x5, .int (sj 1)] w13) fun v16 w15 =>
      sk_ci (sk_c d 240 [.int (v4 * v6), .int (v14 * v16)] w15) fun v18 w17 =>
      sk_D6 d 5 [some (.ref x0), some (.int x1), some (.int x2), some (.int (x3 + v18)), some (.int (x4 + (sj 1))), some (.ref x5), some (.int v18)] [] w17 else none else none else none := sk_unf (sk_c d) sk_fields false sk_t6 [5, 44, 141] 2000 rfl
set_option maxRecDepth 100000 in
theorem sk_e6_141 (d : Nat) (x0 : Nat) (x1 : Int32) (o2 : Option Value) (x3 : Int32) (o4 : Option Value) (o5 : Option Value) (o6 : Option Value) (s0 : Int32) (w : sk_W) : sk_D6 d 141 [some (.ref x0), some (.int x1), o2, some (.int x3), o4, o5, o6] [.int s0] w =
  sk_ci (sk_c d 7 [.int x1] w) fun v2 w1 =>
  if sk_cond .eq v2 (sj 0) = true then
    if s0 = 0 then none else
    some (some (.int (((x3 + s0) - (sj 1)) / s0)), w1)
  else
    sk_ci (sk_c d 8 [.int x1] w1) fun v4 w3 =>
    (sk_geti w3 x0 3 4).bind fun v5 =>
    if (v4 * v5) = 0 then none else
    some (some (.int (((x3 + (v4 * v5)) - (sj 1)) / (v4 * v5))), w3) := sk_unf (sk_c d) sk_fields false sk_t6 [5, 44, 141] 2000 rfl
/-- SkylineNester$Bounds.isShared(I)Z -/
noncomputable abbrev sk_D7 (d : Nat) : sk_K := sk_den (sk_c d) sk_fields true sk_t7
set_option maxRecDepth 100000 in
theorem sk_e7 (d : Nat) (x0 : Int32) (w : sk_W) : sk_c (d + 1) 7 [.int x0] w =
  if sk_cond .le x0 (sj 2) = true then
    some (some (.int (sj 0)), w)
  else
    if sk_cond .gt x0 (sj 6) = true then
      some (some (.int (sj 0)), w)
    else
      some (some (.int (sj 1)), w) := by
  have h : sk_c (d + 1) 7 [.int x0] w = sk_D7 d 0 [some (.int x0)] [] w := rfl
  rw [h]
  exact sk_unf (sk_c d) sk_fields true sk_t7 [] 2000 rfl
/-- SkylineNester$Bounds.shares(I)I -/
noncomputable abbrev sk_D8 (d : Nat) : sk_K := sk_den (sk_c d) sk_fields false sk_t8
set_option maxRecDepth 100000 in
theorem sk_e8 (d : Nat) (x0 : Int32) (w : sk_W) : sk_c (d + 1) 8 [.int x0] w =
  some (some (.int (x0 - (sj 2))), w) := by
  have h : sk_c (d + 1) 8 [.int x0] w = sk_D8 d 0 [some (.int x0)] [] w := rfl
  rw [h]
  exact sk_unf (sk_c d) sk_fields false sk_t8 [] 2000 rfl
/-- SkylineNester$Bounds.weight(IIII)I -/
noncomputable abbrev sk_D9 (d : Nat) : sk_K := sk_den (sk_c d) sk_fields false sk_t9
set_option maxRecDepth 100000 in
theorem sk_e9 (d : Nat) (x0 : Int32) (x1 : Int32) (x2 : Int32) (x3 : Int32) (w : sk_W) : sk_c (d + 1) 9 [.int x0, .int x1, .int x2, .int x3] w =
  if sk_cond .ne x0 (sj 0) = true then
    if sk_cond .ne x0 (sj 2) = true then
      sk_ci (sk_c d 7 [.int x0] w) fun v2 w1 =>
      if sk_cond .eq v2 (sj 0) = true then
        if sk_cond .le x2 (x3 - x1) = true then
          if sk_cond .lt x2 x1 = true then
            some (some (.int (sj 0)), w1)
          else
            some (some (.int x2), w1)
        else
          some (some (.int x3), w1)
      else
        sk_ci (sk_c d 8 [.int x0] w1) fun v4 w3 =>
        if x3 = 0 then none else
        if sk_cond .ne (((v4 + (sj 1)) * x2) - (((v4 + (sj 1)) * x2) / x3) * x3) (sj 0) = true then
          if x3 = 0 then none else
          some (some (.int ((((v4 + (sj 1)) * x2) / x3) * x3)), w3)
        else
          some (some (.int (v4 * x2)), w3)
    else
      if sk_cond .le ((sj 2) * x2) x3 = true then
        some (some (.int (sj 0)), w)
      else
        some (some (.int (sj 1)), w)
  else
    some (some (.int x2), w) := by
  have h : sk_c (d + 1) 9 [.int x0, .int x1, .int x2, .int x3] w = sk_D9 d 0 [some (.int x0), some (.int x1), some (.int x2), some (.int x3), none, none] [] w := rfl
  rw [h]
  exact sk_unf (sk_c d) sk_fields false sk_t9 [] 2000 rfl
/-- SkylineNester$Cuts.<init>()V -/
noncomputable abbrev sk_D10 (d : Nat) : sk_K := sk_den (sk_c d) sk_fields false sk_t10
set_option maxRecDepth 100000 in
theorem sk_e10 (d : Nat) (x0 : Nat) (w : sk_W) : sk_c (d + 1) 10 [.ref x0] w =
  (sk_put (w ++ [.inl (10, fun _ => 0)]) x0 0 0 (.ref (List.length w))).bind fun w1 =>
  (sk_put (w1 ++ [.inl (10, fun _ => 0)]) x0 0 1 (.ref (List.length w1))).bind fun w2 =>
  (sk_put (w2 ++ [.inl (10, fun _ => 0)]) x0 0 2 (.ref (List.length w2))).bind fun w3 =>
  (sk_put (w3 ++ [.inl (10, fun _ => 0)]) x0 0 3 (.ref (List.length w3))).bind fun w4 =>
  (sk_put (w4 ++ [.inl (10, fun _ => 0)]) x0 0 4 (.ref (List.length w4))).bind fun w5 =>
  (sk_put (w5 ++ [.inl (10, fun _ => 0)]) x0 0 5 (.ref (List.length w5))).bind fun w6 =>
  some (none, w6) := by
  have h : sk_c (d + 1) 10 [.ref x0] w = sk_D10 d 0 [some (.ref x0)] [] w := rfl
  rw [h]
  exact sk_unf (sk_c d) sk_fields false sk_t10 [] 2000 rfl
/-- SkylineNester$Cuts.takeFrom(LSkylineNester$Plan;)V -/
noncomputable abbrev sk_D11 (d : Nat) : sk_K := sk_den (sk_c d) sk_fields false sk_t11
set_option maxRecDepth 100000 in
theorem sk_e11 (d : Nat) (x0 : Nat) (x1 : Nat) (w : sk_W) : sk_c (d + 1) 11 [.ref x0, .ref x1] w =
  (sk_put w x0 0 6 (.int (sj 0))).bind fun w1 =>
  sk_D11 d 7 [some (.ref x0), some (.ref x1), some (.int (sj 0)), none] [] w1 := by
  have h : sk_c (d + 1) 11 [.ref x0, .ref x1] w = sk_D11 d 0 [some (.ref x0), some (.ref x1), none, none] [] w := rfl
  rw [h]
  exact sk_unf (sk_c d) sk_fields false sk_t11 [7] 2000 rfl
set_option maxRecDepth 100000 in
theorem sk_e11_7 (d : Nat) (x0 : Nat) (x1 : Nat) (x2 : Int32) (o3 : Option Value) (w : sk_W) : sk_D11 d 7 [some (.ref x0), some (.ref x1), some (.int x2), o3] [] w =
  (sk_geti w x1 3 5).bind fun v1 =>
  if sk_cond .ge x2 v1 = true then
    some (none, w)
  else
    (sk_getr w x1 3 0).bind fun v2 =>
    (sk_aldr w v2 x2).bind fun v3 =>
    if sk_isO w v3 2 = true then
    sk_ci (sk_c d 27 [.ref v3] w) fun v5 w4 =>
    if sk_cond .ne v5 (sj 0) = true then
      (sk_getr w4 x0 0 0).bind fun v6 =>
      (sk_geti w4 x0 0 6).bind fun v7 =>
      (sk_geti w4 v3 2 5).bind fun v8 =>
      (sk_ast w4 v6 v7 v8).bind fun w9 =>
      (sk_getr w9 x0 0 1).bind fun v10 =>
      (sk_geti w9 x0 0 6).bind fun v11 =>
      (sk_geti w9 v3 2 5).bind fun v12 =>
      (sk_geti w9 v3 2 8).bind fun v13 =>
      (sk_ast w9 v10 v11 (v12 + v13)).bind fun w14 =>
      (sk_getr w14 x0 0 2).bind fun v15 =>
      (sk_geti w14 x0 0 6).bind fun v16 =>
      (sk_geti w14 v3 2 6).bind fun v17 =>
      (sk_ast w14 v15 v16 v17).bind fun w18 =>
      (sk_getr w18 x0 0 3).bind fun v19 =>
      (sk_geti w18 x0 0 6).bind fun v20 =>
      (sk_geti w18 v3 2 6).bind fun v21 =>
      (sk_geti w18 v3 2 9).bind fun v22 =>
      (sk_ast w18 v19 v20 (v21 + v22)).bind fun w23 =>
      (sk_geti w23 x0 0 6).bind fun v24 =>
      (sk_put w23 x0 0 6 (.int (v24 + (sj 1)))).bind fun w25 =>
      sk_D11 d 7 [some (.ref x0), some (.ref x1), some (.int (x2 + (sj 1))), some (.ref v3)] [] w25
    else
      sk_D11 d 7 [some (.ref x0), some (.ref x1), some (.int (x2 + (sj 1))), some (.ref v3)] [] w4 else none := sk_unf (sk_c d) sk_fields false sk_t11 [7] 2000 rfl
/-- SkylineNester$Cuts.leastStages()I -/
noncomputable abbrev sk_D12 (d : Nat) : sk_K := sk_den (sk_c d) sk_fields false sk_t12
set_option maxRecDepth 100000 in
theorem sk_e12 (d : Nat) (x0 : Nat) (w : sk_W) : sk_c (d + 1) 12 [.ref x0] w =
  (sk_geti w x0 0 6).bind fun v1 =>
  if sk_cond .gt v1 (sj 1) = true then
    if sk_isO w x0 0 = true then
    sk_ci (sk_c d 13 [.ref x0, .int (sj 1)] w) fun v3 w2 =>
    if sk_isO w2 x0 0 = true then
    sk_ci (sk_c d 13 [.ref x0, .int (sj 0)] w2) fun v5 w4 =>
    if sk_cond .ne v3 (sj (-1)) = true then
      if sk_cond .ne v5 (sj (-1)) = true then
        sk_ci (sk_c d 240 [.int v3, .int v5] w4) fun v7 w6 =>
        some (some (.int v7), w6)
      else
        some (some (.int v3), w4)
    else
      some (some (.int v5), w4) else none else none
  else
    some (some (.int (sj 0)), w) := by
  have h : sk_c (d + 1) 12 [.ref x0] w = sk_D12 d 0 [some (.ref x0), none, none] [] w := rfl
  rw [h]
  exact sk_unf (sk_c d) sk_fields false sk_t12 [] 2000 rfl
/-- SkylineNester$Cuts.stagesFrom(Z)I -/
noncomputable abbrev sk_D13 (d : Nat) : sk_K := sk_den (sk_c d) sk_fields false sk_t13
set_option maxRecDepth 100000 in
theorem sk_e13 (d : Nat) (x0 : Nat) (x1 : Int32) (w : sk_W) : sk_c (d + 1) 13 [.ref x0, .int x1] w =
  (sk_getr w x0 0 4).bind fun v1 =>
  sk_cv (sk_c d 242 [.ref v1, .int (sj 0)] w) fun w2 =>
  sk_D13 d 15 [some (.ref x0), some (.int x1), some (.int (sj 1)), some (.int x1), some (.int (sj 1)), none] [] w2 := by
  have h : sk_c (d + 1) 13 [.ref x0, .int x1] w = sk_D13 d 0 [some (.ref x0), some (.int x1), none, none, none, none] [] w := rfl
  rw [h]
  exact sk_unf (sk_c d) sk_fields false sk_t13 [15, 53] 2000 rfl
set_option maxRecDepth 100000 in
theorem sk_e13_15 (d : Nat) (x0 : Nat) (o1 : Option Value) (x2 : Int32) (x3 : Int32) (x4 : Int32) (o5 : Option Value) (w : sk_W) : sk_D13 d 15 [some (.ref x0), o1, some (.int x2), some (.int x3), some (.int x4), o5] [] w =
  if sk_cond .ge x4 (sj 10) = true then
    some (some (.int (sj (-1))), w)
  else
    if sk_cond .eq x3 (sj 0) = true then
      (sk_getr w x0 0 2).bind fun v1 =>
      (sk_getr w x0 0 3).bind fun v2 =>
      if sk_isO w x0 0 = true then
      sk_ci (sk_c d 14 [.ref x0, .ref v1, .ref v2] w) fun v4 w3 =>
      sk_D13 d 53 [some (.ref x0), o1, some (.int x2), some (.int x3), some (.int x4), o5] [.int v4] w3 else none
    else
      (sk_getr w x0 0 0).bind fun v5 =>
      (sk_getr w x0 0 1).bind fun v6 =>
      if sk_isO w x0 0 = true then
      sk_ci (sk_c d 14 [.ref x0, .ref v5, .ref v6] w) fun v8 w7 =>
      sk_D13 d 53 [some (.ref x0), o1, some (.int x2), some (.int x3), some (.int x4), o5] [.int v8] w7 else none := sk_unf (sk_c d) sk_fields false sk_t13 [15, 53] 2000 rfl
set_option maxRecDepth 100000 in
theorem sk_e13_53 (d : Nat) (x0 : Nat) (o1 : Option Value) (x2 : Int32) (x3 : Int32) (x4 : Int32) (o5 : Option Value) (s0 : Int32) (w : sk_W) : sk_D13 d 53 [some (.ref x0), o1, some (.int x2), some (.int x3), some (.int x4), o5] [.int s0] w =
  (sk_geti w x0 0 6).bind fun v1 =>
  if sk_cond .ne s0 v1 = true then
    if sk_cond .ne s0 x2 = true then
      if sk_cond .ne x3 (sj 0) = true then
        sk_D13 d 15 [some (.ref x0), o1, some (.int s0), some (.int (sj 0)), some (.int (x4 + (sj 1))), some (.int s0)] [] w
      else
        sk_D13 d 15 [some (.ref x0), o1, some (.int s0), some (.int (sj 1)), some (.int (x4 + (sj 1))), some (.int s0)] [] w
    else
      some (some (.int (sj (-1))), w)
  else
    some (some (.int x4), w) := sk_unf (sk_c d) sk_fields false sk_t13 [15, 53] 2000 rfl
/-- SkylineNester$Cuts.cut([I[I)I -/
noncomputable abbrev sk_D14 (d : Nat) : sk_K := sk_den (sk_c d) sk_fields false sk_t14
set_option maxRecDepth 100000 in
theorem sk_e14 (d : Nat) (x0 : Nat) (x1 : Nat) (x2 : Nat) (w : sk_W) : sk_c (d + 1) 14 [.ref x0, .ref x1, .ref x2] w =
  sk_D14 d 2 [some (.ref x0), some (.ref x1), some (.ref x2), some (.int (sj 0)), none, none, none] [] w := by
  have h : sk_c (d + 1) 14 [.ref x0, .ref x1, .ref x2] w = sk_D14 d 0 [some (.ref x0), some (.ref x1), some (.ref x2), none, none, none, none] [] w := rfl
  rw [h]
  exact sk_unf (sk_c d) sk_fields false sk_t14 [2, 16, 56] 2000 rfl
set_option maxRecDepth 100000 in
theorem sk_e14_2 (d : Nat) (x0 : Nat) (x1 : Nat) (x2 : Nat) (x3 : Int32) (o4 : Option Value) (o5 : Option Value) (o6 : Option Value) (w : sk_W) : sk_D14 d 2 [some (.ref x0), some (.ref x1), some (.ref x2), some (.int x3), o4, o5, o6] [] w =
  (sk_geti w x0 0 6).bind fun v1 =>
  if sk_cond .ge x3 v1 = true then
    if sk_isO w x0 0 = true then
    sk_ci (sk_c d 16 [.ref x0] w) fun v3 w2 =>
    some (some (.int v3), w2) else none
  else
    sk_D14 d 16 [some (.ref x0), some (.ref x1), some (.ref x2), some (.int x3), some (.int (sj (-1))), some (.int (sj 0)), o6] [] w := sk_unf (sk_c d) sk_fields false sk_t14 [2, 16, 56] 2000 rfl
set_option maxRecDepth 100000 in
theorem sk_e14_16 (d : Nat) (x0 : Nat) (x1 : Nat) (x2 : Nat) (x3 : Int32) (x4 : Int32) (x5 : Int32) (o6 : Option Value) (w : sk_W) : sk_D14 d 16 [some (.ref x0), some (.ref x1), some (.ref x2), some (.int x3), some (.int x4), some (.int x5), o6] [] w =
  (sk_geti w x0 0 6).bind fun v1 =>
  if sk_cond .ge x5 v1 = true then
    (sk_getr w x0 0 5).bind fun v2 =>
    (sk_ast w v2 x3 x4).bind fun w3 =>
    sk_D14 d 2 [some (.ref x0), some (.ref x1), some (.ref x2), some (.int (x3 + (sj 1))), some (.int x4), some (.int x5), o6] [] w3
  else
    (sk_getr w x0 0 4).bind fun v4 =>
    (sk_ald w v4 x5).bind fun v5 =>
    (sk_getr w x0 0 4).bind fun v6 =>
    (sk_ald w v6 x3).bind fun v7 =>
    if sk_cond .ne v5 v7 = true then
      sk_D14 d 56 [some (.ref x0), some (.ref x1), some (.ref x2), some (.int x3), some (.int x4), some (.int x5), o6] [.int (sj 0)] w
    else
      (sk_ald w x1 x5).bind fun v8 =>
      (sk_ald w x1 x3).bind fun v9 =>
      if sk_cond .gt v8 v9 = true then
        sk_D14 d 56 [some (.ref x0), some (.ref x1), some (.ref x2), some (.int x3), some (.int x4), some (.int x5), o6] [.int (sj 0)] w
      else
        sk_D14 d 56 [some (.ref x0), some (.ref x1), some (.ref x2), some (.int x3), some (.int x4), some (.int x5), o6] [.int (sj 1)] w := sk_unf (sk_c d) sk_fields false sk_t14 [2, 16, 56] 2000 rfl
set_option maxRecDepth 100000 in
theorem sk_e14_56 (d : Nat) (x0 : Nat) (x1 : Nat) (x2 : Nat) (x3 : Int32) (x4 : Int32) (x5 : Int32) (o6 : Option Value) (s0 : Int32) (w : sk_W) : sk_D14 d 56 [some (.ref x0), some (.ref x1), some (.ref x2), some (.int x3), some (.int x4), some (.int x5), o6] [.int s0] w =
  if sk_cond .eq s0 (sj 0) = true then
    sk_D14 d 16 [some (.ref x0), some (.ref x1), some (.ref x2), some (.int x3), some (.int x4), some (.int (x5 + (sj 1))), some (.int s0)] [] w
  else
    (sk_ald w x1 x5).bind fun v1 =>
    if sk_cond .le v1 x4 = true then
      sk_D14 d 16 [some (.ref x0), some (.ref x1), some (.ref x2), some (.int x3), some (.int x4), some (.int (x5 + (sj 1))), some (.int s0)] [] w
    else
      (sk_getr w x0 0 4).bind fun v2 =>
      (sk_ald w v2 x3).bind fun v3 =>
      (sk_ald w x1 x5).bind fun v4 =>
      if sk_isO w x0 0 = true then
      sk_ci (sk_c d 15 [.ref x0, .int v3, .int v4, .ref x1, .ref x2] w) fun v6 w5 =>
      if sk_cond .eq v6 (sj 0) = true then
        sk_D14 d 16 [some (.ref x0), some (.ref x1), some (.ref x2), some (.int x3), some (.int x4), some (.int (x5 + (sj 1))), some (.int s0)] [] w5
      else
        (sk_ald w5 x1 x5).bind fun v7 =>
        sk_D14 d 16 [some (.ref x0), some (.ref x1), some (.ref x2), some (.int x3), some (.int v7), some (.int (x5 + (sj 1))), some (.int s0)] [] w5 else none := sk_unf (sk_c d) sk_fields false sk_t14 [2, 16, 56] 2000 rfl
/-- SkylineNester$Cuts.isFree(II[I[I)Z -/
noncomputable abbrev sk_D15 (d : Nat) : sk_K := sk_den (sk_c d) sk_fields true sk_t15
set_option maxRecDepth 100000 in
theorem sk_e15 (d : Nat) (x0 : Nat) (x1 : Int32) (x2 : Int32) (x3 : Nat) (x4 : Nat) (w : sk_W) : sk_c (d + 1) 15 [.ref x0, .int x1, .int x2, .ref x3, .ref x4] w =
  sk_D15 d 3 [some (.ref x0), some (.int x1), some (.int x2), some (.ref x3), some (.ref x4), some (.int (sj 0))] [] w := by
  have h : sk_c (d + 1) 15 [.ref x0, .int x1, .int x2, .ref x3, .ref x4] w = sk_D15 d 0 [some (.ref x0), some (.int x1), some (.int x2), some (.ref x3), some (.ref x4), none] [] w := rfl
  rw [h]
  exact sk_unf (sk_c d) sk_fields true sk_t15 [3] 2000 rfl
set_option maxRecDepth 100000 in
theorem sk_e15_3 (d : Nat) (x0 : Nat) (x1 : Int32) (x2 : Int32) (x3 : Nat) (x4 : Nat) (x5 : Int32) (w : sk_W) : sk_D15 d 3 [some (.ref x0), some (.int x1), some (.int x2), some (.ref x3), some (.ref x4), some (.int x5)] [] w =
  (sk_geti w x0 0 6).bind fun v1 =>
  if sk_cond .ge x5 v1 = true then
    some (some (.int (sj 1)), w)
  else
    (sk_getr w x0 0 4).bind fun v2 =>
    (sk_ald w v2 x5).bind fun v3 =>
    if sk_cond .ne v3 x1 = true then
      sk_D15 d 3 [some (.ref x0), some (.int x1), some (.int x2), some (.ref x3), some (.ref x4), some (.int (x5 + (sj 1)))] [] w
    else
      (sk_ald w x3 x5).bind fun v4 =>
      if sk_cond .ge v4 x2 = true then
        sk_D15 d 3 [some (.ref x0), some (.int x1), some (.int x2), some (.ref x3), some (.ref x4), some (.int (x5 + (sj 1)))] [] w
      else
        (sk_ald w x4 x5).bind fun v5 =>
        if sk_cond .ge x2 v5 = true then
          sk_D15 d 3 [some (.ref x0), some (.int x1), some (.int x2), some (.ref x3), some (.ref x4), some (.int (x5 + (sj 1)))] [] w
        else
          some (some (.int (sj 0)), w) := sk_unf (sk_c d) sk_fields true sk_t15 [3] 2000 rfl
/-- SkylineNester$Cuts.numberPieces()I -/
noncomputable abbrev sk_D16 (d : Nat) : sk_K := sk_den (sk_c d) sk_fields false sk_t16
set_option maxRecDepth 100000 in
theorem sk_e16 (d : Nat) (x0 : Nat) (w : sk_W) : sk_c (d + 1) 16 [.ref x0] w =
  (sk_geti w x0 0 6).bind fun v1 =>
  sk_D16 d 9 [some (.ref x0), some (.int (sj 0)), some (.int (v1 - (sj 1))), none, none] [] w := by
  have h : sk_c (d + 1) 16 [.ref x0] w = sk_D16 d 0 [some (.ref x0), none, none, none, none] [] w := rfl
  rw [h]
  exact sk_unf (sk_c d) sk_fields false sk_t16 [9, 20] 2000 rfl
set_option maxRecDepth 100000 in
theorem sk_e16_9 (d : Nat) (x0 : Nat) (x1 : Int32) (x2 : Int32) (o3 : Option Value) (o4 : Option Value) (w : sk_W) : sk_D16 d 9 [some (.ref x0), some (.int x1), some (.int x2), o3, o4] [] w =
  if sk_cond .lt x2 (sj 0) = true then
    some (some (.int x1), w)
  else
    sk_D16 d 20 [some (.ref x0), some (.int x1), some (.int x2), some (.int x2), some (.int (x2 - (sj 1)))] [] w := sk_unf (sk_c d) sk_fields false sk_t16 [9, 20] 2000 rfl
set_option maxRecDepth 100000 in
theorem sk_e16_20 (d : Nat) (x0 : Nat) (x1 : Int32) (x2 : Int32) (x3 : Int32) (x4 : Int32) (w : sk_W) : sk_D16 d 20 [some (.ref x0), some (.int x1), some (.int x2), some (.int x3), some (.int x4)] [] w =
  if sk_cond .lt x4 (sj 0) = true then
    if sk_cond .ne x3 x2 = true then
      (sk_getr w x0 0 4).bind fun v1 =>
      (sk_ast w v1 x2 x3).bind fun w2 =>
      sk_D16 d 9 [some (.ref x0), some (.int x1), some (.int (x2 + (sj (-1)))), some (.int x3), some (.int x4)] [] w2
    else
      (sk_getr w x0 0 4).bind fun v3 =>
      (sk_ast w v3 x2 x3).bind fun w4 =>
      sk_D16 d 9 [some (.ref x0), some (.int (x1 + (sj 1))), some (.int (x2 + (sj (-1)))), some (.int x3), some (.int x4)] [] w4
  else
    (sk_getr w x0 0 4).bind fun v5 =>
    (sk_ald w v5 x4).bind fun v6 =>
    (sk_getr w x0 0 4).bind fun v7 =>
    (sk_ald w v7 x2).bind fun v8 =>
    if sk_cond .ne v6 v8 = true then
      sk_D16 d 20 [some (.ref x0), some (.int x1), some (.int x2), some (.int x3), some (.int (x4 + (sj (-1))))] [] w
    else
      (sk_getr w x0 0 5).bind fun v9 =>
      (sk_ald w v9 x4).bind fun v10 =>
      (sk_getr w x0 0 5).bind fun v11 =>
      (sk_ald w v11 x2).bind fun v12 =>
      if sk_cond .ne v10 v12 = true then
        sk_D16 d 20 [some (.ref x0), some (.int x1), some (.int x2), some (.int x3), some (.int (x4 + (sj (-1))))] [] w
      else
        sk_D16 d 20 [some (.ref x0), some (.int x1), some (.int x2), some (.int x4), some (.int (x4 + (sj (-1))))] [] w := sk_unf (sk_c d) sk_fields false sk_t16 [9, 20] 2000 rfl
/-- SkylineNester$Layer.<init>()V -/
noncomputable abbrev sk_D17 (d : Nat) : sk_K := sk_den (sk_c d) sk_fields false sk_t17
set_option maxRecDepth 100000 in
theorem sk_e17 (d : Nat) (x0 : Nat) (w : sk_W) : sk_c (d + 1) 17 [.ref x0] w =
  if sk_isO (w ++ [.inr (.inr (7, sk_fields 7))]) (List.length w) 7 = true then
  sk_cv (sk_c d 82 [.ref (List.length w)] (w ++ [.inr (.inr (7, sk_fields 7))])) fun w1 =>
  (sk_put w1 x0 1 0 (.ref (List.length w))).bind fun w2 =>
  some (none, w2) else none := by
  have h : sk_c (d + 1) 17 [.ref x0] w = sk_D17 d 0 [some (.ref x0)] [] w := rfl
  rw [h]
  exact sk_unf (sk_c d) sk_fields false sk_t17 [] 2000 rfl
/-- SkylineNester$Layer.runAll(LSkylineNester$Plan;)I -/
noncomputable abbrev sk_D18 (d : Nat) : sk_K := sk_den (sk_c d) sk_fields false sk_t18
set_option maxRecDepth 100000 in
theorem sk_e18 (d : Nat) (x0 : Nat) (x1 : Nat) (w : sk_W) : sk_c (d + 1) 18 [.ref x0, .ref x1] w =
  if sk_isO w x1 3 = true then
  sk_cv (sk_c d 38 [.ref x1] w) fun w1 =>
  sk_D18 d 8 [some (.ref x0), some (.ref x1), some (.int (sj 0)), some (.int (sj 0)), none] [] w1 else none := by
  have h : sk_c (d + 1) 18 [.ref x0, .ref x1] w = sk_D18 d 0 [some (.ref x0), some (.ref x1), none, none, none] [] w := rfl
  rw [h]
  exact sk_unf (sk_c d) sk_fields false sk_t18 [8] 2000 rfl
set_option maxRecDepth 100000 in
theorem sk_e18_8 (d : Nat) (x0 : Nat) (x1 : Nat) (x2 : Int32) (x3 : Int32) (o4 : Option Value) (w : sk_W) : sk_D18 d 8 [some (.ref x0), some (.ref x1), some (.int x2), some (.int x3), o4] [] w =
  (sk_geti w x1 3 6).bind fun v1 =>
  if sk_cond .ge x3 v1 = true then
    some (some (.int x2), w)
  else
    (sk_getr w x1 3 0).bind fun v2 =>
    (sk_getr w x1 3 1).bind fun v3 =>
    (sk_ald w v3 x3).bind fun v4 =>
    (sk_aldr w v2 v4).bind fun v5 =>
    if sk_isO w x0 1 = true then
    sk_cv (sk_c d 20 [.ref x0, .ref x1, .ref v5] w) fun w6 =>
    (sk_getr w6 x0 1 0).bind fun v7 =>
    (sk_geti w6 v7 7 0).bind fun v8 =>
    if sk_cond .eq v8 (sj 0) = true then
      sk_D18 d 8 [some (.ref x0), some (.ref x1), some (.int x2), some (.int (x3 + (sj 1))), some (.ref v5)] [] w6
    else
      if sk_isO w6 x0 1 = true then
      sk_cv (sk_c d 23 [.ref x0, .ref x1, .ref v5] w6) fun w9 =>
      sk_D18 d 8 [some (.ref x0), some (.ref x1), some (.int (x2 + (sj 1))), some (.int (x3 + (sj 1))), some (.ref v5)] [] w9 else none else none := sk_unf (sk_c d) sk_fields false sk_t18 [8] 2000 rfl
/-- SkylineNester$Layer.layOne(LSkylineNester$Plan;LSkylineNester$Part;)Z -/
noncomputable abbrev sk_D19 (d : Nat) : sk_K := sk_den (sk_c d) sk_fields true sk_t19
set_option maxRecDepth 100000 in
theorem sk_e19 (d : Nat) (x0 : Nat) (x1 : Nat) (x2 : Nat) (w : sk_W) : sk_c (d + 1) 19 [.ref x0, .ref x1, .ref x2] w =
  if sk_isO w x0 1 = true then
  sk_cv (sk_c d 20 [.ref x0, .ref x1, .ref x2] w) fun w1 =>
  (sk_getr w1 x0 1 0).bind fun v2 =>
  (sk_geti w1 v2 7 0).bind fun v3 =>
  if sk_cond .eq v3 (sj 0) = true then
    (sk_getr w1 x0 1 0).bind fun v4 =>
    (sk_geti w1 v4 7 0).bind fun v5 =>
    if v5 = 0 ∨ v5 = 1 then some (some (.int v5), w1) else none
  else
    if sk_isO w1 x0 1 = true then
    sk_cv (sk_c d 23 [.ref x0, .ref x1, .ref x2] w1) fun w6 =>
    (sk_getr w6 x0 1 0).bind fun v7 =>
    (sk_geti w6 v7 7 0).bind fun v8 =>
    if v8 = 0 ∨ v8 = 1 then some (some (.int v8), w6) else none else none else none := by
  have h : sk_c (d + 1) 19 [.ref x0, .ref x1, .ref x2] w = sk_D19 d 0 [some (.ref x0), some (.ref x1), some (.ref x2)] [] w := rfl
  rw [h]
  exact sk_unf (sk_c d) sk_fields true sk_t19 [] 2000 rfl
/-- SkylineNester$Layer.find(LSkylineNester$Plan;LSkylineNester$Part;)V -/
noncomputable abbrev sk_D20 (d : Nat) : sk_K := sk_den (sk_c d) sk_fields false sk_t20
set_option maxRecDepth 100000 in
theorem sk_e20 (d : Nat) (x0 : Nat) (x1 : Nat) (x2 : Nat) (w : sk_W) : sk_c (d + 1) 20 [.ref x0, .ref x1, .ref x2] w =
  (sk_getr w x0 1 0).bind fun v1 =>
  (sk_put w v1 7 0 (.int (sj 0))).bind fun w2 =>
  (sk_geti w2 x1 3 8).bind fun v3 =>
  if sk_cond .eq v3 (sj 0) = true then
    (sk_getr w2 x0 1 0).bind fun v4 =>
    (sk_geti w2 v4 7 0).bind fun v5 =>
    if sk_cond .ne v5 (sj 0) = true then
      some (none, w2)
    else
      if sk_isO w2 x0 1 = true then
      sk_cv (sk_c d 22 [.ref x0, .ref x1, .ref x2] w2) fun w6 =>
      some (none, w6) else none
  else
    if sk_isO w2 x0 1 = true then
    sk_cv (sk_c d 21 [.ref x0, .ref x1, .ref x2] w2) fun w7 =>
    (sk_getr w7 x0 1 0).bind fun v8 =>
    (sk_geti w7 v8 7 0).bind fun v9 =>
    if sk_cond .ne v9 (sj 0) = true then
      some (none, w7)
    else
      if sk_isO w7 x0 1 = true then
      sk_cv (sk_c d 22 [.ref x0, .ref x1, .ref x2] w7) fun w10 =>
      some (none, w10) else none else none := by
  have h : sk_c (d + 1) 20 [.ref x0, .ref x1, .ref x2] w = sk_D20 d 0 [some (.ref x0), some (.ref x1), some (.ref x2)] [] w := rfl
  rw [h]
  exact sk_unf (sk_c d) sk_fields false sk_t20 [] 2000 rfl
/-- SkylineNester$Layer.findInWaste(LSkylineNester$Plan;LSkylineNester$Part;)V -/
noncomputable abbrev sk_D21 (d : Nat) : sk_K := sk_den (sk_c d) sk_fields false sk_t21
set_option maxRecDepth 100000 in
theorem sk_e21 (d : Nat) (x0 : Nat) (x1 : Nat) (x2 : Nat) (w : sk_W) : sk_c (d + 1) 21 [.ref x0, .ref x1, .ref x2] w =
  (sk_getr w x1 3 3).bind fun v1 =>
  (sk_geti w x1 3 4).bind fun v2 =>
  if sk_isO w x2 2 = true then
  sk_ci (sk_c d 30 [.ref x2, .int v2] w) fun v4 w3 =>
  sk_D21 d 18 [some (.ref x0), some (.ref x1), some (.ref x2), some (.ref v1), some (.int v4), some (.int (sj 0)), none, none, none, none, none] [] w3 else none := by
  have h : sk_c (d + 1) 21 [.ref x0, .ref x1, .ref x2] w = sk_D21 d 0 [some (.ref x0), some (.ref x1), some (.ref x2), none, none, none, none, none, none, none, none] [] w := rfl
  rw [h]
  exact sk_unf (sk_c d) sk_fields false sk_t21 [18, 30, 48, 163] 2000 rfl
set_option maxRecDepth 100000 in
theorem sk_e21_18 (d : Nat) (x0 : Nat) (o1 : Option Value) (x2 : Nat) (x3 : Nat) (x4 : Int32) (x5 : Int32) (o6 : Option Value) (o7 : Option Value) (o8 : Option Value) (o9 : Option Value) (o10 : Option Value) (w : sk_W) : sk_D21 d 18 [some (.ref x0), o1, some (.ref x2), some (.ref x3), some (.int x4), some (.int x5), o6, o7, o8, o9, o10] [] w =
  (sk_geti w x3 9 4).bind fun v1 =>
  if sk_cond .ge x5 v1 = true then
    some (none, w)
  else
    sk_D21 d 30 [some (.ref x0), o1, some (.ref x2), some (.ref x3), some (.int x4), some (.int x5), some (.int (sj 0)), o7, o8, o9, o10] [] w := sk_unf (sk_c d) sk_fields false sk_t21 [18, 30, 48, 163] 2000 rfl
set_option maxRecDepth 100000 in
theorem sk_e21_30 (d : Nat) (x0 : Nat) (o1 : Option Value) (x2 : Nat) (x3 : Nat) (x4 : Int32) (x5 : Int32) (x6 : Int32) (o7 : Option Value) (o8 : Option Value) (o9 : Option Value) (o10 : Option Value) (w : sk_W) : sk_D21 d 30 [some (.ref x0), o1, some (.ref x2), some (.ref x3), some (.int x4), some (.int x5), some (.int x6), o7, o8, o9, o10] [] w =
  if sk_cond .ge x6 x4 = true then
    sk_D21 d 18 [some (.ref x0), o1, some (.ref x2), some (.ref x3), some (.int x4), some (.int (x5 + (sj 1))), some (.int x6), o7, o8, o9, o10] [] w
  else
    if sk_cond .ne x6 (sj 1) = true then
      sk_D21 d 48 [some (.ref x0), o1, some (.ref x2), some (.ref x3), some (.int x4), some (.int x5), some (.int x6), o7, o8, o9, o10] [.int (sj 0)] w
    else
      sk_D21 d 48 [some (.ref x0), o1, some (.ref x2), some (.ref x3), some (.int x4), some (.int x5), some (.int x6), o7, o8, o9, o10] [.int (sj 1)] w := sk_unf (sk_c d) sk_fields false sk_t21 [18, 30, 48, 163] 2000 rfl
set_option maxRecDepth 100000 in
theorem sk_e21_48 (d : Nat) (x0 : Nat) (o1 : Option Value) (x2 : Nat) (x3 : Nat) (x4 : Int32) (x5 : Int32) (x6 : Int32) (o7 : Option Value) (o8 : Option Value) (o9 : Option Value) (o10 : Option Value) (s0 : Int32) (w : sk_W) : sk_D21 d 48 [some (.ref x0), o1, some (.ref x2), some (.ref x3), some (.int x4), some (.int x5), some (.int x6), o7, o8, o9, o10] [.int s0] w =
  if sk_isO w x2 2 = true then
  sk_ci (sk_c d 31 [.ref x2, .int s0] w) fun v2 w1 =>
  if sk_isO w1 x2 2 = true then
  sk_ci (sk_c d 32 [.ref x2, .int s0] w1) fun v4 w3 =>
  (sk_getr w3 x3 9 2).bind fun v5 =>
  (sk_ald w3 v5 x5).bind fun v6 =>
  if sk_cond .gt v2 v6 = true then
    sk_D21 d 30 [some (.ref x0), o1, some (.ref x2), some (.ref x3), some (.int x4), some (.int x5), some (.int (x6 + (sj 1))), some (.int s0), some (.int v2), some (.int v4), o10] [] w3
  else
    (sk_getr w3 x3 9 3).bind fun v7 =>
    (sk_ald w3 v7 x5).bind fun v8 =>
    if sk_cond .le v4 v8 = true then
      (sk_getr w3 x3 9 0).bind fun v9 =>
      (sk_ald w3 v9 x5).bind fun v10 =>
      (sk_getr w3 x3 9 1).bind fun v11 =>
      (sk_ald w3 v11 x5).bind fun v12 =>
      if sk_isO w3 x2 2 = true then
      sk_ci (sk_c d 33 [.ref x2, .int v10, .int v12, .int (sj 0)] w3) fun v14 w13 =>
      if sk_cond .ne v14 (sj 0) = true then
        (sk_getr w13 x3 9 2).bind fun v15 =>
        (sk_ald w13 v15 x5).bind fun v16 =>
        (sk_getr w13 x3 9 3).bind fun v17 =>
        (sk_ald w13 v17 x5).bind fun v18 =>
        (sk_getr w13 x0 1 0).bind fun v19 =>
        (sk_geti w13 v19 7 0).bind fun v20 =>
        if sk_cond .eq v20 (sj 0) = true then
          sk_D21 d 163 [some (.ref x0), o1, some (.ref x2), some (.ref x3), some (.int x4), some (.int x5), some (.int x6), some (.int s0), some (.int v2), some (.int v4), some (.int ((v16 * v18) - (v2 * v4)))] [] w13
        else
          (sk_getr w13 x0 1 0).bind fun v21 =>
          (sk_geti w13 v21 7 5).bind fun v22 =>
          if sk_cond .ge ((v16 * v18) - (v2 * v4)) v22 = true then
            sk_D21 d 30 [some (.ref x0), o1, some (.ref x2), some (.ref x3), some (.int x4), some (.int x5), some (.int (x6 + (sj 1))), some (.int s0), some (.int v2), some (.int v4), some (.int ((v16 * v18) - (v2 * v4)))] [] w13
          else
            sk_D21 d 163 [some (.ref x0), o1, some (.ref x2), some (.ref x3), some (.int x4), some (.int x5), some (.int x6), some (.int s0), some (.int v2), some (.int v4), some (.int ((v16 * v18) - (v2 * v4)))] [] w13
      else
        sk_D21 d 30 [some (.ref x0), o1, some (.ref x2), some (.ref x3), some (.int x4), some (.int x5), some (.int (x6 + (sj 1))), some (.int s0), some (.int v2), some (.int v4), o10] [] w13 else none
    else
      sk_D21 d 30 [some (.ref x0), o1, some (.ref x2), some (.ref x3), some (.int x4), some (.int x5), some (.int (x6 + (sj 1))), some (.int s0), some (.int v2), some (.int v4), o10] [] w3 else none else none := sk_unf (sk_c d) sk_fields false sk_t21 [18, 30, 48, 163] 2000 rfl
set_option maxRecDepth 100000 in
theorem sk_e21_163 (d : Nat) (x0 : Nat) (o1 : Option Value) (x2 : Nat) (x3 : Nat) (x4 : Int32) (x5 : Int32) (x6 : Int32) (x7 : Int32) (o8 : Option Value) (o9 : Option Value) (x10 : Int32) (w : sk_W) : sk_D21 d 163 [some (.ref x0), o1, some (.ref x2), some (.ref x3), some (.int x4), some (.int x5), some (.int x6), some (.int x7), o8, o9, some (.int x10)] [] w =
  (sk_getr w x0 1 0).bind fun v1 =>
  (sk_getr w x3 9 0).bind fun v2 =>
  (sk_ald w v2 x5).bind fun v3 =>
  (sk_getr w x3 9 1).bind fun v4 =>
  (sk_ald w v4 x5).bind fun v5 =>
  if sk_isO w v1 7 = true then
  sk_cv (sk_c d 83 [.ref v1, .int v3, .int v5, .int x7, .int x5, .int x10] w) fun w6 =>
  sk_D21 d 30 [some (.ref x0), o1, some (.ref x2), some (.ref x3), some (.int x4), some (.int x5), some (.int (x6 + (sj 1))), some (.int x7), o8, o9, some (.int x10)] [] w6 else none := sk_unf (sk_c d) sk_fields false sk_t21 [18, 30, 48, 163] 2000 rfl
/-- SkylineNester$Layer.findOnSkyline(LSkylineNester$Plan;LSkylineNester$Part;)V -/
noncomputable abbrev sk_D22 (d : Nat) : sk_K := sk_den (sk_c d) sk_fields false sk_t22
set_option maxRecDepth 100000 in
theorem sk_e22 (d : Nat) (x0 : Nat) (x1 : Nat) (x2 : Nat) (w : sk_W) : sk_c (d + 1) 22 [.ref x0, .ref x1, .ref x2] w =
  (sk_geti w x1 3 4).bind fun v1 =>
  if sk_isO w x2 2 = true then
  sk_ci (sk_c d 30 [.ref x2, .int v1] w) fun v3 w2 =>
  sk_D22 d 12 [some (.ref x0), some (.ref x1), some (.ref x2), some (.int v3), some (.int (sj 0)), none, none, none, none, none, none, none, none] [] w2 else none := by
  have h : sk_c (d + 1) 22 [.ref x0, .ref x1, .ref x2] w = sk_D22 d 0 [some (.ref x0), some (.ref x1), some (.ref x2), none, none, none, none, none, none, none, none, none, none] [] w := rfl
  rw [h]
  exact sk_unf (sk_c d) sk_fields false sk_t22 [12, 24, 41, 181] 2000 rfl
set_option maxRecDepth 100000 in
theorem sk_e22_12 (d : Nat) (x0 : Nat) (x1 : Nat) (x2 : Nat) (x3 : Int32) (x4 : Int32) (o5 : Option Value) (o6 : Option Value) (o7 : Option Value) (o8 : Option Value) (o9 : Option Value) (o10 : Option Value) (o11 : Option Value) (o12 : Option Value) (w : sk_W) : sk_D22 d 12 [some (.ref x0), some (.ref x1), some (.ref x2), some (.int x3), some (.int x4), o5, o6, o7, o8, o9, o10, o11, o12] [] w =
  (sk_geti w x1 3 4).bind fun v1 =>
  if sk_cond .ge x4 v1 = true then
    some (none, w)
  else
    sk_D22 d 24 [some (.ref x0), some (.ref x1), some (.ref x2), some (.int x3), some (.int x4), some (.int (sj 0)), o6, o7, o8, o9, o10, o11, o12] [] w := sk_unf (sk_c d) sk_fields false sk_t22 [12, 24, 41, 181] 2000 rfl
set_option maxRecDepth 100000 in
theorem sk_e22_24 (d : Nat) (x0 : Nat) (x1 : Nat) (x2 : Nat) (x3 : Int32) (x4 : Int32) (x5 : Int32) (o6 : Option Value) (o7 : Option Value) (o8 : Option Value) (o9 : Option Value) (o10 : Option Value) (o11 : Option Value) (o12 : Option Value) (w : sk_W) : sk_D22 d 24 [some (.ref x0), some (.ref x1), some (.ref x2), some (.int x3), some (.int x4), some (.int x5), o6, o7, o8, o9, o10, o11, o12] [] w =
  if sk_cond .ge x5 x3 = true then
    sk_D22 d 12 [some (.ref x0), some (.ref x1), some (.ref x2), some (.int x3), some (.int (x4 + (sj 1))), some (.int x5), o6, o7, o8, o9, o10, o11, o12] [] w
  else
    if sk_cond .ne x5 (sj 1) = true then
      sk_D22 d 41 [some (.ref x0), some (.ref x1), some (.ref x2), some (.int x3), some (.int x4), some (.int x5), o6, o7, o8, o9, o10, o11, o12] [.int (sj 0)] w
    else
      sk_D22 d 41 [some (.ref x0), some (.ref x1), some (.ref x2), some (.int x3), some (.int x4), some (.int x5), o6, o7, o8, o9, o10, o11, o12] [.int (sj 1)] w := sk_unf (sk_c d) sk_fields false sk_t22 [12, 24, 41, 181] 2000 rfl
set_option maxRecDepth 100000 in
theorem sk_e22_41 (d : Nat) (x0 : Nat) (x1 : Nat) (x2 : Nat) (x3 : Int32) (x4 : Int32) (x5 : Int32) (o6 : Option Value) (o7 : Option Value) (o8 : Option Value) (o9 : Option Value) (o10 : Option Value) (o11 : Option Value) (o12 : Option Value) (s0 : Int32) (w : sk_W) : sk_D22 d 41 [some (.ref x0), some (.ref x1), some (.ref x2), some (.int x3), some (.int x4), some (.int x5), o6, o7, o8, o9, o10, o11, o12] [.int s0] w =
  if sk_isO w x2 2 = true then
  sk_ci (sk_c d 31 [.ref x2, .int s0] w) fun v2 w1 =>
  if sk_isO w1 x2 2 = true then
  sk_ci (sk_c d 32 [.ref x2, .int s0] w1) fun v4 w3 =>
  (sk_geti w3 x1 3 4).bind fun v5 =>
  if sk_cond .le (x4 + v2) v5 = true then
    if sk_isO w3 x1 3 = true then
    sk_ci (sk_c d 52 [.ref x1, .int x4, .int v2, .int v4] w3) fun v7 w6 =>
    if sk_isO w6 x1 3 = true then
    sk_ci (sk_c d 53 [.ref x1, .int x4, .int v7, .int v2] w6) fun v9 w8 =>
    if sk_isO w8 x2 2 = true then
    sk_ci (sk_c d 33 [.ref x2, .int x4, .int v7, .int v9] w8) fun v11 w10 =>
    if sk_cond .ne v11 (sj 0) = true then
      if sk_isO w10 x1 3 = true then
      sk_ci (sk_c d 55 [.ref x1, .int x4, .int v7, .int v2, .int v4, .int v9] w10) fun v13 w12 =>
      (sk_getr w12 x0 1 0).bind fun v14 =>
      (sk_geti w12 v14 7 0).bind fun v15 =>
      if sk_cond .eq v15 (sj 0) = true then
        sk_D22 d 181 [some (.ref x0), some (.ref x1), some (.ref x2), some (.int x3), some (.int x4), some (.int x5), some (.int s0), some (.int v2), some (.int v4), some (.int v7), some (.int v9), some (.int v13), o12] [.int (sj 1)] w12
      else
        (sk_getr w12 x0 1 0).bind fun v16 =>
        (sk_geti w12 v16 7 5).bind fun v17 =>
        if sk_cond .lt v13 v17 = true then
          sk_D22 d 181 [some (.ref x0), some (.ref x1), some (.ref x2), some (.int x3), some (.int x4), some (.int x5), some (.int s0), some (.int v2), some (.int v4), some (.int v7), some (.int v9), some (.int v13), o12] [.int (sj 1)] w12
        else
          (sk_getr w12 x0 1 0).bind fun v18 =>
          (sk_geti w12 v18 7 5).bind fun v19 =>
          if sk_cond .ne v13 v19 = true then
            sk_D22 d 181 [some (.ref x0), some (.ref x1), some (.ref x2), some (.int x3), some (.int x4), some (.int x5), some (.int s0), some (.int v2), some (.int v4), some (.int v7), some (.int v9), some (.int v13), o12] [.int (sj 0)] w12
          else
            (sk_getr w12 x0 1 0).bind fun v20 =>
            (sk_geti w12 v20 7 2).bind fun v21 =>
            if sk_cond .ge v7 v21 = true then
              sk_D22 d 181 [some (.ref x0), some (.ref x1), some (.ref x2), some (.int x3), some (.int x4), some (.int x5), some (.int s0), some (.int v2), some (.int v4), some (.int v7), some (.int v9), some (.int v13), o12] [.int (sj 0)] w12
            else
              sk_D22 d 181 [some (.ref x0), some (.ref x1), some (.ref x2), some (.int x3), some (.int x4), some (.int x5), some (.int s0), some (.int v2), some (.int v4), some (.int v7), some (.int v9), some (.int v13), o12] [.int (sj 1)] w12 else none
    else
      sk_D22 d 24 [some (.ref x0), some (.ref x1), some (.ref x2), some (.int x3), some (.int x4), some (.int (x5 + (sj 1))), some (.int s0), some (.int v2), some (.int v4), some (.int v7), some (.int v9), o11, o12] [] w10 else none else none else none
  else
    sk_D22 d 24 [some (.ref x0), some (.ref x1), some (.ref x2), some (.int x3), some (.int x4), some (.int (x5 + (sj 1))), some (.int s0), some (.int v2), some (.int v4), o9, o10, o11, o12] [] w3 else none else none := sk_unf (sk_c d) sk_fields false sk_t22 [12, 24, 41, 181] 2000 rfl
set_option maxRecDepth 100000 in
theorem sk_e22_181 (d : Nat) (x0 : Nat) (x1 : Nat) (x2 : Nat) (x3 : Int32) (x4 : Int32) (x5 : Int32) (x6 : Int32) (o7 : Option Value) (o8 : Option Value) (x9 : Int32) (o10 : Option Value) (x11 : Int32) (o12 : Option Value) (s0 : Int32) (w : sk_W) : sk_D22 d 181 [some (.ref x0), some (.ref x1), some (.ref x2), some (.int x3), some (.int x4), some (.int x5), some (.int x6), o7, o8, some (.int x9), o10, some (.int x11), o12] [.int s0] w =
  if sk_cond .eq s0 (sj 0) = true then
    sk_D22 d 24 [some (.ref x0), some (.ref x1), some (.ref x2), some (.int x3), some (.int x4), some (.int (x5 + (sj 1))), some (.int x6), o7, o8, some (.int x9), o10, some (.int x11), some (.int s0)] [] w
  else
    (sk_getr w x0 1 0).bind fun v1 =>
    if sk_isO w v1 7 = true then
    sk_cv (sk_c d 83 [.ref v1, .int x4, .int x9, .int x6, .int (sj (-1)), .int x11] w) fun w2 =>
    sk_D22 d 24 [some (.ref x0), some (.ref x1), some (.ref x2), some (.int x3), some (.int x4), some (.int (x5 + (sj 1))), some (.int x6), o7, o8, some (.int x9), o10, some (.int x11), some (.int s0)] [] w2 else none := sk_unf (sk_c d) sk_fields false sk_t22 [12, 24, 41, 181] 2000 rfl
/-- SkylineNester$Layer.settle(LSkylineNester$Plan;LSkylineNester$Part;)V -/
noncomputable abbrev sk_D23 (d : Nat) : sk_K := sk_den (sk_c d) sk_fields false sk_t23
set_option maxRecDepth 100000 in
theorem sk_e23 (d : Nat) (x0 : Nat) (x1 : Nat) (x2 : Nat) (w : sk_W) : sk_c (d + 1) 23 [.ref x0, .ref x1, .ref x2] w =
  (sk_getr w x0 1 0).bind fun v1 =>
  (sk_geti w v1 7 4).bind fun v2 =>
  if sk_cond .eq v2 (sj (-1)) = true then
    sk_D23 d 16 [some (.ref x0), some (.ref x1), some (.ref x2), none] [.int (sj 0)] w
  else
    sk_D23 d 16 [some (.ref x0), some (.ref x1), some (.ref x2), none] [.int (sj 1)] w := by
  have h : sk_c (d + 1) 23 [.ref x0, .ref x1, .ref x2] w = sk_D23 d 0 [some (.ref x0), some (.ref x1), some (.ref x2), none] [] w := rfl
  rw [h]
  exact sk_unf (sk_c d) sk_fields false sk_t23 [16, 48] 2000 rfl
set_option maxRecDepth 100000 in
theorem sk_e23_16 (d : Nat) (x0 : Nat) (x1 : Nat) (x2 : Nat) (s0 : Int32) (w : sk_W) : sk_D23 d 16 [some (.ref x0), some (.ref x1), some (.ref x2), none] [.int s0] w =
  (sk_getr w x0 1 0).bind fun v1 =>
  (sk_geti w v1 7 1).bind fun v2 =>
  (sk_getr w x0 1 0).bind fun v3 =>
  (sk_geti w v3 7 2).bind fun v4 =>
  (sk_getr w x0 1 0).bind fun v5 =>
  (sk_geti w v5 7 3).bind fun v6 =>
  if sk_cond .eq s0 (sj 0) = true then
    sk_D23 d 48 [some (.ref x0), some (.ref x1), some (.ref x2), some (.int s0)] [.int (sj 2), .int v6, .int v4, .int v2, .ref x2] w
  else
    sk_D23 d 48 [some (.ref x0), some (.ref x1), some (.ref x2), some (.int s0)] [.int (sj 3), .int v6, .int v4, .int v2, .ref x2] w := sk_unf (sk_c d) sk_fields false sk_t23 [16, 48] 2000 rfl
set_option maxRecDepth 100000 in
theorem sk_e23_48 (d : Nat) (x0 : Nat) (x1 : Nat) (x2 : Nat) (x3 : Int32) (s0 : Nat) (s1 : Int32) (s2 : Int32) (s3 : Int32) (s4 : Int32) (w : sk_W) : sk_D23 d 48 [some (.ref x0), some (.ref x1), some (.ref x2), some (.int x3)] [.int s4, .int s3, .int s2, .int s1, .ref s0] w =
  if sk_isO w s0 2 = true then
  sk_cv (sk_c d 29 [.ref s0, .int s1, .int s2, .int s3, .int s4] w) fun w1 =>
  if sk_cond .eq x3 (sj 0) = true then
    (sk_geti w1 x2 2 5).bind fun v2 =>
    (sk_geti w1 x2 2 6).bind fun v3 =>
    (sk_geti w1 x2 2 8).bind fun v4 =>
    (sk_geti w1 x2 2 9).bind fun v5 =>
    if sk_isO w1 x1 3 = true then
    sk_cv (sk_c d 56 [.ref x1, .int v2, .int v3, .int v4, .int v5] w1) fun w6 =>
    some (none, w6) else none
  else
    (sk_getr w1 x1 3 3).bind fun v7 =>
    (sk_getr w1 x0 1 0).bind fun v8 =>
    (sk_geti w1 v8 7 4).bind fun v9 =>
    (sk_geti w1 x2 2 8).bind fun v10 =>
    (sk_geti w1 x2 2 9).bind fun v11 =>
    if sk_isO w1 v7 9 = true then
    sk_cv (sk_c d 98 [.ref v7, .int v9, .int v10, .int v11] w1) fun w12 =>
    some (none, w12) else none else none := sk_unf (sk_c d) sk_fields false sk_t23 [16, 48] 2000 rfl
/-- SkylineNester$Part.<init>()V -/
noncomputable abbrev sk_D24 (d : Nat) : sk_K := sk_den (sk_c d) sk_fields false sk_t24
set_option maxRecDepth 100000 in
theorem sk_e24 (d : Nat) (x0 : Nat) (w : sk_W) : sk_c (d + 1) 24 [.ref x0] w =
  some (none, w) := by
  have h : sk_c (d + 1) 24 [.ref x0] w = sk_D24 d 0 [some (.ref x0)] [] w := rfl
  rw [h]
  exact sk_unf (sk_c d) sk_fields false sk_t24 [] 2000 rfl
/-- SkylineNester$Part.begin(IIII)V -/
noncomputable abbrev sk_D25 (d : Nat) : sk_K := sk_den (sk_c d) sk_fields false sk_t25
set_option maxRecDepth 100000 in
theorem sk_e25 (d : Nat) (x0 : Nat) (x1 : Int32) (x2 : Int32) (x3 : Int32) (x4 : Int32) (w : sk_W) : sk_c (d + 1) 25 [.ref x0, .int x1, .int x2, .int x3, .int x4] w =
  (sk_put w x0 2 0 (.int x1)).bind fun w1 =>
  (sk_put w1 x0 2 1 (.int x2)).bind fun w2 =>
  (sk_put w2 x0 2 2 (.int x3)).bind fun w3 =>
  (sk_put w3 x0 2 3 (.int x4)).bind fun w4 =>
  some (none, w4) := by
  have h : sk_c (d + 1) 25 [.ref x0, .int x1, .int x2, .int x3, .int x4] w = sk_D25 d 0 [some (.ref x0), some (.int x1), some (.int x2), some (.int x3), some (.int x4)] [] w := rfl
  rw [h]
  exact sk_unf (sk_c d) sk_fields false sk_t25 [] 2000 rfl
/-- SkylineNester$Part.becomeLike(LSkylineNester$Part;)V -/
noncomputable abbrev sk_D26 (d : Nat) : sk_K := sk_den (sk_c d) sk_fields false sk_t26
set_option maxRecDepth 100000 in
theorem sk_e26 (d : Nat) (x0 : Nat) (x1 : Nat) (w : sk_W) : sk_c (d + 1) 26 [.ref x0, .ref x1] w =
  (sk_geti w x1 2 0).bind fun v1 =>
  (sk_put w x0 2 0 (.int v1)).bind fun w2 =>
  (sk_geti w2 x1 2 1).bind fun v3 =>
  (sk_put w2 x0 2 1 (.int v3)).bind fun w4 =>
  (sk_geti w4 x1 2 2).bind fun v5 =>
  (sk_put w4 x0 2 2 (.int v5)).bind fun w6 =>
  (sk_geti w6 x1 2 3).bind fun v7 =>
  (sk_put w6 x0 2 3 (.int v7)).bind fun w8 =>
  (sk_geti w8 x1 2 4).bind fun v9 =>
  (sk_put w8 x0 2 4 (.int v9)).bind fun w10 =>
  (sk_geti w10 x1 2 5).bind fun v11 =>
  (sk_put w10 x0 2 5 (.int v11)).bind fun w12 =>
  (sk_geti w12 x1 2 6).bind fun v13 =>
  (sk_put w12 x0 2 6 (.int v13)).bind fun w14 =>
  (sk_geti w14 x1 2 7).bind fun v15 =>
  if v15 = 0 ∨ v15 = 1 then
  (sk_put w14 x0 2 7 (.int v15)).bind fun w16 =>
  (sk_geti w16 x1 2 8).bind fun v17 =>
  (sk_put w16 x0 2 8 (.int v17)).bind fun w18 =>
  (sk_geti w18 x1 2 9).bind fun v19 =>
  (sk_put w18 x0 2 9 (.int v19)).bind fun w20 =>
  some (none, w20) else none := by
  have h : sk_c (d + 1) 26 [.ref x0, .ref x1] w = sk_D26 d 0 [some (.ref x0), some (.ref x1)] [] w := rfl
  rw [h]
  exact sk_unf (sk_c d) sk_fields false sk_t26 [] 2000 rfl
/-- SkylineNester$Part.lies()Z -/
noncomputable abbrev sk_D27 (d : Nat) : sk_K := sk_den (sk_c d) sk_fields true sk_t27
set_option maxRecDepth 100000 in
theorem sk_e27 (d : Nat) (x0 : Nat) (w : sk_W) : sk_c (d + 1) 27 [.ref x0] w =
  (sk_geti w x0 2 4).bind fun v1 =>
  if sk_cond .eq v1 (sj 0) = true then
    some (some (.int (sj 0)), w)
  else
    some (some (.int (sj 1)), w) := by
  have h : sk_c (d + 1) 27 [.ref x0] w = sk_D27 d 0 [some (.ref x0)] [] w := rfl
  rw [h]
  exact sk_unf (sk_c d) sk_fields true sk_t27 [] 2000 rfl
/-- SkylineNester$Part.isLaid()Z -/
noncomputable abbrev sk_D28 (d : Nat) : sk_K := sk_den (sk_c d) sk_fields true sk_t28
set_option maxRecDepth 100000 in
theorem sk_e28 (d : Nat) (x0 : Nat) (w : sk_W) : sk_c (d + 1) 28 [.ref x0] w =
  (sk_geti w x0 2 4).bind fun v1 =>
  if sk_cond .eq v1 (sj 2) = true then
    some (some (.int (sj 1)), w)
  else
    (sk_geti w x0 2 4).bind fun v2 =>
    if sk_cond .ne v2 (sj 3) = true then
      some (some (.int (sj 0)), w)
    else
      some (some (.int (sj 1)), w) := by
  have h : sk_c (d + 1) 28 [.ref x0] w = sk_D28 d 0 [some (.ref x0)] [] w := rfl
  rw [h]
  exact sk_unf (sk_c d) sk_fields true sk_t28 [] 2000 rfl
/-- SkylineNester$Part.lieAt(IIZI)V -/
noncomputable abbrev sk_D29 (d : Nat) : sk_K := sk_den (sk_c d) sk_fields false sk_t29
set_option maxRecDepth 100000 in
theorem sk_e29 (d : Nat) (x0 : Nat) (x1 : Int32) (x2 : Int32) (x3 : Int32) (x4 : Int32) (w : sk_W) : sk_c (d + 1) 29 [.ref x0, .int x1, .int x2, .int x3, .int x4] w =
  (sk_put w x0 2 5 (.int x1)).bind fun w1 =>
  (sk_put w1 x0 2 6 (.int x2)).bind fun w2 =>
  if x3 = 0 ∨ x3 = 1 then
  (sk_put w2 x0 2 7 (.int x3)).bind fun w3 =>
  (sk_put w3 x0 2 4 (.int x4)).bind fun w4 =>
  if sk_isO w4 x0 2 = true then
  sk_ci (sk_c d 31 [.ref x0, .int x3] w4) fun v6 w5 =>
  (sk_put w5 x0 2 8 (.int v6)).bind fun w7 =>
  if sk_isO w7 x0 2 = true then
  sk_ci (sk_c d 32 [.ref x0, .int x3] w7) fun v9 w8 =>
  (sk_put w8 x0 2 9 (.int v9)).bind fun w10 =>
  some (none, w10) else none else none else none := by
  have h : sk_c (d + 1) 29 [.ref x0, .int x1, .int x2, .int x3, .int x4] w = sk_D29 d 0 [some (.ref x0), some (.int x1), some (.int x2), some (.int x3), some (.int x4)] [] w := rfl
  rw [h]
  exact sk_unf (sk_c d) sk_fields false sk_t29 [] 2000 rfl
/-- SkylineNester$Part.ways(I)I -/
noncomputable abbrev sk_D30 (d : Nat) : sk_K := sk_den (sk_c d) sk_fields false sk_t30
set_option maxRecDepth 100000 in
theorem sk_e30 (d : Nat) (x0 : Nat) (x1 : Int32) (w : sk_W) : sk_c (d + 1) 30 [.ref x0, .int x1] w =
  (sk_geti w x0 2 0).bind fun v1 =>
  sk_ci (sk_c d 1 [.int v1, .int (sj 1)] w) fun v3 w2 =>
  if sk_cond .eq v3 (sj 0) = true then
    some (some (.int (sj 1)), w2)
  else
    (sk_geti w2 x0 2 2).bind fun v4 =>
    if sk_cond .gt v4 x1 = true then
      some (some (.int (sj 1)), w2)
    else
      some (some (.int (sj 2)), w2) := by
  have h : sk_c (d + 1) 30 [.ref x0, .int x1] w = sk_D30 d 0 [some (.ref x0), some (.int x1)] [] w := rfl
  rw [h]
  exact sk_unf (sk_c d) sk_fields false sk_t30 [] 2000 rfl
/-- SkylineNester$Part.acrossIf(Z)I -/
noncomputable abbrev sk_D31 (d : Nat) : sk_K := sk_den (sk_c d) sk_fields false sk_t31
set_option maxRecDepth 100000 in
theorem sk_e31 (d : Nat) (x0 : Nat) (x1 : Int32) (w : sk_W) : sk_c (d + 1) 31 [.ref x0, .int x1] w =
  if sk_cond .eq x1 (sj 0) = true then
    (sk_geti w x0 2 1).bind fun v1 =>
    some (some (.int v1), w)
  else
    (sk_geti w x0 2 2).bind fun v2 =>
    some (some (.int v2), w) := by
  have h : sk_c (d + 1) 31 [.ref x0, .int x1] w = sk_D31 d 0 [some (.ref x0), some (.int x1)] [] w := rfl
  rw [h]
  exact sk_unf (sk_c d) sk_fields false sk_t31 [] 2000 rfl
/-- SkylineNester$Part.tallIf(Z)I -/
noncomputable abbrev sk_D32 (d : Nat) : sk_K := sk_den (sk_c d) sk_fields false sk_t32
set_option maxRecDepth 100000 in
theorem sk_e32 (d : Nat) (x0 : Nat) (x1 : Int32) (w : sk_W) : sk_c (d + 1) 32 [.ref x0, .int x1] w =
  if sk_cond .eq x1 (sj 0) = true then
    (sk_geti w x0 2 2).bind fun v1 =>
    (sk_geti w x0 2 0).bind fun v2 =>
    sk_ci (sk_c d 1 [.int v2, .int (sj 3)] w) fun v4 w3 =>
    if sk_cond .eq v4 (sj 0) = true then
      some (some (.int v1), w3)
    else
      some (some (.int (v1 + (sj 1))), w3)
  else
    (sk_geti w x0 2 1).bind fun v5 =>
    (sk_geti w x0 2 0).bind fun v6 =>
    sk_ci (sk_c d 1 [.int v6, .int (sj 3)] w) fun v8 w7 =>
    if sk_cond .eq v8 (sj 0) = true then
      some (some (.int v5), w7)
    else
      some (some (.int (v5 + (sj 1))), w7) := by
  have h : sk_c (d + 1) 32 [.ref x0, .int x1] w = sk_D32 d 0 [some (.ref x0), some (.int x1), none] [] w := rfl
  rw [h]
  exact sk_unf (sk_c d) sk_fields false sk_t32 [] 2000 rfl
/-- SkylineNester$Part.mayLieAt(III)Z -/
noncomputable abbrev sk_D33 (d : Nat) : sk_K := sk_den (sk_c d) sk_fields true sk_t33
set_option maxRecDepth 100000 in
theorem sk_e33 (d : Nat) (x0 : Nat) (x1 : Int32) (x2 : Int32) (x3 : Int32) (w : sk_W) : sk_c (d + 1) 33 [.ref x0, .int x1, .int x2, .int x3] w =
  (sk_geti w x0 2 3).bind fun v1 =>
  if sk_cond .ge v1 (sj 1) = true then
    (sk_geti w x0 2 0).bind fun v2 =>
    sk_ci (sk_c d 1 [.int v2, .int (sj 2)] w) fun v4 w3 =>
    if sk_cond .eq v4 (sj 0) = true then
      (sk_geti w3 x0 2 0).bind fun v5 =>
      sk_ci (sk_c d 1 [.int v5, .int (sj 4)] w3) fun v7 w6 =>
      if sk_cond .eq v7 (sj 0) = true then
        sk_D33 d 54 [some (.ref x0), some (.int x1), some (.int x2), some (.int x3)] [] w6
      else
        (sk_geti w6 x0 2 3).bind fun v8 =>
        if v8 = 0 then none else
        if sk_cond .eq (x2 - (x2 / v8) * v8) (sj 0) = true then
          sk_D33 d 54 [some (.ref x0), some (.int x1), some (.int x2), some (.int x3)] [] w6
        else
          some (some (.int (sj 0)), w6)
    else
      (sk_geti w3 x0 2 3).bind fun v9 =>
      if v9 = 0 then none else
      if sk_cond .eq (x1 - (x1 / v9) * v9) (sj 0) = true then
        (sk_geti w3 x0 2 0).bind fun v10 =>
        sk_ci (sk_c d 1 [.int v10, .int (sj 4)] w3) fun v12 w11 =>
        if sk_cond .eq v12 (sj 0) = true then
          sk_D33 d 54 [some (.ref x0), some (.int x1), some (.int x2), some (.int x3)] [] w11
        else
          (sk_geti w11 x0 2 3).bind fun v13 =>
          if v13 = 0 then none else
          if sk_cond .eq (x2 - (x2 / v13) * v13) (sj 0) = true then
            sk_D33 d 54 [some (.ref x0), some (.int x1), some (.int x2), some (.int x3)] [] w11
          else
            some (some (.int (sj 0)), w11)
      else
        some (some (.int (sj 0)), w3)
  else
    some (some (.int (sj 0)), w) := by
  have h : sk_c (d + 1) 33 [.ref x0, .int x1, .int x2, .int x3] w = sk_D33 d 0 [some (.ref x0), some (.int x1), some (.int x2), some (.int x3)] [] w := rfl
  rw [h]
  exact sk_unf (sk_c d) sk_fields true sk_t33 [54] 2000 rfl
set_option maxRecDepth 100000 in
theorem sk_e33_54 (d : Nat) (x0 : Nat) (o1 : Option Value) (o2 : Option Value) (x3 : Int32) (w : sk_W) : sk_D33 d 54 [some (.ref x0), o1, o2, some (.int x3)] [] w =
  (sk_geti w x0 2 0).bind fun v1 =>
  sk_ci (sk_c d 1 [.int v1, .int (sj 5)] w) fun v3 w2 =>
  if sk_cond .eq v3 (sj 0) = true then
    some (some (.int (sj 1)), w2)
  else
    (sk_geti w2 x0 2 3).bind fun v4 =>
    if sk_cond .ge x3 v4 = true then
      some (some (.int (sj 0)), w2)
    else
      some (some (.int (sj 1)), w2) := sk_unf (sk_c d) sk_fields true sk_t33 [54] 2000 rfl
/-- SkylineNester$Part.isLike(LSkylineNester$Part;)Z -/
noncomputable abbrev sk_D34 (d : Nat) : sk_K := sk_den (sk_c d) sk_fields true sk_t34
set_option maxRecDepth 100000 in
theorem sk_e34 (d : Nat) (x0 : Nat) (x1 : Nat) (w : sk_W) : sk_c (d + 1) 34 [.ref x0, .ref x1] w =
  (sk_geti w x0 2 0).bind fun v1 =>
  (sk_geti w x1 2 0).bind fun v2 =>
  if sk_cond .ne v1 v2 = true then
    some (some (.int (sj 0)), w)
  else
    (sk_geti w x0 2 1).bind fun v3 =>
    (sk_geti w x1 2 1).bind fun v4 =>
    if sk_cond .ne v3 v4 = true then
      some (some (.int (sj 0)), w)
    else
      (sk_geti w x0 2 2).bind fun v5 =>
      (sk_geti w x1 2 2).bind fun v6 =>
      if sk_cond .ne v5 v6 = true then
        some (some (.int (sj 0)), w)
      else
        (sk_geti w x0 2 3).bind fun v7 =>
        (sk_geti w x1 2 3).bind fun v8 =>
        if sk_cond .ne v7 v8 = true then
          some (some (.int (sj 0)), w)
        else
          some (some (.int (sj 1)), w) := by
  have h : sk_c (d + 1) 34 [.ref x0, .ref x1] w = sk_D34 d 0 [some (.ref x0), some (.ref x1)] [] w := rfl
  rw [h]
  exact sk_unf (sk_c d) sk_fields true sk_t34 [] 2000 rfl
/-- SkylineNester$Plan.<init>()V -/
noncomputable abbrev sk_D35 (d : Nat) : sk_K := sk_den (sk_c d) sk_fields false sk_t35
set_option maxRecDepth 100000 in
theorem sk_e35 (d : Nat) (x0 : Nat) (w : sk_W) : sk_c (d + 1) 35 [.ref x0] w =
  (sk_put (w ++ [.inr (.inl (0, 10, fun _ => none))]) x0 3 0 (.ref (List.length w))).bind fun w1 =>
  (sk_put (w1 ++ [.inl (10, fun _ => 0)]) x0 3 1 (.ref (List.length w1))).bind fun w2 =>
  (sk_put (w2 ++ [.inl (20, fun _ => 0)]) x0 3 2 (.ref (List.length w2))).bind fun w3 =>
  if sk_isO (w3 ++ [.inr (.inr (9, sk_fields 9))]) (List.length w3) 9 = true then
  sk_cv (sk_c d 95 [.ref (List.length w3)] (w3 ++ [.inr (.inr (9, sk_fields 9))])) fun w4 =>
  (sk_put w4 x0 3 3 (.ref (List.length w3))).bind fun w5 =>
  (sk_put w5 x0 3 4 (.int (sj 10))).bind fun w6 =>
  (sk_put w6 x0 3 5 (.int (sj 0))).bind fun w7 =>
  (sk_put w7 x0 3 6 (.int (sj 0))).bind fun w8 =>
  (sk_put w8 x0 3 7 (.int (sj 0))).bind fun w9 =>
  (sk_put w9 x0 3 8 (.int (sj 1))).bind fun w10 =>
  sk_D35 d 68 [some (.ref x0), some (.int (sj 0))] [] w10 else none := by
  have h : sk_c (d + 1) 35 [.ref x0] w = sk_D35 d 0 [some (.ref x0), none] [] w := rfl
  rw [h]
  exact sk_unf (sk_c d) sk_fields false sk_t35 [68] 2000 rfl
set_option maxRecDepth 100000 in
theorem sk_e35_68 (d : Nat) (x0 : Nat) (x1 : Int32) (w : sk_W) : sk_D35 d 68 [some (.ref x0), some (.int x1)] [] w =
  if sk_cond .ge x1 (sj 10) = true then
    some (none, w)
  else
    (sk_getr w x0 3 0).bind fun v1 =>
    if sk_isO (w ++ [.inr (.inr (2, sk_fields 2))]) (List.length w) 2 = true then
    sk_cv (sk_c d 24 [.ref (List.length w)] (w ++ [.inr (.inr (2, sk_fields 2))])) fun w2 =>
    (sk_astr w2 v1 0 2 x1 (List.length w)).bind fun w3 =>
    sk_D35 d 68 [some (.ref x0), some (.int (x1 + (sj 1)))] [] w3 else none := sk_unf (sk_c d) sk_fields false sk_t35 [68] 2000 rfl
/-- SkylineNester$Plan.becomeLike(LSkylineNester$Plan;)V -/
noncomputable abbrev sk_D36 (d : Nat) : sk_K := sk_den (sk_c d) sk_fields false sk_t36
set_option maxRecDepth 100000 in
theorem sk_e36 (d : Nat) (x0 : Nat) (x1 : Nat) (w : sk_W) : sk_c (d + 1) 36 [.ref x0, .ref x1] w =
  sk_D36 d 2 [some (.ref x0), some (.ref x1), some (.int (sj 0))] [] w := by
  have h : sk_c (d + 1) 36 [.ref x0, .ref x1] w = sk_D36 d 0 [some (.ref x0), some (.ref x1), none] [] w := rfl
  rw [h]
  exact sk_unf (sk_c d) sk_fields false sk_t36 [2] 2000 rfl
set_option maxRecDepth 100000 in
theorem sk_e36_2 (d : Nat) (x0 : Nat) (x1 : Nat) (x2 : Int32) (w : sk_W) : sk_D36 d 2 [some (.ref x0), some (.ref x1), some (.int x2)] [] w =
  (sk_geti w x1 3 5).bind fun v1 =>
  if sk_cond .ge x2 v1 = true then
    (sk_getr w x1 3 1).bind fun v2 =>
    (sk_getr w x0 3 1).bind fun v3 =>
    (sk_geti w x1 3 6).bind fun v4 =>
    (sk_copy w v2 (sj 0) v3 (sj 0) v4).bind fun w5 =>
    (sk_getr w5 x1 3 2).bind fun v6 =>
    (sk_getr w5 x0 3 2).bind fun v7 =>
    (sk_geti w5 x1 3 4).bind fun v8 =>
    (sk_copy w5 v6 (sj 0) v7 (sj 0) v8).bind fun w9 =>
    (sk_getr w9 x0 3 3).bind fun v10 =>
    (sk_getr w9 x1 3 3).bind fun v11 =>
    if sk_isO w9 v10 9 = true then
    sk_cv (sk_c d 96 [.ref v10, .ref v11] w9) fun w12 =>
    (sk_geti w12 x1 3 4).bind fun v13 =>
    (sk_put w12 x0 3 4 (.int v13)).bind fun w14 =>
    (sk_geti w14 x1 3 5).bind fun v15 =>
    (sk_put w14 x0 3 5 (.int v15)).bind fun w16 =>
    (sk_geti w16 x1 3 6).bind fun v17 =>
    (sk_put w16 x0 3 6 (.int v17)).bind fun w18 =>
    (sk_geti w18 x1 3 7).bind fun v19 =>
    (sk_put w18 x0 3 7 (.int v19)).bind fun w20 =>
    (sk_geti w20 x1 3 8).bind fun v21 =>
    if v21 = 0 ∨ v21 = 1 then
    (sk_put w20 x0 3 8 (.int v21)).bind fun w22 =>
    some (none, w22) else none else none
  else
    (sk_getr w x0 3 0).bind fun v23 =>
    (sk_aldr w v23 x2).bind fun v24 =>
    (sk_getr w x1 3 0).bind fun v25 =>
    (sk_aldr w v25 x2).bind fun v26 =>
    if sk_isO w v24 2 = true then
    sk_cv (sk_c d 26 [.ref v24, .ref v26] w) fun w27 =>
    sk_D36 d 2 [some (.ref x0), some (.ref x1), some (.int (x2 + (sj 1)))] [] w27 else none := sk_unf (sk_c d) sk_fields false sk_t36 [2] 2000 rfl
/-- SkylineNester$Plan.empty(I)V -/
noncomputable abbrev sk_D37 (d : Nat) : sk_K := sk_den (sk_c d) sk_fields false sk_t37
set_option maxRecDepth 100000 in
theorem sk_e37 (d : Nat) (x0 : Nat) (x1 : Int32) (w : sk_W) : sk_c (d + 1) 37 [.ref x0, .int x1] w =
  (sk_put w x0 3 4 (.int x1)).bind fun w1 =>
  (sk_put w1 x0 3 5 (.int (sj 0))).bind fun w2 =>
  (sk_put w2 x0 3 6 (.int (sj 0))).bind fun w3 =>
  if sk_isO w3 x0 3 = true then
  sk_cv (sk_c d 38 [.ref x0] w3) fun w4 =>
  some (none, w4) else none := by
  have h : sk_c (d + 1) 37 [.ref x0, .int x1] w = sk_D37 d 0 [some (.ref x0), some (.int x1)] [] w := rfl
  rw [h]
  exact sk_unf (sk_c d) sk_fields false sk_t37 [] 2000 rfl
/-- SkylineNester$Plan.clearLaid()V -/
noncomputable abbrev sk_D38 (d : Nat) : sk_K := sk_den (sk_c d) sk_fields false sk_t38
set_option maxRecDepth 100000 in
theorem sk_e38 (d : Nat) (x0 : Nat) (w : sk_W) : sk_c (d + 1) 38 [.ref x0] w =
  (sk_getr w x0 3 2).bind fun v1 =>
  sk_cv (sk_c d 242 [.ref v1, .int (sj 0)] w) fun w2 =>
  (sk_getr w2 x0 3 3).bind fun v3 =>
  (sk_put w2 v3 9 4 (.int (sj 0))).bind fun w4 =>
  sk_D38 d 18 [some (.ref x0), some (.int (sj 0))] [] w4 := by
  have h : sk_c (d + 1) 38 [.ref x0] w = sk_D38 d 0 [some (.ref x0), none] [] w := rfl
  rw [h]
  exact sk_unf (sk_c d) sk_fields false sk_t38 [18] 2000 rfl
set_option maxRecDepth 100000 in
theorem sk_e38_18 (d : Nat) (x0 : Nat) (x1 : Int32) (w : sk_W) : sk_D38 d 18 [some (.ref x0), some (.int x1)] [] w =
  (sk_geti w x0 3 5).bind fun v1 =>
  if sk_cond .ge x1 v1 = true then
    some (none, w)
  else
    (sk_getr w x0 3 0).bind fun v2 =>
    (sk_aldr w v2 x1).bind fun v3 =>
    if sk_isO w v3 2 = true then
    sk_ci (sk_c d 28 [.ref v3] w) fun v5 w4 =>
    if sk_cond .eq v5 (sj 0) = true then
      sk_D38 d 18 [some (.ref x0), some (.int (x1 + (sj 1)))] [] w4
    else
      (sk_getr w4 x0 3 0).bind fun v6 =>
      (sk_aldr w4 v6 x1).bind fun v7 =>
      (sk_put w4 v7 2 4 (.int (sj 0))).bind fun w8 =>
      sk_D38 d 18 [some (.ref x0), some (.int (x1 + (sj 1)))] [] w8 else none := sk_unf (sk_c d) sk_fields false sk_t38 [18] 2000 rfl
/-- SkylineNester$Plan.isPart(I)Z -/
noncomputable abbrev sk_D39 (d : Nat) : sk_K := sk_den (sk_c d) sk_fields true sk_t39
set_option maxRecDepth 100000 in
theorem sk_e39 (d : Nat) (x0 : Nat) (x1 : Int32) (w : sk_W) : sk_c (d + 1) 39 [.ref x0, .int x1] w =
  if sk_cond .lt x1 (sj 0) = true then
    some (some (.int (sj 0)), w)
  else
    (sk_geti w x0 3 5).bind fun v1 =>
    if sk_cond .ge x1 v1 = true then
      some (some (.int (sj 0)), w)
    else
      some (some (.int (sj 1)), w) := by
  have h : sk_c (d + 1) 39 [.ref x0, .int x1] w = sk_D39 d 0 [some (.ref x0), some (.int x1)] [] w := rfl
  rw [h]
  exact sk_unf (sk_c d) sk_fields true sk_t39 [] 2000 rfl
/-- SkylineNester$Plan.isInOrder(I)Z -/
noncomputable abbrev sk_D40 (d : Nat) : sk_K := sk_den (sk_c d) sk_fields true sk_t40
set_option maxRecDepth 100000 in
theorem sk_e40 (d : Nat) (x0 : Nat) (x1 : Int32) (w : sk_W) : sk_c (d + 1) 40 [.ref x0, .int x1] w =
  sk_D40 d 2 [some (.ref x0), some (.int x1), some (.int (sj 0))] [] w := by
  have h : sk_c (d + 1) 40 [.ref x0, .int x1] w = sk_D40 d 0 [some (.ref x0), some (.int x1), none] [] w := rfl
  rw [h]
  exact sk_unf (sk_c d) sk_fields true sk_t40 [2] 2000 rfl
set_option maxRecDepth 100000 in
theorem sk_e40_2 (d : Nat) (x0 : Nat) (x1 : Int32) (x2 : Int32) (w : sk_W) : sk_D40 d 2 [some (.ref x0), some (.int x1), some (.int x2)] [] w =
  (sk_geti w x0 3 6).bind fun v1 =>
  if sk_cond .ge x2 v1 = true then
    some (some (.int (sj 0)), w)
  else
    (sk_getr w x0 3 1).bind fun v2 =>
    (sk_ald w v2 x2).bind fun v3 =>
    if sk_cond .ne v3 x1 = true then
      sk_D40 d 2 [some (.ref x0), some (.int x1), some (.int (x2 + (sj 1)))] [] w
    else
      some (some (.int (sj 1)), w) := sk_unf (sk_c d) sk_fields true sk_t40 [2] 2000 rfl
/-- SkylineNester$Plan.hasLaid()Z -/
noncomputable abbrev sk_D41 (d : Nat) : sk_K := sk_den (sk_c d) sk_fields true sk_t41
set_option maxRecDepth 100000 in
theorem sk_e41 (d : Nat) (x0 : Nat) (w : sk_W) : sk_c (d + 1) 41 [.ref x0] w =
  sk_D41 d 2 [some (.ref x0), some (.int (sj 0))] [] w := by
  have h : sk_c (d + 1) 41 [.ref x0] w = sk_D41 d 0 [some (.ref x0), none] [] w := rfl
  rw [h]
  exact sk_unf (sk_c d) sk_fields true sk_t41 [2] 2000 rfl
set_option maxRecDepth 100000 in
theorem sk_e41_2 (d : Nat) (x0 : Nat) (x1 : Int32) (w : sk_W) : sk_D41 d 2 [some (.ref x0), some (.int x1)] [] w =
  (sk_geti w x0 3 5).bind fun v1 =>
  if sk_cond .ge x1 v1 = true then
    some (some (.int (sj 0)), w)
  else
    (sk_getr w x0 3 0).bind fun v2 =>
    (sk_aldr w v2 x1).bind fun v3 =>
    if sk_isO w v3 2 = true then
    sk_ci (sk_c d 28 [.ref v3] w) fun v5 w4 =>
    if sk_cond .eq v5 (sj 0) = true then
      sk_D41 d 2 [some (.ref x0), some (.int (x1 + (sj 1)))] [] w4
    else
      some (some (.int (sj 1)), w4) else none := sk_unf (sk_c d) sk_fields true sk_t41 [2] 2000 rfl
/-- SkylineNester$Plan.lying()I -/
noncomputable abbrev sk_D42 (d : Nat) : sk_K := sk_den (sk_c d) sk_fields false sk_t42
set_option maxRecDepth 100000 in
theorem sk_e42 (d : Nat) (x0 : Nat) (w : sk_W) : sk_c (d + 1) 42 [.ref x0] w =
  sk_D42 d 4 [some (.ref x0), some (.int (sj 0)), some (.int (sj 0))] [] w := by
  have h : sk_c (d + 1) 42 [.ref x0] w = sk_D42 d 0 [some (.ref x0), none, none] [] w := rfl
  rw [h]
  exact sk_unf (sk_c d) sk_fields false sk_t42 [4] 2000 rfl
set_option maxRecDepth 100000 in
theorem sk_e42_4 (d : Nat) (x0 : Nat) (x1 : Int32) (x2 : Int32) (w : sk_W) : sk_D42 d 4 [some (.ref x0), some (.int x1), some (.int x2)] [] w =
  (sk_geti w x0 3 5).bind fun v1 =>
  if sk_cond .ge x2 v1 = true then
    some (some (.int x1), w)
  else
    (sk_getr w x0 3 0).bind fun v2 =>
    (sk_aldr w v2 x2).bind fun v3 =>
    if sk_isO w v3 2 = true then
    sk_ci (sk_c d 27 [.ref v3] w) fun v5 w4 =>
    if sk_cond .eq v5 (sj 0) = true then
      sk_D42 d 4 [some (.ref x0), some (.int x1), some (.int (x2 + (sj 1)))] [] w4
    else
      sk_D42 d 4 [some (.ref x0), some (.int (x1 + (sj 1))), some (.int (x2 + (sj 1)))] [] w4 else none := sk_unf (sk_c d) sk_fields false sk_t42 [4] 2000 rfl
/-- SkylineNester$Plan.top()I -/
noncomputable abbrev sk_D43 (d : Nat) : sk_K := sk_den (sk_c d) sk_fields false sk_t43
set_option maxRecDepth 100000 in
theorem sk_e43 (d : Nat) (x0 : Nat) (w : sk_W) : sk_c (d + 1) 43 [.ref x0] w =
  sk_D43 d 4 [some (.ref x0), some (.int (sj 0)), some (.int (sj 0)), none] [] w := by
  have h : sk_c (d + 1) 43 [.ref x0] w = sk_D43 d 0 [some (.ref x0), none, none, none] [] w := rfl
  rw [h]
  exact sk_unf (sk_c d) sk_fields false sk_t43 [4, 31] 2000 rfl
set_option maxRecDepth 100000 in
theorem sk_e43_4 (d : Nat) (x0 : Nat) (x1 : Int32) (x2 : Int32) (w : sk_W) : sk_D43 d 4 [some (.ref x0), some (.int x1), some (.int x2), none] [] w =
  (sk_geti w x0 3 4).bind fun v1 =>
  if sk_cond .ge x2 v1 = true then
    sk_D43 d 31 [some (.ref x0), some (.int x1), some (.int (sj 0)), none] [] w
  else
    (sk_getr w x0 3 2).bind fun v2 =>
    (sk_ald w v2 x2).bind fun v3 =>
    sk_ci (sk_c d 239 [.int x1, .int v3] w) fun v5 w4 =>
    sk_D43 d 4 [some (.ref x0), some (.int v5), some (.int (x2 + (sj 1))), none] [] w4 := sk_unf (sk_c d) sk_fields false sk_t43 [4, 31] 2000 rfl
set_option maxRecDepth 100000 in
theorem sk_e43_31 (d : Nat) (x0 : Nat) (x1 : Int32) (x2 : Int32) (o3 : Option Value) (w : sk_W) : sk_D43 d 31 [some (.ref x0), some (.int x1), some (.int x2), o3] [] w =
  (sk_geti w x0 3 5).bind fun v1 =>
  if sk_cond .ge x2 v1 = true then
    some (some (.int x1), w)
  else
    (sk_getr w x0 3 0).bind fun v2 =>
    (sk_aldr w v2 x2).bind fun v3 =>
    (sk_geti w v3 2 4).bind fun v4 =>
    if sk_cond .ne v4 (sj 1) = true then
      sk_D43 d 31 [some (.ref x0), some (.int x1), some (.int (x2 + (sj 1))), some (.ref v3)] [] w
    else
      (sk_geti w v3 2 6).bind fun v5 =>
      (sk_geti w v3 2 9).bind fun v6 =>
      sk_ci (sk_c d 239 [.int x1, .int (v5 + v6)] w) fun v8 w7 =>
      sk_D43 d 31 [some (.ref x0), some (.int v8), some (.int (x2 + (sj 1))), some (.ref v3)] [] w7 := sk_unf (sk_c d) sk_fields false sk_t43 [4, 31] 2000 rfl
/-- SkylineNester$Plan.orderAll()V -/
noncomputable abbrev sk_D44 (d : Nat) : sk_K := sk_den (sk_c d) sk_fields false sk_t44
set_option maxRecDepth 100000 in
theorem sk_e44 (d : Nat) (x0 : Nat) (w : sk_W) : sk_c (d + 1) 44 [.ref x0] w =
  (sk_put w x0 3 6 (.int (sj 0))).bind fun w1 =>
  sk_D44 d 7 [some (.ref x0), some (.int (sj 0))] [] w1 := by
  have h : sk_c (d + 1) 44 [.ref x0] w = sk_D44 d 0 [some (.ref x0), none] [] w := rfl
  rw [h]
  exact sk_unf (sk_c d) sk_fields false sk_t44 [7] 2000 rfl
set_option maxRecDepth 100000 in
theorem sk_e44_7 (d : Nat) (x0 : Nat) (x1 : Int32) (w : sk_W) : sk_D44 d 7 [some (.ref x0), some (.int x1)] [] w =
  (sk_geti w x0 3 5).bind fun v1 =>
  if sk_cond .ge x1 v1 = true then
    some (none, w)
  else
    (sk_getr w x0 3 0).bind fun v2 =>
    (sk_aldr w v2 x1).bind fun v3 =>
    (sk_geti w v3 2 4).bind fun v4 =>
    if sk_cond .eq v4 (sj 1) = true then
      sk_D44 d 7 [some (.ref x0), some (.int (x1 + (sj 1)))] [] w
    else
      (sk_getr w x0 3 1).bind fun v5 =>
      (sk_geti w x0 3 6).bind fun v6 =>
      (sk_ast w v5 v6 x1).bind fun w7 =>
      (sk_geti w7 x0 3 6).bind fun v8 =>
      (sk_put w7 x0 3 6 (.int (v8 + (sj 1)))).bind fun w9 =>
      sk_D44 d 7 [some (.ref x0), some (.int (x1 + (sj 1)))] [] w9 := sk_unf (sk_c d) sk_fields false sk_t44 [7] 2000 rfl
/-- SkylineNester$Plan.mayBeOrder(LSkylineNester$Rack;)Z -/
noncomputable abbrev sk_D45 (d : Nat) : sk_K := sk_den (sk_c d) sk_fields true sk_t45
set_option maxRecDepth 100000 in
theorem sk_e45 (d : Nat) (x0 : Nat) (x1 : Nat) (w : sk_W) : sk_c (d + 1) 45 [.ref x0, .ref x1] w =
  sk_D45 d 2 [some (.ref x0), some (.ref x1), some (.int (sj 0)), none] [] w := by
  have h : sk_c (d + 1) 45 [.ref x0, .ref x1] w = sk_D45 d 0 [some (.ref x0), some (.ref x1), none, none] [] w := rfl
  rw [h]
  exact sk_unf (sk_c d) sk_fields true sk_t45 [2] 2000 rfl
set_option maxRecDepth 100000 in
theorem sk_e45_2 (d : Nat) (x0 : Nat) (x1 : Nat) (x2 : Int32) (o3 : Option Value) (w : sk_W) : sk_D45 d 2 [some (.ref x0), some (.ref x1), some (.int x2), o3] [] w =
  (sk_geti w x1 4 2).bind fun v1 =>
  if sk_cond .ge x2 v1 = true then
    some (some (.int (sj 1)), w)
  else
    (sk_getr w x1 4 0).bind fun v2 =>
    (sk_ald w v2 x2).bind fun v3 =>
    if sk_cond .ne v3 (sj (-1)) = true then
      (sk_getr w x0 3 0).bind fun v4 =>
      (sk_aldr w v4 v3).bind fun v5 =>
      (sk_geti w v5 2 4).bind fun v6 =>
      if sk_cond .eq v6 (sj 1) = true then
        some (some (.int (sj 0)), w)
      else
        if sk_isO w x1 4 = true then
        sk_ci (sk_c d 67 [.ref x1, .int v3] w) fun v8 w7 =>
        if sk_cond .eq v8 x2 = true then
          sk_D45 d 2 [some (.ref x0), some (.ref x1), some (.int (x2 + (sj 1))), some (.int v3)] [] w7
        else
          some (some (.int (sj 0)), w7) else none
    else
      sk_D45 d 2 [some (.ref x0), some (.ref x1), some (.int (x2 + (sj 1))), some (.int v3)] [] w := sk_unf (sk_c d) sk_fields true sk_t45 [2] 2000 rfl
/-- SkylineNester$Plan.orderBy(LSkylineNester$Rack;)V -/
noncomputable abbrev sk_D46 (d : Nat) : sk_K := sk_den (sk_c d) sk_fields false sk_t46
set_option maxRecDepth 100000 in
theorem sk_e46 (d : Nat) (x0 : Nat) (x1 : Nat) (w : sk_W) : sk_c (d + 1) 46 [.ref x0, .ref x1] w =
  (sk_put w x0 3 6 (.int (sj 0))).bind fun w1 =>
  sk_D46 d 7 [some (.ref x0), some (.ref x1), some (.int (sj 0))] [] w1 := by
  have h : sk_c (d + 1) 46 [.ref x0, .ref x1] w = sk_D46 d 0 [some (.ref x0), some (.ref x1), none] [] w := rfl
  rw [h]
  exact sk_unf (sk_c d) sk_fields false sk_t46 [7] 2000 rfl
set_option maxRecDepth 100000 in
theorem sk_e46_7 (d : Nat) (x0 : Nat) (x1 : Nat) (x2 : Int32) (w : sk_W) : sk_D46 d 7 [some (.ref x0), some (.ref x1), some (.int x2)] [] w =
  (sk_geti w x1 4 2).bind fun v1 =>
  if sk_cond .ge x2 v1 = true then
    some (none, w)
  else
    (sk_getr w x1 4 0).bind fun v2 =>
    (sk_ald w v2 x2).bind fun v3 =>
    if sk_cond .eq v3 (sj (-1)) = true then
      sk_D46 d 7 [some (.ref x0), some (.ref x1), some (.int (x2 + (sj 1)))] [] w
    else
      (sk_getr w x0 3 1).bind fun v4 =>
      (sk_geti w x0 3 6).bind fun v5 =>
      (sk_getr w x1 4 0).bind fun v6 =>
      (sk_ald w v6 x2).bind fun v7 =>
      (sk_ast w v4 v5 v7).bind fun w8 =>
      (sk_geti w8 x0 3 6).bind fun v9 =>
      (sk_put w8 x0 3 6 (.int (v9 + (sj 1)))).bind fun w10 =>
      sk_D46 d 7 [some (.ref x0), some (.ref x1), some (.int (x2 + (sj 1)))] [] w10 := sk_unf (sk_c d) sk_fields false sk_t46 [7] 2000 rfl
/-- SkylineNester$Plan.exchange(II)V -/
noncomputable abbrev sk_D47 (d : Nat) : sk_K := sk_den (sk_c d) sk_fields false sk_t47
set_option maxRecDepth 100000 in
theorem sk_e47 (d : Nat) (x0 : Nat) (x1 : Int32) (x2 : Int32) (w : sk_W) : sk_c (d + 1) 47 [.ref x0, .int x1, .int x2] w =
  (sk_getr w x0 3 1).bind fun v1 =>
  (sk_ald w v1 x1).bind fun v2 =>
  (sk_getr w x0 3 1).bind fun v3 =>
  (sk_getr w x0 3 1).bind fun v4 =>
  (sk_ald w v4 x2).bind fun v5 =>
  (sk_ast w v3 x1 v5).bind fun w6 =>
  (sk_getr w6 x0 3 1).bind fun v7 =>
  (sk_ast w6 v7 x2 v2).bind fun w8 =>
  some (none, w8) := by
  have h : sk_c (d + 1) 47 [.ref x0, .int x1, .int x2] w = sk_D47 d 0 [some (.ref x0), some (.int x1), some (.int x2), none] [] w := rfl
  rw [h]
  exact sk_unf (sk_c d) sk_fields false sk_t47 [] 2000 rfl
/-- SkylineNester$Plan.segments()I -/
noncomputable abbrev sk_D48 (d : Nat) : sk_K := sk_den (sk_c d) sk_fields false sk_t48
set_option maxRecDepth 100000 in
theorem sk_e48 (d : Nat) (x0 : Nat) (w : sk_W) : sk_c (d + 1) 48 [.ref x0] w =
  sk_D48 d 4 [some (.ref x0), some (.int (sj 1)), some (.int (sj 1))] [] w := by
  have h : sk_c (d + 1) 48 [.ref x0] w = sk_D48 d 0 [some (.ref x0), none, none] [] w := rfl
  rw [h]
  exact sk_unf (sk_c d) sk_fields false sk_t48 [4] 2000 rfl
set_option maxRecDepth 100000 in
theorem sk_e48_4 (d : Nat) (x0 : Nat) (x1 : Int32) (x2 : Int32) (w : sk_W) : sk_D48 d 4 [some (.ref x0), some (.int x1), some (.int x2)] [] w =
  (sk_geti w x0 3 4).bind fun v1 =>
  if sk_cond .ge x2 v1 = true then
    some (some (.int x1), w)
  else
    (sk_getr w x0 3 2).bind fun v2 =>
    (sk_ald w v2 x2).bind fun v3 =>
    (sk_getr w x0 3 2).bind fun v4 =>
    (sk_ald w v4 (x2 - (sj 1))).bind fun v5 =>
    if sk_cond .eq v3 v5 = true then
      sk_D48 d 4 [some (.ref x0), some (.int x1), some (.int (x2 + (sj 1)))] [] w
    else
      sk_D48 d 4 [some (.ref x0), some (.int (x1 + (sj 1))), some (.int (x2 + (sj 1)))] [] w := sk_unf (sk_c d) sk_fields false sk_t48 [4] 2000 rfl
/-- SkylineNester$Plan.segmentStart(I)I -/
noncomputable abbrev sk_D49 (d : Nat) : sk_K := sk_den (sk_c d) sk_fields false sk_t49
set_option maxRecDepth 100000 in
theorem sk_e49 (d : Nat) (x0 : Nat) (x1 : Int32) (w : sk_W) : sk_c (d + 1) 49 [.ref x0, .int x1] w =
  sk_D49 d 4 [some (.ref x0), some (.int x1), some (.int (sj 0)), some (.int (sj 0))] [] w := by
  have h : sk_c (d + 1) 49 [.ref x0, .int x1] w = sk_D49 d 0 [some (.ref x0), some (.int x1), none, none] [] w := rfl
  rw [h]
  exact sk_unf (sk_c d) sk_fields false sk_t49 [4] 2000 rfl
set_option maxRecDepth 100000 in
theorem sk_e49_4 (d : Nat) (x0 : Nat) (x1 : Int32) (x2 : Int32) (x3 : Int32) (w : sk_W) : sk_D49 d 4 [some (.ref x0), some (.int x1), some (.int x2), some (.int x3)] [] w =
  if sk_cond .ge x3 x1 = true then
    (sk_geti w x0 3 4).bind fun v1 =>
    if sk_cond .ge x2 v1 = true then
      some (some (.int (sj (-1))), w)
    else
      some (some (.int x2), w)
  else
    (sk_geti w x0 3 4).bind fun v2 =>
    if sk_cond .ge x2 v2 = true then
      (sk_geti w x0 3 4).bind fun v3 =>
      if sk_cond .ge x2 v3 = true then
        some (some (.int (sj (-1))), w)
      else
        some (some (.int x2), w)
    else
      if sk_isO w x0 3 = true then
      sk_ci (sk_c d 50 [.ref x0, .int x2] w) fun v5 w4 =>
      sk_D49 d 4 [some (.ref x0), some (.int x1), some (.int v5), some (.int (x3 + (sj 1)))] [] w4 else none := sk_unf (sk_c d) sk_fields false sk_t49 [4] 2000 rfl
/-- SkylineNester$Plan.segmentEnd(I)I -/
noncomputable abbrev sk_D50 (d : Nat) : sk_K := sk_den (sk_c d) sk_fields false sk_t50
set_option maxRecDepth 100000 in
theorem sk_e50 (d : Nat) (x0 : Nat) (x1 : Int32) (w : sk_W) : sk_c (d + 1) 50 [.ref x0, .int x1] w =
  sk_D50 d 4 [some (.ref x0), some (.int x1), some (.int (x1 + (sj 1)))] [] w := by
  have h : sk_c (d + 1) 50 [.ref x0, .int x1] w = sk_D50 d 0 [some (.ref x0), some (.int x1), none] [] w := rfl
  rw [h]
  exact sk_unf (sk_c d) sk_fields false sk_t50 [4] 2000 rfl
set_option maxRecDepth 100000 in
theorem sk_e50_4 (d : Nat) (x0 : Nat) (x1 : Int32) (x2 : Int32) (w : sk_W) : sk_D50 d 4 [some (.ref x0), some (.int x1), some (.int x2)] [] w =
  (sk_geti w x0 3 4).bind fun v1 =>
  if sk_cond .ge x2 v1 = true then
    some (some (.int x2), w)
  else
    (sk_getr w x0 3 2).bind fun v2 =>
    (sk_ald w v2 x2).bind fun v3 =>
    (sk_getr w x0 3 2).bind fun v4 =>
    (sk_ald w v4 x1).bind fun v5 =>
    if sk_cond .ne v3 v5 = true then
      some (some (.int x2), w)
    else
      sk_D50 d 4 [some (.ref x0), some (.int x1), some (.int (x2 + (sj 1)))] [] w := sk_unf (sk_c d) sk_fields false sk_t50 [4] 2000 rfl
/-- SkylineNester$Plan.topOfFixedIn(IIII)I -/
noncomputable abbrev sk_D51 (d : Nat) : sk_K := sk_den (sk_c d) sk_fields false sk_t51
set_option maxRecDepth 100000 in
theorem sk_e51 (d : Nat) (x0 : Nat) (x1 : Int32) (x2 : Int32) (x3 : Int32) (x4 : Int32) (w : sk_W) : sk_c (d + 1) 51 [.ref x0, .int x1, .int x2, .int x3, .int x4] w =
  sk_D51 d 6 [some (.ref x0), some (.int x1), some (.int x2), some (.int x3), some (.int x4), some (.int (sj (-1))), some (.int (sj 0)), none, none, none] [] w := by
  have h : sk_c (d + 1) 51 [.ref x0, .int x1, .int x2, .int x3, .int x4] w = sk_D51 d 0 [some (.ref x0), some (.int x1), some (.int x2), some (.int x3), some (.int x4), none, none, none, none, none] [] w := rfl
  rw [h]
  exact sk_unf (sk_c d) sk_fields false sk_t51 [6, 67, 101] 2000 rfl
set_option maxRecDepth 100000 in
theorem sk_e51_6 (d : Nat) (x0 : Nat) (x1 : Int32) (x2 : Int32) (x3 : Int32) (x4 : Int32) (x5 : Int32) (x6 : Int32) (o7 : Option Value) (o8 : Option Value) (o9 : Option Value) (w : sk_W) : sk_D51 d 6 [some (.ref x0), some (.int x1), some (.int x2), some (.int x3), some (.int x4), some (.int x5), some (.int x6), o7, o8, o9] [] w =
  (sk_geti w x0 3 5).bind fun v1 =>
  if sk_cond .ge x6 v1 = true then
    some (some (.int x5), w)
  else
    (sk_getr w x0 3 0).bind fun v2 =>
    (sk_aldr w v2 x6).bind fun v3 =>
    (sk_geti w v3 2 4).bind fun v4 =>
    if sk_cond .eq v4 (sj 1) = true then
      (sk_geti w v3 2 5).bind fun v5 =>
      if sk_cond .ge v5 (x1 + x3) = true then
        sk_D51 d 67 [some (.ref x0), some (.int x1), some (.int x2), some (.int x3), some (.int x4), some (.int x5), some (.int x6), some (.ref v3), o8, o9] [.int (sj 0)] w
      else
        (sk_geti w v3 2 5).bind fun v6 =>
        (sk_geti w v3 2 8).bind fun v7 =>
        if sk_cond .ge x1 (v6 + v7) = true then
          sk_D51 d 67 [some (.ref x0), some (.int x1), some (.int x2), some (.int x3), some (.int x4), some (.int x5), some (.int x6), some (.ref v3), o8, o9] [.int (sj 0)] w
        else
          sk_D51 d 67 [some (.ref x0), some (.int x1), some (.int x2), some (.int x3), some (.int x4), some (.int x5), some (.int x6), some (.ref v3), o8, o9] [.int (sj 1)] w
    else
      sk_D51 d 6 [some (.ref x0), some (.int x1), some (.int x2), some (.int x3), some (.int x4), some (.int x5), some (.int (x6 + (sj 1))), some (.ref v3), o8, o9] [] w := sk_unf (sk_c d) sk_fields false sk_t51 [6, 67, 101] 2000 rfl
set_option maxRecDepth 100000 in
theorem sk_e51_67 (d : Nat) (x0 : Nat) (x1 : Int32) (x2 : Int32) (x3 : Int32) (x4 : Int32) (x5 : Int32) (x6 : Int32) (x7 : Nat) (o8 : Option Value) (o9 : Option Value) (s0 : Int32) (w : sk_W) : sk_D51 d 67 [some (.ref x0), some (.int x1), some (.int x2), some (.int x3), some (.int x4), some (.int x5), some (.int x6), some (.ref x7), o8, o9] [.int s0] w =
  (sk_geti w x7 2 6).bind fun v1 =>
  if sk_cond .ge v1 (x2 + x4) = true then
    sk_D51 d 101 [some (.ref x0), some (.int x1), some (.int x2), some (.int x3), some (.int x4), some (.int x5), some (.int x6), some (.ref x7), some (.int s0), o9] [.int (sj 0)] w
  else
    (sk_geti w x7 2 6).bind fun v2 =>
    (sk_geti w x7 2 9).bind fun v3 =>
    if sk_cond .ge x2 (v2 + v3) = true then
      sk_D51 d 101 [some (.ref x0), some (.int x1), some (.int x2), some (.int x3), some (.int x4), some (.int x5), some (.int x6), some (.ref x7), some (.int s0), o9] [.int (sj 0)] w
    else
      sk_D51 d 101 [some (.ref x0), some (.int x1), some (.int x2), some (.int x3), some (.int x4), some (.int x5), some (.int x6), some (.ref x7), some (.int s0), o9] [.int (sj 1)] w := sk_unf (sk_c d) sk_fields false sk_t51 [6, 67, 101] 2000 rfl
set_option maxRecDepth 100000 in
theorem sk_e51_101 (d : Nat) (x0 : Nat) (x1 : Int32) (x2 : Int32) (x3 : Int32) (x4 : Int32) (x5 : Int32) (x6 : Int32) (x7 : Nat) (x8 : Int32) (o9 : Option Value) (s0 : Int32) (w : sk_W) : sk_D51 d 101 [some (.ref x0), some (.int x1), some (.int x2), some (.int x3), some (.int x4), some (.int x5), some (.int x6), some (.ref x7), some (.int x8), o9] [.int s0] w =
  if sk_cond .eq x8 (sj 0) = true then
    sk_D51 d 6 [some (.ref x0), some (.int x1), some (.int x2), some (.int x3), some (.int x4), some (.int x5), some (.int (x6 + (sj 1))), some (.ref x7), some (.int x8), some (.int s0)] [] w
  else
    if sk_cond .eq s0 (sj 0) = true then
      sk_D51 d 6 [some (.ref x0), some (.int x1), some (.int x2), some (.int x3), some (.int x4), some (.int x5), some (.int (x6 + (sj 1))), some (.ref x7), some (.int x8), some (.int s0)] [] w
    else
      (sk_geti w x7 2 6).bind fun v1 =>
      (sk_geti w x7 2 9).bind fun v2 =>
      if sk_cond .le (v1 + v2) x5 = true then
        sk_D51 d 6 [some (.ref x0), some (.int x1), some (.int x2), some (.int x3), some (.int x4), some (.int x5), some (.int (x6 + (sj 1))), some (.ref x7), some (.int x8), some (.int s0)] [] w
      else
        (sk_geti w x7 2 6).bind fun v3 =>
        (sk_geti w x7 2 9).bind fun v4 =>
        sk_D51 d 6 [some (.ref x0), some (.int x1), some (.int x2), some (.int x3), some (.int x4), some (.int (v3 + v4)), some (.int (x6 + (sj 1))), some (.ref x7), some (.int x8), some (.int s0)] [] w := sk_unf (sk_c d) sk_fields false sk_t51 [6, 67, 101] 2000 rfl
/-- SkylineNester$Plan.restingY(III)I -/
noncomputable abbrev sk_D52 (d : Nat) : sk_K := sk_den (sk_c d) sk_fields false sk_t52
set_option maxRecDepth 100000 in
theorem sk_e52 (d : Nat) (x0 : Nat) (x1 : Int32) (x2 : Int32) (x3 : Int32) (w : sk_W) : sk_c (d + 1) 52 [.ref x0, .int x1, .int x2, .int x3] w =
  sk_D52 d 6 [some (.ref x0), some (.int x1), some (.int x2), some (.int x3), some (.int (sj 0)), some (.int x1), none] [] w := by
  have h : sk_c (d + 1) 52 [.ref x0, .int x1, .int x2, .int x3] w = sk_D52 d 0 [some (.ref x0), some (.int x1), some (.int x2), some (.int x3), none, none, none] [] w := rfl
  rw [h]
  exact sk_unf (sk_c d) sk_fields false sk_t52 [6, 44] 2000 rfl
set_option maxRecDepth 100000 in
theorem sk_e52_6 (d : Nat) (x0 : Nat) (x1 : Int32) (x2 : Int32) (x3 : Int32) (x4 : Int32) (x5 : Int32) (w : sk_W) : sk_D52 d 6 [some (.ref x0), some (.int x1), some (.int x2), some (.int x3), some (.int x4), some (.int x5), none] [] w =
  if sk_cond .ge x5 (x1 + x2) = true then
    sk_D52 d 44 [some (.ref x0), some (.int x1), some (.int x2), some (.int x3), some (.int x4), some (.int (sj 0)), none] [] w
  else
    (sk_getr w x0 3 2).bind fun v1 =>
    (sk_ald w v1 x5).bind fun v2 =>
    if sk_cond .le v2 x4 = true then
      sk_D52 d 6 [some (.ref x0), some (.int x1), some (.int x2), some (.int x3), some (.int x4), some (.int (x5 + (sj 1))), none] [] w
    else
      (sk_getr w x0 3 2).bind fun v3 =>
      (sk_ald w v3 x5).bind fun v4 =>
      sk_D52 d 6 [some (.ref x0), some (.int x1), some (.int x2), some (.int x3), some (.int v4), some (.int (x5 + (sj 1))), none] [] w := sk_unf (sk_c d) sk_fields false sk_t52 [6, 44] 2000 rfl
set_option maxRecDepth 100000 in
theorem sk_e52_44 (d : Nat) (x0 : Nat) (x1 : Int32) (x2 : Int32) (x3 : Int32) (x4 : Int32) (x5 : Int32) (o6 : Option Value) (w : sk_W) : sk_D52 d 44 [some (.ref x0), some (.int x1), some (.int x2), some (.int x3), some (.int x4), some (.int x5), o6] [] w =
  if sk_cond .ge x5 (sj 10) = true then
    some (some (.int x4), w)
  else
    if sk_isO w x0 3 = true then
    sk_ci (sk_c d 51 [.ref x0, .int x1, .int x4, .int x2, .int x3] w) fun v2 w1 =>
    if sk_cond .ne v2 (sj (-1)) = true then
      sk_D52 d 44 [some (.ref x0), some (.int x1), some (.int x2), some (.int x3), some (.int v2), some (.int (x5 + (sj 1))), some (.int v2)] [] w1
    else
      some (some (.int x4), w1) else none := sk_unf (sk_c d) sk_fields false sk_t52 [6, 44] 2000 rfl
/-- SkylineNester$Plan.wastedAt(III)I -/
noncomputable abbrev sk_D53 (d : Nat) : sk_K := sk_den (sk_c d) sk_fields false sk_t53
set_option maxRecDepth 100000 in
theorem sk_e53 (d : Nat) (x0 : Nat) (x1 : Int32) (x2 : Int32) (x3 : Int32) (w : sk_W) : sk_c (d + 1) 53 [.ref x0, .int x1, .int x2, .int x3] w =
  sk_D53 d 6 [some (.ref x0), some (.int x1), some (.int x2), some (.int x3), some (.int (sj 0)), some (.int x1)] [] w := by
  have h : sk_c (d + 1) 53 [.ref x0, .int x1, .int x2, .int x3] w = sk_D53 d 0 [some (.ref x0), some (.int x1), some (.int x2), some (.int x3), none, none] [] w := rfl
  rw [h]
  exact sk_unf (sk_c d) sk_fields false sk_t53 [6] 2000 rfl
set_option maxRecDepth 100000 in
theorem sk_e53_6 (d : Nat) (x0 : Nat) (x1 : Int32) (x2 : Int32) (x3 : Int32) (x4 : Int32) (x5 : Int32) (w : sk_W) : sk_D53 d 6 [some (.ref x0), some (.int x1), some (.int x2), some (.int x3), some (.int x4), some (.int x5)] [] w =
  if sk_cond .ge x5 (x1 + x3) = true then
    some (some (.int x4), w)
  else
    (sk_getr w x0 3 2).bind fun v1 =>
    (sk_ald w v1 x5).bind fun v2 =>
    sk_D53 d 6 [some (.ref x0), some (.int x1), some (.int x2), some (.int x3), some (.int (x4 + (x2 - v2))), some (.int (x5 + (sj 1)))] [] w := sk_unf (sk_c d) sk_fields false sk_t53 [6] 2000 rfl
/-- SkylineNester$Plan.touchingAt(IIII)I -/
noncomputable abbrev sk_D54 (d : Nat) : sk_K := sk_den (sk_c d) sk_fields false sk_t54
set_option maxRecDepth 100000 in
theorem sk_e54 (d : Nat) (x0 : Nat) (x1 : Int32) (x2 : Int32) (x3 : Int32) (x4 : Int32) (w : sk_W) : sk_c (d + 1) 54 [.ref x0, .int x1, .int x2, .int x3, .int x4] w =
  sk_D54 d 6 [some (.ref x0), some (.int x1), some (.int x2), some (.int x3), some (.int x4), some (.int (sj 0)), some (.int x1), none, none] [] w := by
  have h : sk_c (d + 1) 54 [.ref x0, .int x1, .int x2, .int x3, .int x4] w = sk_D54 d 0 [some (.ref x0), some (.int x1), some (.int x2), some (.int x3), some (.int x4), none, none, none, none] [] w := rfl
  rw [h]
  exact sk_unf (sk_c d) sk_fields false sk_t54 [6, 37, 57, 87] 2000 rfl
set_option maxRecDepth 100000 in
theorem sk_e54_6 (d : Nat) (x0 : Nat) (x1 : Int32) (x2 : Int32) (x3 : Int32) (x4 : Int32) (x5 : Int32) (x6 : Int32) (w : sk_W) : sk_D54 d 6 [some (.ref x0), some (.int x1), some (.int x2), some (.int x3), some (.int x4), some (.int x5), some (.int x6), none, none] [] w =
  if sk_cond .ge x6 (x1 + x3) = true then
    sk_D54 d 37 [some (.ref x0), some (.int x1), some (.int x2), some (.int x3), some (.int x4), some (.int x5), some (.int (sj 0)), none, none] [] w
  else
    (sk_getr w x0 3 2).bind fun v1 =>
    (sk_ald w v1 x6).bind fun v2 =>
    if sk_cond .ne v2 x2 = true then
      sk_D54 d 6 [some (.ref x0), some (.int x1), some (.int x2), some (.int x3), some (.int x4), some (.int x5), some (.int (x6 + (sj 1))), none, none] [] w
    else
      sk_D54 d 6 [some (.ref x0), some (.int x1), some (.int x2), some (.int x3), some (.int x4), some (.int (x5 + (sj 1))), some (.int (x6 + (sj 1))), none, none] [] w := sk_unf (sk_c d) sk_fields false sk_t54 [6, 37, 57, 87] 2000 rfl
set_option maxRecDepth 100000 in
theorem sk_e54_37 (d : Nat) (x0 : Nat) (x1 : Int32) (x2 : Int32) (x3 : Int32) (x4 : Int32) (x5 : Int32) (x6 : Int32) (o7 : Option Value) (o8 : Option Value) (w : sk_W) : sk_D54 d 37 [some (.ref x0), some (.int x1), some (.int x2), some (.int x3), some (.int x4), some (.int x5), some (.int x6), o7, o8] [] w =
  if sk_cond .ge x6 (sj 2) = true then
    some (some (.int x5), w)
  else
    if sk_cond .ne x6 (sj 0) = true then
      sk_D54 d 57 [some (.ref x0), some (.int x1), some (.int x2), some (.int x3), some (.int x4), some (.int x5), some (.int x6), o7, o8] [.int (x1 + x3)] w
    else
      sk_D54 d 57 [some (.ref x0), some (.int x1), some (.int x2), some (.int x3), some (.int x4), some (.int x5), some (.int x6), o7, o8] [.int (x1 - (sj 1))] w := sk_unf (sk_c d) sk_fields false sk_t54 [6, 37, 57, 87] 2000 rfl
set_option maxRecDepth 100000 in
theorem sk_e54_57 (d : Nat) (x0 : Nat) (x1 : Int32) (x2 : Int32) (x3 : Int32) (x4 : Int32) (x5 : Int32) (x6 : Int32) (o7 : Option Value) (o8 : Option Value) (s0 : Int32) (w : sk_W) : sk_D54 d 57 [some (.ref x0), some (.int x1), some (.int x2), some (.int x3), some (.int x4), some (.int x5), some (.int x6), o7, o8] [.int s0] w =
  if sk_cond .lt s0 (sj 0) = true then
    sk_D54 d 87 [some (.ref x0), some (.int x1), some (.int x2), some (.int x3), some (.int x4), some (.int x5), some (.int x6), some (.int s0), o8] [.int x4] w
  else
    (sk_geti w x0 3 4).bind fun v1 =>
    if sk_cond .lt s0 v1 = true then
      (sk_getr w x0 3 2).bind fun v2 =>
      (sk_ald w v2 s0).bind fun v3 =>
      sk_D54 d 87 [some (.ref x0), some (.int x1), some (.int x2), some (.int x3), some (.int x4), some (.int x5), some (.int x6), some (.int s0), o8] [.int (v3 - x2)] w
    else
      sk_D54 d 87 [some (.ref x0), some (.int x1), some (.int x2), some (.int x3), some (.int x4), some (.int x5), some (.int x6), some (.int s0), o8] [.int x4] w := sk_unf (sk_c d) sk_fields false sk_t54 [6, 37, 57, 87] 2000 rfl
set_option maxRecDepth 100000 in
theorem sk_e54_87 (d : Nat) (x0 : Nat) (x1 : Int32) (x2 : Int32) (x3 : Int32) (x4 : Int32) (x5 : Int32) (x6 : Int32) (o7 : Option Value) (o8 : Option Value) (s0 : Int32) (w : sk_W) : sk_D54 d 87 [some (.ref x0), some (.int x1), some (.int x2), some (.int x3), some (.int x4), some (.int x5), some (.int x6), o7, o8] [.int s0] w =
  if sk_cond .le s0 (sj 0) = true then
    sk_D54 d 37 [some (.ref x0), some (.int x1), some (.int x2), some (.int x3), some (.int x4), some (.int x5), some (.int (x6 + (sj 1))), o7, some (.int s0)] [] w
  else
    if sk_cond .ge s0 x4 = true then
      sk_D54 d 37 [some (.ref x0), some (.int x1), some (.int x2), some (.int x3), some (.int x4), some (.int (x5 + x4)), some (.int (x6 + (sj 1))), o7, some (.int s0)] [] w
    else
      sk_D54 d 37 [some (.ref x0), some (.int x1), some (.int x2), some (.int x3), some (.int x4), some (.int (x5 + s0)), some (.int (x6 + (sj 1))), o7, some (.int s0)] [] w := sk_unf (sk_c d) sk_fields false sk_t54 [6, 37, 57, 87] 2000 rfl
/-- SkylineNester$Plan.costByRule(IIIII)I -/
noncomputable abbrev sk_D55 (d : Nat) : sk_K := sk_den (sk_c d) sk_fields false sk_t55
set_option maxRecDepth 100000 in
theorem sk_e55 (d : Nat) (x0 : Nat) (x1 : Int32) (x2 : Int32) (x3 : Int32) (x4 : Int32) (x5 : Int32) (w : sk_W) : sk_c (d + 1) 55 [.ref x0, .int x1, .int x2, .int x3, .int x4, .int x5] w =
  (sk_geti w x0 3 7).bind fun v1 =>
  if Int32.toInt v1 = 1 then
    some (some (.int x5), w)
  else if Int32.toInt v1 = 2 then
    some (some (.int (x2 + x4)), w)
  else if Int32.toInt v1 = 3 then
    if sk_isO w x0 3 = true then
    sk_ci (sk_c d 54 [.ref x0, .int x1, .int x2, .int x3, .int x4] w) fun v3 w2 =>
    some (some (.int (-v3)), w2) else none
  else 
    some (some (.int x2), w) := by
  have h : sk_c (d + 1) 55 [.ref x0, .int x1, .int x2, .int x3, .int x4, .int x5] w = sk_D55 d 0 [some (.ref x0), some (.int x1), some (.int x2), some (.int x3), some (.int x4), some (.int x5)] [] w := rfl
  rw [h]
  exact sk_unf (sk_c d) sk_fields false sk_t55 [] 2000 rfl
/-- SkylineNester$Plan.raise(IIII)V -/
noncomputable abbrev sk_D56 (d : Nat) : sk_K := sk_den (sk_c d) sk_fields false sk_t56
set_option maxRecDepth 100000 in
theorem sk_e56 (d : Nat) (x0 : Nat) (x1 : Int32) (x2 : Int32) (x3 : Int32) (x4 : Int32) (w : sk_W) : sk_c (d + 1) 56 [.ref x0, .int x1, .int x2, .int x3, .int x4] w =
  sk_D56 d 11 [some (.ref x0), some (.int x1), some (.int x2), some (.int x3), some (.int x4), some (.int (x1 + x3)), some (.int x1), some (.int x1), none, none] [] w := by
  have h : sk_c (d + 1) 56 [.ref x0, .int x1, .int x2, .int x3, .int x4] w = sk_D56 d 0 [some (.ref x0), some (.int x1), some (.int x2), some (.int x3), some (.int x4), none, none, none, none, none] [] w := rfl
  rw [h]
  exact sk_unf (sk_c d) sk_fields false sk_t56 [11, 53] 2000 rfl
set_option maxRecDepth 100000 in
theorem sk_e56_11 (d : Nat) (x0 : Nat) (x1 : Int32) (x2 : Int32) (o3 : Option Value) (x4 : Int32) (x5 : Int32) (x6 : Int32) (x7 : Int32) (o8 : Option Value) (o9 : Option Value) (w : sk_W) : sk_D56 d 11 [some (.ref x0), some (.int x1), some (.int x2), o3, some (.int x4), some (.int x5), some (.int x6), some (.int x7), o8, o9] [] w =
  if sk_cond .ge x7 x5 = true then
    (sk_getr w x0 3 2).bind fun v1 =>
    sk_cv (sk_c d 243 [.ref v1, .int x1, .int x5, .int (x2 + x4)] w) fun w2 =>
    some (none, w2)
  else
    (sk_getr w x0 3 2).bind fun v3 =>
    (sk_ald w v3 x7).bind fun v4 =>
    if sk_cond .ge (x7 + (sj 1)) x5 = true then
      sk_D56 d 53 [some (.ref x0), some (.int x1), some (.int x2), o3, some (.int x4), some (.int x5), some (.int x6), some (.int x7), some (.int v4), o9] [] w
    else
      (sk_getr w x0 3 2).bind fun v5 =>
      (sk_ald w v5 (x7 + (sj 1))).bind fun v6 =>
      if sk_cond .ne v6 v4 = true then
        sk_D56 d 53 [some (.ref x0), some (.int x1), some (.int x2), o3, some (.int x4), some (.int x5), some (.int x6), some (.int x7), some (.int v4), o9] [] w
      else
        sk_D56 d 11 [some (.ref x0), some (.int x1), some (.int x2), o3, some (.int x4), some (.int x5), some (.int x6), some (.int (x7 + (sj 1))), some (.int v4), o9] [] w := sk_unf (sk_c d) sk_fields false sk_t56 [11, 53] 2000 rfl
set_option maxRecDepth 100000 in
theorem sk_e56_53 (d : Nat) (x0 : Nat) (x1 : Int32) (x2 : Int32) (o3 : Option Value) (x4 : Int32) (x5 : Int32) (x6 : Int32) (x7 : Int32) (x8 : Int32) (o9 : Option Value) (w : sk_W) : sk_D56 d 53 [some (.ref x0), some (.int x1), some (.int x2), o3, some (.int x4), some (.int x5), some (.int x6), some (.int x7), some (.int x8), o9] [] w =
  if sk_isO w x0 3 = true then
  sk_ci (sk_c d 51 [.ref x0, .int x6, .int x8, .int ((x7 + (sj 1)) - x6), .int (x2 - x8)] w) fun v2 w1 =>
  if sk_cond .ne v2 (sj (-1)) = true then
    sk_D56 d 11 [some (.ref x0), some (.int x1), some (.int x2), o3, some (.int x4), some (.int x5), some (.int (x7 + (sj 1))), some (.int (x7 + (sj 1))), some (.int x8), some (.int ((x7 + (sj 1)) - x6))] [] w1
  else
    (sk_getr w1 x0 3 3).bind fun v3 =>
    if sk_isO w1 v3 9 = true then
    sk_cv (sk_c d 97 [.ref v3, .int x6, .int x8, .int ((x7 + (sj 1)) - x6), .int (x2 - x8)] w1) fun w4 =>
    sk_D56 d 11 [some (.ref x0), some (.int x1), some (.int x2), o3, some (.int x4), some (.int x5), some (.int (x7 + (sj 1))), some (.int (x7 + (sj 1))), some (.int x8), some (.int ((x7 + (sj 1)) - x6))] [] w4 else none else none := sk_unf (sk_c d) sk_fields false sk_t56 [11, 53] 2000 rfl
/-- SkylineNester$Plan.area()I -/
noncomputable abbrev sk_D57 (d : Nat) : sk_K := sk_den (sk_c d) sk_fields false sk_t57
set_option maxRecDepth 100000 in
theorem sk_e57 (d : Nat) (x0 : Nat) (w : sk_W) : sk_c (d + 1) 57 [.ref x0] w =
  sk_D57 d 4 [some (.ref x0), some (.int (sj 0)), some (.int (sj 0)), none] [] w := by
  have h : sk_c (d + 1) 57 [.ref x0] w = sk_D57 d 0 [some (.ref x0), none, none, none] [] w := rfl
  rw [h]
  exact sk_unf (sk_c d) sk_fields false sk_t57 [4] 2000 rfl
set_option maxRecDepth 100000 in
theorem sk_e57_4 (d : Nat) (x0 : Nat) (x1 : Int32) (x2 : Int32) (o3 : Option Value) (w : sk_W) : sk_D57 d 4 [some (.ref x0), some (.int x1), some (.int x2), o3] [] w =
  (sk_geti w x0 3 5).bind fun v1 =>
  if sk_cond .ge x2 v1 = true then
    some (some (.int x1), w)
  else
    (sk_getr w x0 3 0).bind fun v2 =>
    (sk_aldr w v2 x2).bind fun v3 =>
    if sk_isO w v3 2 = true then
    sk_ci (sk_c d 27 [.ref v3] w) fun v5 w4 =>
    if sk_cond .eq v5 (sj 0) = true then
      sk_D57 d 4 [some (.ref x0), some (.int x1), some (.int (x2 + (sj 1))), some (.ref v3)] [] w4
    else
      (sk_geti w4 v3 2 8).bind fun v6 =>
      (sk_geti w4 v3 2 9).bind fun v7 =>
      sk_D57 d 4 [some (.ref x0), some (.int (x1 + (v6 * v7))), some (.int (x2 + (sj 1))), some (.ref v3)] [] w4 else none := sk_unf (sk_c d) sk_fields false sk_t57 [4] 2000 rfl
/-- SkylineNester$Plan.middle(Z)F -/
noncomputable abbrev sk_D58 (d : Nat) : sk_K := sk_den (sk_c d) sk_fields false sk_t58
set_option maxRecDepth 100000 in
theorem sk_e58 (d : Nat) (x0 : Nat) (x1 : Int32) (w : sk_W) : sk_c (d + 1) 58 [.ref x0, .int x1] w =
  sk_D58 d 7 [some (.ref x0), some (.int x1), some (.float FP.fconst0), some (.float FP.fconst0), some (.int (sj 0)), none, none, none, none] [] w := by
  have h : sk_c (d + 1) 58 [.ref x0, .int x1] w = sk_D58 d 0 [some (.ref x0), some (.int x1), none, none, none, none, none, none, none] [] w := rfl
  rw [h]
  exact sk_unf (sk_c d) sk_fields false sk_t58 [7, 87] 2000 rfl
set_option maxRecDepth 100000 in
theorem sk_e58_7 (d : Nat) (x0 : Nat) (x1 : Int32) (x2 : UInt32) (x3 : UInt32) (x4 : Int32) (o5 : Option Value) (o6 : Option Value) (o7 : Option Value) (o8 : Option Value) (w : sk_W) : sk_D58 d 7 [some (.ref x0), some (.int x1), some (.float x2), some (.float x3), some (.int x4), o5, o6, o7, o8] [] w =
  (sk_geti w x0 3 5).bind fun v1 =>
  if sk_cond .ge x4 v1 = true then
    if sk_cond .le (Op.cmpValue (FP.fcmp x2 FP.fconst0) .l) (sj 0) = true then
      some (some (.float FP.fconst0), w)
    else
      if (FP.fdiv x3 x2) &&& 0x7fffffff ≤ 0x7f800000 then
      some (some (.float (FP.fdiv x3 x2)), w) else none
  else
    (sk_getr w x0 3 0).bind fun v2 =>
    (sk_aldr w v2 x4).bind fun v3 =>
    if sk_isO w v3 2 = true then
    sk_ci (sk_c d 27 [.ref v3] w) fun v5 w4 =>
    if sk_cond .ne v5 (sj 0) = true then
      (sk_geti w4 v3 2 8).bind fun v6 =>
      (sk_geti w4 v3 2 9).bind fun v7 =>
      if sk_cond .eq x1 (sj 0) = true then
        (sk_geti w4 v3 2 5).bind fun v8 =>
        if sk_cond .eq x1 (sj 0) = true then
          (sk_geti w4 v3 2 8).bind fun v9 =>
          sk_D58 d 87 [some (.ref x0), some (.int x1), some (.float x2), some (.float x3), some (.int x4), some (.ref v3), some (.float (FP.i2f (v6 * v7))), some (.float (FP.i2f v8)), o8] [.int v9] w4
        else
          (sk_geti w4 v3 2 9).bind fun v10 =>
          sk_D58 d 87 [some (.ref x0), some (.int x1), some (.float x2), some (.float x3), some (.int x4), some (.ref v3), some (.float (FP.i2f (v6 * v7))), some (.float (FP.i2f v8)), o8] [.int v10] w4
      else
        (sk_geti w4 v3 2 6).bind fun v11 =>
        if sk_cond .eq x1 (sj 0) = true then
          (sk_geti w4 v3 2 8).bind fun v12 =>
          sk_D58 d 87 [some (.ref x0), some (.int x1), some (.float x2), some (.float x3), some (.int x4), some (.ref v3), some (.float (FP.i2f (v6 * v7))), some (.float (FP.i2f v11)), o8] [.int v12] w4
        else
          (sk_geti w4 v3 2 9).bind fun v13 =>
          sk_D58 d 87 [some (.ref x0), some (.int x1), some (.float x2), some (.float x3), some (.int x4), some (.ref v3), some (.float (FP.i2f (v6 * v7))), some (.float (FP.i2f v11)), o8] [.int v13] w4
    else
      sk_D58 d 7 [some (.ref x0), some (.int x1), some (.float x2), some (.float x3), some (.int (x4 + (sj 1))), some (.ref v3), o6, o7, o8] [] w4 else none := sk_unf (sk_c d) sk_fields false sk_t58 [7, 87] 2000 rfl
set_option maxRecDepth 100000 in
theorem sk_e58_87 (d : Nat) (x0 : Nat) (x1 : Int32) (x2 : UInt32) (x3 : UInt32) (x4 : Int32) (o5 : Option Value) (x6 : UInt32) (x7 : UInt32) (o8 : Option Value) (s0 : Int32) (w : sk_W) : sk_D58 d 87 [some (.ref x0), some (.int x1), some (.float x2), some (.float x3), some (.int x4), o5, some (.float x6), some (.float x7), o8] [.int s0] w =
  if (FP.fadd x2 x6) &&& 0x7fffffff ≤ 0x7f800000 then
  if (FP.fdiv (FP.i2f s0) FP.fconst2) &&& 0x7fffffff ≤ 0x7f800000 then
  if (FP.fadd x7 (FP.fdiv (FP.i2f s0) FP.fconst2)) &&& 0x7fffffff ≤ 0x7f800000 then
  if (FP.fmul x6 (FP.fadd x7 (FP.fdiv (FP.i2f s0) FP.fconst2))) &&& 0x7fffffff ≤ 0x7f800000 then
  if (FP.fadd x3 (FP.fmul x6 (FP.fadd x7 (FP.fdiv (FP.i2f s0) FP.fconst2)))) &&& 0x7fffffff ≤ 0x7f800000 then
  sk_D58 d 7 [some (.ref x0), some (.int x1), some (.float (FP.fadd x2 x6)), some (.float (FP.fadd x3 (FP.fmul x6 (FP.fadd x7 (FP.fdiv (FP.i2f s0) FP.fconst2))))), some (.int (x4 + (sj 1))), o5, some (.float x6), some (.float x7), some (.float (FP.i2f s0))] [] w else none else none else none else none else none := sk_unf (sk_c d) sk_fields false sk_t58 [7, 87] 2000 rfl
/-- SkylineNester$Plan.fill()F -/
noncomputable abbrev sk_D59 (d : Nat) : sk_K := sk_den (sk_c d) sk_fields false sk_t59
set_option maxRecDepth 100000 in
theorem sk_e59 (d : Nat) (x0 : Nat) (w : sk_W) : sk_c (d + 1) 59 [.ref x0] w =
  (sk_geti w x0 3 4).bind fun v1 =>
  if sk_isO w x0 3 = true then
  sk_ci (sk_c d 43 [.ref x0] w) fun v3 w2 =>
  if sk_cond .le (Op.cmpValue (FP.fcmp (FP.i2f (v1 * v3)) FP.fconst0) .l) (sj 0) = true then
    some (some (.float FP.fconst0), w2)
  else
    if sk_isO w2 x0 3 = true then
    sk_ci (sk_c d 57 [.ref x0] w2) fun v5 w4 =>
    if (FP.fdiv (FP.i2f v5) (FP.i2f (v1 * v3))) &&& 0x7fffffff ≤ 0x7f800000 then
    some (some (.float (FP.fdiv (FP.i2f v5) (FP.i2f (v1 * v3)))), w4) else none else none else none := by
  have h : sk_c (d + 1) 59 [.ref x0] w = sk_D59 d 0 [some (.ref x0), none] [] w := rfl
  rw [h]
  exact sk_unf (sk_c d) sk_fields false sk_t59 [] 2000 rfl
/-- SkylineNester$Plan.unlikeParts()I -/
noncomputable abbrev sk_D60 (d : Nat) : sk_K := sk_den (sk_c d) sk_fields false sk_t60
set_option maxRecDepth 100000 in
theorem sk_e60 (d : Nat) (x0 : Nat) (w : sk_W) : sk_c (d + 1) 60 [.ref x0] w =
  sk_D60 d 4 [some (.ref x0), some (.int (sj 0)), some (.int (sj 0)), none, none] [] w := by
  have h : sk_c (d + 1) 60 [.ref x0] w = sk_D60 d 0 [some (.ref x0), none, none, none, none] [] w := rfl
  rw [h]
  exact sk_unf (sk_c d) sk_fields false sk_t60 [4, 17] 2000 rfl
set_option maxRecDepth 100000 in
theorem sk_e60_4 (d : Nat) (x0 : Nat) (x1 : Int32) (x2 : Int32) (o3 : Option Value) (o4 : Option Value) (w : sk_W) : sk_D60 d 4 [some (.ref x0), some (.int x1), some (.int x2), o3, o4] [] w =
  (sk_geti w x0 3 5).bind fun v1 =>
  if sk_cond .ge x2 v1 = true then
    some (some (.int x1), w)
  else
    sk_D60 d 17 [some (.ref x0), some (.int x1), some (.int x2), some (.int (sj 1)), some (.int (sj 0))] [] w := sk_unf (sk_c d) sk_fields false sk_t60 [4, 17] 2000 rfl
set_option maxRecDepth 100000 in
theorem sk_e60_17 (d : Nat) (x0 : Nat) (x1 : Int32) (x2 : Int32) (x3 : Int32) (x4 : Int32) (w : sk_W) : sk_D60 d 17 [some (.ref x0), some (.int x1), some (.int x2), some (.int x3), some (.int x4)] [] w =
  if sk_cond .ge x4 x2 = true then
    if sk_cond .eq x3 (sj 0) = true then
      sk_D60 d 4 [some (.ref x0), some (.int x1), some (.int (x2 + (sj 1))), some (.int x3), some (.int x4)] [] w
    else
      sk_D60 d 4 [some (.ref x0), some (.int (x1 + (sj 1))), some (.int (x2 + (sj 1))), some (.int x3), some (.int x4)] [] w
  else
    (sk_getr w x0 3 0).bind fun v1 =>
    (sk_aldr w v1 x4).bind fun v2 =>
    (sk_getr w x0 3 0).bind fun v3 =>
    (sk_aldr w v3 x2).bind fun v4 =>
    if sk_isO w v2 2 = true then
    sk_ci (sk_c d 34 [.ref v2, .ref v4] w) fun v6 w5 =>
    if sk_cond .eq v6 (sj 0) = true then
      sk_D60 d 17 [some (.ref x0), some (.int x1), some (.int x2), some (.int x3), some (.int (x4 + (sj 1)))] [] w5
    else
      sk_D60 d 17 [some (.ref x0), some (.int x1), some (.int x2), some (.int (sj 0)), some (.int (x4 + (sj 1)))] [] w5 else none := sk_unf (sk_c d) sk_fields false sk_t60 [4, 17] 2000 rfl
/-- SkylineNester$Plan.unlikeOrders()I -/
noncomputable abbrev sk_D61 (d : Nat) : sk_K := sk_den (sk_c d) sk_fields false sk_t61
set_option maxRecDepth 100000 in
theorem sk_e61 (d : Nat) (x0 : Nat) (w : sk_W) : sk_c (d + 1) 61 [.ref x0] w =
  sk_D61 d 4 [some (.ref x0), some (.int (sj 1)), some (.int (sj 0)), none, none] [] w := by
  have h : sk_c (d + 1) 61 [.ref x0] w = sk_D61 d 0 [some (.ref x0), none, none, none, none] [] w := rfl
  rw [h]
  exact sk_unf (sk_c d) sk_fields false sk_t61 [4, 17] 2000 rfl
set_option maxRecDepth 100000 in
theorem sk_e61_4 (d : Nat) (x0 : Nat) (x1 : Int32) (x2 : Int32) (o3 : Option Value) (o4 : Option Value) (w : sk_W) : sk_D61 d 4 [some (.ref x0), some (.int x1), some (.int x2), o3, o4] [] w =
  (sk_geti w x0 3 6).bind fun v1 =>
  if sk_cond .ge x2 v1 = true then
    some (some (.int x1), w)
  else
    sk_D61 d 17 [some (.ref x0), some (.int x1), some (.int x2), some (.int (sj 1)), some (.int (sj 0))] [] w := sk_unf (sk_c d) sk_fields false sk_t61 [4, 17] 2000 rfl
set_option maxRecDepth 100000 in
theorem sk_e61_17 (d : Nat) (x0 : Nat) (x1 : Int32) (x2 : Int32) (x3 : Int32) (x4 : Int32) (w : sk_W) : sk_D61 d 17 [some (.ref x0), some (.int x1), some (.int x2), some (.int x3), some (.int x4)] [] w =
  if sk_cond .ge x4 x2 = true then
    if x3 = 0 then none else
    sk_D61 d 4 [some (.ref x0), some (.int ((x1 * (x2 + (sj 1))) / x3)), some (.int (x2 + (sj 1))), some (.int x3), some (.int x4)] [] w
  else
    (sk_getr w x0 3 0).bind fun v1 =>
    (sk_getr w x0 3 1).bind fun v2 =>
    (sk_ald w v2 x4).bind fun v3 =>
    (sk_aldr w v1 v3).bind fun v4 =>
    (sk_getr w x0 3 0).bind fun v5 =>
    (sk_getr w x0 3 1).bind fun v6 =>
    (sk_ald w v6 x2).bind fun v7 =>
    (sk_aldr w v5 v7).bind fun v8 =>
    if sk_isO w v4 2 = true then
    sk_ci (sk_c d 34 [.ref v4, .ref v8] w) fun v10 w9 =>
    if sk_cond .eq v10 (sj 0) = true then
      sk_D61 d 17 [some (.ref x0), some (.int x1), some (.int x2), some (.int x3), some (.int (x4 + (sj 1)))] [] w9
    else
      sk_D61 d 17 [some (.ref x0), some (.int x1), some (.int x2), some (.int (x3 + (sj 1))), some (.int (x4 + (sj 1)))] [] w9 else none := sk_unf (sk_c d) sk_fields false sk_t61 [4, 17] 2000 rfl
/-- SkylineNester$Rack.<init>()V -/
noncomputable abbrev sk_D62 (d : Nat) : sk_K := sk_den (sk_c d) sk_fields false sk_t62
set_option maxRecDepth 100000 in
theorem sk_e62 (d : Nat) (x0 : Nat) (w : sk_W) : sk_c (d + 1) 62 [.ref x0] w =
  (sk_put (w ++ [.inl (10, fun _ => 0)]) x0 4 0 (.ref (List.length w))).bind fun w1 =>
  (sk_put w1 x0 4 1 (.int (sj (-1)))).bind fun w2 =>
  (sk_put w2 x0 4 2 (.int (sj 0))).bind fun w3 =>
  some (none, w3) := by
  have h : sk_c (d + 1) 62 [.ref x0] w = sk_D62 d 0 [some (.ref x0)] [] w := rfl
  rw [h]
  exact sk_unf (sk_c d) sk_fields false sk_t62 [] 2000 rfl
/-- SkylineNester$Rack.isMissing()Z -/
noncomputable abbrev sk_D63 (d : Nat) : sk_K := sk_den (sk_c d) sk_fields true sk_t63
set_option maxRecDepth 100000 in
theorem sk_e63 (d : Nat) (x0 : Nat) (w : sk_W) : sk_c (d + 1) 63 [.ref x0] w =
  (sk_geti w x0 4 1).bind fun v1 =>
  if sk_cond .ne v1 (sj (-1)) = true then
    some (some (.int (sj 0)), w)
  else
    some (some (.int (sj 1)), w) := by
  have h : sk_c (d + 1) 63 [.ref x0] w = sk_D63 d 0 [some (.ref x0)] [] w := rfl
  rw [h]
  exact sk_unf (sk_c d) sk_fields true sk_t63 [] 2000 rfl
/-- SkylineNester$Rack.begin(II)V -/
noncomputable abbrev sk_D64 (d : Nat) : sk_K := sk_den (sk_c d) sk_fields false sk_t64
set_option maxRecDepth 100000 in
theorem sk_e64 (d : Nat) (x0 : Nat) (x1 : Int32) (x2 : Int32) (w : sk_W) : sk_c (d + 1) 64 [.ref x0, .int x1, .int x2] w =
  (sk_put w x0 4 1 (.int x1)).bind fun w1 =>
  (sk_put w1 x0 4 2 (.int x2)).bind fun w2 =>
  if sk_isO w2 x0 4 = true then
  sk_cv (sk_c d 65 [.ref x0] w2) fun w3 =>
  some (none, w3) else none := by
  have h : sk_c (d + 1) 64 [.ref x0, .int x1, .int x2] w = sk_D64 d 0 [some (.ref x0), some (.int x1), some (.int x2)] [] w := rfl
  rw [h]
  exact sk_unf (sk_c d) sk_fields false sk_t64 [] 2000 rfl
/-- SkylineNester$Rack.empty()V -/
noncomputable abbrev sk_D65 (d : Nat) : sk_K := sk_den (sk_c d) sk_fields false sk_t65
set_option maxRecDepth 100000 in
theorem sk_e65 (d : Nat) (x0 : Nat) (w : sk_W) : sk_c (d + 1) 65 [.ref x0] w =
  (sk_getr w x0 4 0).bind fun v1 =>
  sk_cv (sk_c d 242 [.ref v1, .int (sj (-1))] w) fun w2 =>
  some (none, w2) := by
  have h : sk_c (d + 1) 65 [.ref x0] w = sk_D65 d 0 [some (.ref x0)] [] w := rfl
  rw [h]
  exact sk_unf (sk_c d) sk_fields false sk_t65 [] 2000 rfl
/-- SkylineNester$Rack.takes(LSkylineNester$Plan;I)Z -/
noncomputable abbrev sk_D66 (d : Nat) : sk_K := sk_den (sk_c d) sk_fields true sk_t66
set_option maxRecDepth 100000 in
theorem sk_e66 (d : Nat) (x0 : Nat) (x1 : Nat) (x2 : Int32) (w : sk_W) : sk_c (d + 1) 66 [.ref x0, .ref x1, .int x2] w =
  if sk_cond .eq x2 (sj (-1)) = true then
    some (some (.int (sj 1)), w)
  else
    if sk_isO w x1 3 = true then
    sk_ci (sk_c d 39 [.ref x1, .int x2] w) fun v2 w1 =>
    if sk_cond .eq v2 (sj 0) = true then
      some (some (.int (sj 0)), w1)
    else
      (sk_getr w1 x1 3 0).bind fun v3 =>
      (sk_aldr w1 v3 x2).bind fun v4 =>
      (sk_geti w1 v4 2 0).bind fun v5 =>
      (sk_geti w1 x0 4 1).bind fun v6 =>
      sk_ci (sk_c d 1 [.int v5, .int v6] w1) fun v8 w7 =>
      if sk_cond .eq v8 (sj 0) = true then
        some (some (.int (sj 0)), w7)
      else
        some (some (.int (sj 1)), w7) else none := by
  have h : sk_c (d + 1) 66 [.ref x0, .ref x1, .int x2] w = sk_D66 d 0 [some (.ref x0), some (.ref x1), some (.int x2)] [] w := rfl
  rw [h]
  exact sk_unf (sk_c d) sk_fields true sk_t66 [] 2000 rfl
/-- SkylineNester$Rack.firstPlaceOf(I)I -/
noncomputable abbrev sk_D67 (d : Nat) : sk_K := sk_den (sk_c d) sk_fields false sk_t67
set_option maxRecDepth 100000 in
theorem sk_e67 (d : Nat) (x0 : Nat) (x1 : Int32) (w : sk_W) : sk_c (d + 1) 67 [.ref x0, .int x1] w =
  sk_D67 d 2 [some (.ref x0), some (.int x1), some (.int (sj 0))] [] w := by
  have h : sk_c (d + 1) 67 [.ref x0, .int x1] w = sk_D67 d 0 [some (.ref x0), some (.int x1), none] [] w := rfl
  rw [h]
  exact sk_unf (sk_c d) sk_fields false sk_t67 [2] 2000 rfl
set_option maxRecDepth 100000 in
theorem sk_e67_2 (d : Nat) (x0 : Nat) (x1 : Int32) (x2 : Int32) (w : sk_W) : sk_D67 d 2 [some (.ref x0), some (.int x1), some (.int x2)] [] w =
  (sk_geti w x0 4 2).bind fun v1 =>
  if sk_cond .ge x2 v1 = true then
    some (some (.int (sj (-1))), w)
  else
    (sk_getr w x0 4 0).bind fun v2 =>
    (sk_ald w v2 x2).bind fun v3 =>
    if sk_cond .ne v3 x1 = true then
      sk_D67 d 2 [some (.ref x0), some (.int x1), some (.int (x2 + (sj 1)))] [] w
    else
      some (some (.int x2), w) := sk_unf (sk_c d) sk_fields false sk_t67 [2] 2000 rfl
/-- SkylineNester$Search.<init>()V -/
noncomputable abbrev sk_D68 (d : Nat) : sk_K := sk_den (sk_c d) sk_fields false sk_t68
set_option maxRecDepth 100000 in
theorem sk_e68 (d : Nat) (x0 : Nat) (w : sk_W) : sk_c (d + 1) 68 [.ref x0] w =
  (sk_put (w ++ [.inl (5, fun _ => 0)]) x0 5 0 (.ref (List.length w))).bind fun w1 =>
  (sk_put (w1 ++ [.inl (120, fun _ => 0)]) x0 5 3 (.ref (List.length w1))).bind fun w2 =>
  (sk_put (w2 ++ [.inl (1200, fun _ => 0)]) x0 5 4 (.ref (List.length w2))).bind fun w3 =>
  (sk_put (w3 ++ [.inl (10, fun _ => 0)]) x0 5 5 (.ref (List.length w3))).bind fun w4 =>
  (sk_put (w4 ++ [.inl (10, fun _ => 0)]) x0 5 6 (.ref (List.length w4))).bind fun w5 =>
  some (none, w5) := by
  have h : sk_c (d + 1) 68 [.ref x0] w = sk_D68 d 0 [some (.ref x0)] [] w := rfl
  rw [h]
  exact sk_unf (sk_c d) sk_fields false sk_t68 [] 2000 rfl
/-- SkylineNester$Search.findBest(LSkylineNester$Plan;LSkylineNester$Layer;)V -/
noncomputable abbrev sk_D69 (d : Nat) : sk_K := sk_den (sk_c d) sk_fields false sk_t69
set_option maxRecDepth 100000 in
theorem sk_e69 (d : Nat) (x0 : Nat) (x1 : Nat) (x2 : Nat) (w : sk_W) : sk_c (d + 1) 69 [.ref x0, .ref x1, .ref x2] w =
  (sk_put w x0 5 1 (.int (sj (-1)))).bind fun w1 =>
  (sk_getr w1 x1 3 1).bind fun v2 =>
  (sk_geti w1 x1 3 6).bind fun v3 =>
  sk_cv (sk_c d 77 [.ref v2, .int v3] w1) fun w4 =>
  sk_D69 d 18 [some (.ref x0), some (.ref x1), some (.ref x2), some (.int (sj 0)), none] [] w4 := by
  have h : sk_c (d + 1) 69 [.ref x0, .ref x1, .ref x2] w = sk_D69 d 0 [some (.ref x0), some (.ref x1), some (.ref x2), none, none] [] w := rfl
  rw [h]
  exact sk_unf (sk_c d) sk_fields false sk_t69 [18, 41, 67] 2000 rfl
set_option maxRecDepth 100000 in
theorem sk_e69_18 (d : Nat) (x0 : Nat) (x1 : Nat) (x2 : Nat) (x3 : Int32) (o4 : Option Value) (w : sk_W) : sk_D69 d 18 [some (.ref x0), some (.ref x1), some (.ref x2), some (.int x3), o4] [] w =
  if sk_cond .ge x3 (sj 120) = true then
    some (none, w)
  else
    if sk_isO w x2 1 = true then
    sk_ci (sk_c d 18 [.ref x2, .ref x1] w) fun v2 w1 =>
    (sk_geti w1 x1 3 6).bind fun v3 =>
    if sk_cond .ne v2 v3 = true then
      sk_D69 d 41 [some (.ref x0), some (.ref x1), some (.ref x2), some (.int x3), o4] [.int (sj 0)] w1
    else
      sk_D69 d 41 [some (.ref x0), some (.ref x1), some (.ref x2), some (.int x3), o4] [.int (sj 1)] w1 else none := sk_unf (sk_c d) sk_fields false sk_t69 [18, 41, 67] 2000 rfl
set_option maxRecDepth 100000 in
theorem sk_e69_41 (d : Nat) (x0 : Nat) (x1 : Nat) (x2 : Nat) (x3 : Int32) (o4 : Option Value) (s0 : Int32) (w : sk_W) : sk_D69 d 41 [some (.ref x0), some (.ref x1), some (.ref x2), some (.int x3), o4] [.int s0] w =
  if sk_cond .eq s0 (sj 0) = true then
    if sk_isO w x0 5 = true then
    sk_ci (sk_c d 72 [.ref x0, .ref x1] w) fun v2 w1 =>
    if sk_cond .ne v2 (sj 0) = true then
      sk_D69 d 18 [some (.ref x0), some (.ref x1), some (.ref x2), some (.int (x3 + (sj 1))), some (.int s0)] [] w1
    else
      some (none, w1) else none
  else
    (sk_geti w x0 5 1).bind fun v3 =>
    if sk_cond .eq v3 (sj (-1)) = true then
      sk_D69 d 67 [some (.ref x0), some (.ref x1), some (.ref x2), some (.int x3), some (.int s0)] [] w
    else
      if sk_isO w x1 3 = true then
      sk_ci (sk_c d 43 [.ref x1] w) fun v5 w4 =>
      (sk_geti w4 x0 5 1).bind fun v6 =>
      if sk_cond .ge v5 v6 = true then
        if sk_isO w4 x0 5 = true then
        sk_ci (sk_c d 72 [.ref x0, .ref x1] w4) fun v8 w7 =>
        if sk_cond .ne v8 (sj 0) = true then
          sk_D69 d 18 [some (.ref x0), some (.ref x1), some (.ref x2), some (.int (x3 + (sj 1))), some (.int s0)] [] w7
        else
          some (none, w7) else none
      else
        sk_D69 d 67 [some (.ref x0), some (.ref x1), some (.ref x2), some (.int x3), some (.int s0)] [] w4 else none := sk_unf (sk_c d) sk_fields false sk_t69 [18, 41, 67] 2000 rfl
set_option maxRecDepth 100000 in
theorem sk_e69_67 (d : Nat) (x0 : Nat) (x1 : Nat) (x2 : Nat) (x3 : Int32) (o4 : Option Value) (w : sk_W) : sk_D69 d 67 [some (.ref x0), some (.ref x1), some (.ref x2), some (.int x3), o4] [] w =
  if sk_isO w x1 3 = true then
  sk_ci (sk_c d 43 [.ref x1] w) fun v2 w1 =>
  (sk_put w1 x0 5 1 (.int v2)).bind fun w3 =>
  (sk_getr w3 x1 3 1).bind fun v4 =>
  (sk_getr w3 x0 5 0).bind fun v5 =>
  (sk_geti w3 x1 3 6).bind fun v6 =>
  (sk_copy w3 v4 (sj 0) v5 (sj 0) v6).bind fun w7 =>
  if sk_isO w7 x0 5 = true then
  sk_ci (sk_c d 72 [.ref x0, .ref x1] w7) fun v9 w8 =>
  if sk_cond .ne v9 (sj 0) = true then
    sk_D69 d 18 [some (.ref x0), some (.ref x1), some (.ref x2), some (.int (x3 + (sj 1))), o4] [] w8
  else
    some (none, w8) else none else none := sk_unf (sk_c d) sk_fields false sk_t69 [18, 41, 67] 2000 rfl
/-- SkylineNester$Search.findLayouts(LSkylineNester$Plan;LSkylineNester$Layer;)V -/
noncomputable abbrev sk_D70 (d : Nat) : sk_K := sk_den (sk_c d) sk_fields false sk_t70
set_option maxRecDepth 100000 in
theorem sk_e70 (d : Nat) (x0 : Nat) (x1 : Nat) (x2 : Nat) (w : sk_W) : sk_c (d + 1) 70 [.ref x0, .ref x1, .ref x2] w =
  (sk_put w x0 5 2 (.int (sj 0))).bind fun w1 =>
  (sk_getr w1 x1 3 1).bind fun v2 =>
  (sk_geti w1 x1 3 6).bind fun v3 =>
  sk_cv (sk_c d 77 [.ref v2, .int v3] w1) fun w4 =>
  sk_D70 d 18 [some (.ref x0), some (.ref x1), some (.ref x2), some (.int (sj 0))] [] w4 := by
  have h : sk_c (d + 1) 70 [.ref x0, .ref x1, .ref x2] w = sk_D70 d 0 [some (.ref x0), some (.ref x1), some (.ref x2), none] [] w := rfl
  rw [h]
  exact sk_unf (sk_c d) sk_fields false sk_t70 [18] 2000 rfl
set_option maxRecDepth 100000 in
theorem sk_e70_18 (d : Nat) (x0 : Nat) (x1 : Nat) (x2 : Nat) (x3 : Int32) (w : sk_W) : sk_D70 d 18 [some (.ref x0), some (.ref x1), some (.ref x2), some (.int x3)] [] w =
  if sk_cond .ge x3 (sj 120) = true then
    some (none, w)
  else
    if sk_isO w x2 1 = true then
    sk_ci (sk_c d 18 [.ref x2, .ref x1] w) fun v2 w1 =>
    (sk_geti w1 x1 3 6).bind fun v3 =>
    if sk_cond .ne v2 v3 = true then
      if sk_isO w1 x0 5 = true then
      sk_ci (sk_c d 72 [.ref x0, .ref x1] w1) fun v5 w4 =>
      if sk_cond .ne v5 (sj 0) = true then
        sk_D70 d 18 [some (.ref x0), some (.ref x1), some (.ref x2), some (.int (x3 + (sj 1)))] [] w4
      else
        some (none, w4) else none
    else
      if sk_isO w1 x0 5 = true then
      sk_cv (sk_c d 73 [.ref x0, .ref x1] w1) fun w6 =>
      if sk_isO w6 x0 5 = true then
      sk_cv (sk_c d 75 [.ref x0] w6) fun w7 =>
      if sk_isO w7 x0 5 = true then
      sk_ci (sk_c d 72 [.ref x0, .ref x1] w7) fun v9 w8 =>
      if sk_cond .ne v9 (sj 0) = true then
        sk_D70 d 18 [some (.ref x0), some (.ref x1), some (.ref x2), some (.int (x3 + (sj 1)))] [] w8
      else
        some (none, w8) else none else none else none else none := sk_unf (sk_c d) sk_fields false sk_t70 [18] 2000 rfl
/-- SkylineNester$Search.mostAlike()I -/
noncomputable abbrev sk_D71 (d : Nat) : sk_K := sk_den (sk_c d) sk_fields false sk_t71
set_option maxRecDepth 100000 in
theorem sk_e71 (d : Nat) (x0 : Nat) (w : sk_W) : sk_c (d + 1) 71 [.ref x0] w =
  sk_D71 d 4 [some (.ref x0), some (.int (sj 0)), some (.int (sj 0))] [] w := by
  have h : sk_c (d + 1) 71 [.ref x0] w = sk_D71 d 0 [some (.ref x0), none, none] [] w := rfl
  rw [h]
  exact sk_unf (sk_c d) sk_fields false sk_t71 [4] 2000 rfl
set_option maxRecDepth 100000 in
theorem sk_e71_4 (d : Nat) (x0 : Nat) (x1 : Int32) (x2 : Int32) (w : sk_W) : sk_D71 d 4 [some (.ref x0), some (.int x1), some (.int x2)] [] w =
  (sk_geti w x0 5 2).bind fun v1 =>
  if sk_cond .ge x2 v1 = true then
    some (some (.int x1), w)
  else
    (sk_getr w x0 5 3).bind fun v2 =>
    (sk_ald w v2 x2).bind fun v3 =>
    sk_ci (sk_c d 239 [.int x1, .int v3] w) fun v5 w4 =>
    sk_D71 d 4 [some (.ref x0), some (.int v5), some (.int (x2 + (sj 1)))] [] w4 := sk_unf (sk_c d) sk_fields false sk_t71 [4] 2000 rfl
/-- SkylineNester$Search.goToNextOrder(LSkylineNester$Plan;)Z -/
noncomputable abbrev sk_D72 (d : Nat) : sk_K := sk_den (sk_c d) sk_fields true sk_t72
set_option maxRecDepth 100000 in
theorem sk_e72 (d : Nat) (x0 : Nat) (x1 : Nat) (w : sk_W) : sk_c (d + 1) 72 [.ref x0, .ref x1] w =
  (sk_getr w x1 3 1).bind fun v1 =>
  (sk_geti w x1 3 6).bind fun v2 =>
  sk_D72 d 12 [some (.ref x0), some (.ref x1), some (.ref v1), some (.int (v2 - (sj 2))), none, none, none] [] w := by
  have h : sk_c (d + 1) 72 [.ref x0, .ref x1] w = sk_D72 d 0 [some (.ref x0), some (.ref x1), none, none, none, none, none] [] w := rfl
  rw [h]
  exact sk_unf (sk_c d) sk_fields true sk_t72 [12, 47, 89] 2000 rfl
set_option maxRecDepth 100000 in
theorem sk_e72_12 (d : Nat) (o0 : Option Value) (x1 : Nat) (x2 : Nat) (x3 : Int32) (w : sk_W) : sk_D72 d 12 [o0, some (.ref x1), some (.ref x2), some (.int x3), none, none, none] [] w =
  if sk_cond .lt x3 (sj 0) = true then
    if sk_cond .ge x3 (sj 0) = true then
      (sk_geti w x1 3 6).bind fun v1 =>
      sk_D72 d 47 [o0, some (.ref x1), some (.ref x2), some (.int x3), some (.int (v1 - (sj 1))), none, none] [] w
    else
      some (some (.int (sj 0)), w)
  else
    (sk_ald w x2 x3).bind fun v2 =>
    (sk_ald w x2 (x3 + (sj 1))).bind fun v3 =>
    if sk_cond .le v2 v3 = true then
      if sk_cond .ge x3 (sj 0) = true then
        (sk_geti w x1 3 6).bind fun v4 =>
        sk_D72 d 47 [o0, some (.ref x1), some (.ref x2), some (.int x3), some (.int (v4 - (sj 1))), none, none] [] w
      else
        some (some (.int (sj 0)), w)
    else
      sk_D72 d 12 [o0, some (.ref x1), some (.ref x2), some (.int (x3 + (sj (-1)))), none, none, none] [] w := sk_unf (sk_c d) sk_fields true sk_t72 [12, 47, 89] 2000 rfl
set_option maxRecDepth 100000 in
theorem sk_e72_47 (d : Nat) (o0 : Option Value) (x1 : Nat) (x2 : Nat) (x3 : Int32) (x4 : Int32) (w : sk_W) : sk_D72 d 47 [o0, some (.ref x1), some (.ref x2), some (.int x3), some (.int x4), none, none] [] w =
  if sk_cond .le x4 x3 = true then
    if sk_isO w x1 3 = true then
    sk_cv (sk_c d 47 [.ref x1, .int x3, .int x4] w) fun w1 =>
    (sk_geti w1 x1 3 6).bind fun v2 =>
    sk_D72 d 89 [o0, some (.ref x1), some (.ref x2), some (.int x3), some (.int x4), some (.int (x3 + (sj 1))), some (.int (v2 - (sj 1)))] [] w1 else none
  else
    (sk_ald w x2 x4).bind fun v3 =>
    (sk_ald w x2 x3).bind fun v4 =>
    if sk_cond .ge v3 v4 = true then
      if sk_isO w x1 3 = true then
      sk_cv (sk_c d 47 [.ref x1, .int x3, .int x4] w) fun w5 =>
      (sk_geti w5 x1 3 6).bind fun v6 =>
      sk_D72 d 89 [o0, some (.ref x1), some (.ref x2), some (.int x3), some (.int x4), some (.int (x3 + (sj 1))), some (.int (v6 - (sj 1)))] [] w5 else none
    else
      sk_D72 d 47 [o0, some (.ref x1), some (.ref x2), some (.int x3), some (.int (x4 + (sj (-1)))), none, none] [] w := sk_unf (sk_c d) sk_fields true sk_t72 [12, 47, 89] 2000 rfl
set_option maxRecDepth 100000 in
theorem sk_e72_89 (d : Nat) (o0 : Option Value) (x1 : Nat) (o2 : Option Value) (o3 : Option Value) (o4 : Option Value) (x5 : Int32) (x6 : Int32) (w : sk_W) : sk_D72 d 89 [o0, some (.ref x1), o2, o3, o4, some (.int x5), some (.int x6)] [] w =
  if sk_cond .ge x5 x6 = true then
    some (some (.int (sj 1)), w)
  else
    if sk_isO w x1 3 = true then
    sk_cv (sk_c d 47 [.ref x1, .int x5, .int x6] w) fun w1 =>
    sk_D72 d 89 [o0, some (.ref x1), o2, o3, o4, some (.int (x5 + (sj 1))), some (.int (x6 + (sj (-1))))] [] w1 else none := sk_unf (sk_c d) sk_fields true sk_t72 [12, 47, 89] 2000 rfl
/-- SkylineNester$Search.readLayout(LSkylineNester$Plan;)V -/
noncomputable abbrev sk_D73 (d : Nat) : sk_K := sk_den (sk_c d) sk_fields false sk_t73
set_option maxRecDepth 100000 in
theorem sk_e73 (d : Nat) (x0 : Nat) (x1 : Nat) (w : sk_W) : sk_c (d + 1) 73 [.ref x0, .ref x1] w =
  (sk_put w x0 5 7 (.int (sj 0))).bind fun w1 =>
  sk_D73 d 7 [some (.ref x0), some (.ref x1), some (.int (sj 0)), none] [] w1 := by
  have h : sk_c (d + 1) 73 [.ref x0, .ref x1] w = sk_D73 d 0 [some (.ref x0), some (.ref x1), none, none] [] w := rfl
  rw [h]
  exact sk_unf (sk_c d) sk_fields false sk_t73 [7, 116, 145] 2000 rfl
set_option maxRecDepth 100000 in
theorem sk_e73_7 (d : Nat) (x0 : Nat) (x1 : Nat) (x2 : Int32) (o3 : Option Value) (w : sk_W) : sk_D73 d 7 [some (.ref x0), some (.ref x1), some (.int x2), o3] [] w =
  (sk_geti w x1 3 5).bind fun v1 =>
  if sk_cond .ge x2 v1 = true then
    (sk_getr w x0 5 5).bind fun v2 =>
    (sk_geti w x0 5 7).bind fun v3 =>
    sk_cv (sk_c d 77 [.ref v2, .int v3] w) fun w4 =>
    (sk_getr w4 x0 5 6).bind fun v5 =>
    (sk_geti w4 x0 5 7).bind fun v6 =>
    sk_cv (sk_c d 77 [.ref v5, .int v6] w4) fun w7 =>
    sk_D73 d 116 [some (.ref x0), some (.ref x1), some (.int (sj 0)), o3] [] w7
  else
    (sk_getr w x1 3 0).bind fun v8 =>
    (sk_aldr w v8 x2).bind fun v9 =>
    if sk_isO w v9 2 = true then
    sk_ci (sk_c d 27 [.ref v9] w) fun v11 w10 =>
    if sk_cond .ne v11 (sj 0) = true then
      (sk_getr w10 x0 5 5).bind fun v12 =>
      (sk_geti w10 x0 5 7).bind fun v13 =>
      (sk_geti w10 v9 2 5).bind fun v14 =>
      sk_ci (sk_c d 74 [.ref v9, .int v14] w10) fun v16 w15 =>
      (sk_ast w15 v12 v13 v16).bind fun w17 =>
      (sk_getr w17 x0 5 6).bind fun v18 =>
      (sk_geti w17 x0 5 7).bind fun v19 =>
      (sk_geti w17 x1 3 4).bind fun v20 =>
      (sk_geti w17 v9 2 5).bind fun v21 =>
      (sk_geti w17 v9 2 8).bind fun v22 =>
      sk_ci (sk_c d 74 [.ref v9, .int ((v20 - v21) - v22)] w17) fun v24 w23 =>
      (sk_ast w23 v18 v19 v24).bind fun w25 =>
      (sk_geti w25 x0 5 7).bind fun v26 =>
      (sk_put w25 x0 5 7 (.int (v26 + (sj 1)))).bind fun w27 =>
      sk_D73 d 7 [some (.ref x0), some (.ref x1), some (.int (x2 + (sj 1))), some (.ref v9)] [] w27
    else
      sk_D73 d 7 [some (.ref x0), some (.ref x1), some (.int (x2 + (sj 1))), some (.ref v9)] [] w10 else none := sk_unf (sk_c d) sk_fields false sk_t73 [7, 116, 145] 2000 rfl
set_option maxRecDepth 100000 in
theorem sk_e73_116 (d : Nat) (x0 : Nat) (o1 : Option Value) (x2 : Int32) (o3 : Option Value) (w : sk_W) : sk_D73 d 116 [some (.ref x0), o1, some (.int x2), o3] [] w =
  (sk_geti w x0 5 7).bind fun v1 =>
  if sk_cond .ge x2 v1 = true then
    sk_D73 d 145 [some (.ref x0), o1, some (.int x2), o3] [] w
  else
    (sk_getr w x0 5 5).bind fun v2 =>
    (sk_ald w v2 x2).bind fun v3 =>
    (sk_getr w x0 5 6).bind fun v4 =>
    (sk_ald w v4 x2).bind fun v5 =>
    if sk_cond .ne v3 v5 = true then
      sk_D73 d 145 [some (.ref x0), o1, some (.int x2), o3] [] w
    else
      sk_D73 d 116 [some (.ref x0), o1, some (.int (x2 + (sj 1))), o3] [] w := sk_unf (sk_c d) sk_fields false sk_t73 [7, 116, 145] 2000 rfl
set_option maxRecDepth 100000 in
theorem sk_e73_145 (d : Nat) (x0 : Nat) (o1 : Option Value) (x2 : Int32) (o3 : Option Value) (w : sk_W) : sk_D73 d 145 [some (.ref x0), o1, some (.int x2), o3] [] w =
  (sk_geti w x0 5 7).bind fun v1 =>
  if sk_cond .ge x2 v1 = true then
    some (none, w)
  else
    (sk_getr w x0 5 6).bind fun v2 =>
    (sk_ald w v2 x2).bind fun v3 =>
    (sk_getr w x0 5 5).bind fun v4 =>
    (sk_ald w v4 x2).bind fun v5 =>
    if sk_cond .ge v3 v5 = true then
      some (none, w)
    else
      (sk_getr w x0 5 6).bind fun v6 =>
      (sk_getr w x0 5 5).bind fun v7 =>
      (sk_geti w x0 5 7).bind fun v8 =>
      (sk_copy w v6 (sj 0) v7 (sj 0) v8).bind fun w9 =>
      some (none, w9) := sk_unf (sk_c d) sk_fields false sk_t73 [7, 116, 145] 2000 rfl
/-- SkylineNester$Search.numberOf(LSkylineNester$Part;I)I -/
noncomputable abbrev sk_D74 (d : Nat) : sk_K := sk_den (sk_c d) sk_fields false sk_t74
set_option maxRecDepth 100000 in
theorem sk_e74 (d : Nat) (x0 : Nat) (x1 : Int32) (w : sk_W) : sk_c (d + 1) 74 [.ref x0, .int x1] w =
  (sk_geti w x0 2 6).bind fun v1 =>
  (sk_geti w x0 2 8).bind fun v2 =>
  (sk_geti w x0 2 9).bind fun v3 =>
  some (some (.int ((((((v1 * (sj 32)) + x1) * (sj 32)) + v2) * (sj 32)) + v3)), w) := by
  have h : sk_c (d + 1) 74 [.ref x0, .int x1] w = sk_D74 d 0 [some (.ref x0), some (.int x1)] [] w := rfl
  rw [h]
  exact sk_unf (sk_c d) sk_fields false sk_t74 [] 2000 rfl
/-- SkylineNester$Search.countLayout()V -/
noncomputable abbrev sk_D75 (d : Nat) : sk_K := sk_den (sk_c d) sk_fields false sk_t75
set_option maxRecDepth 100000 in
theorem sk_e75 (d : Nat) (x0 : Nat) (w : sk_W) : sk_c (d + 1) 75 [.ref x0] w =
  sk_D75 d 2 [some (.ref x0), some (.int (sj 0))] [] w := by
  have h : sk_c (d + 1) 75 [.ref x0] w = sk_D75 d 0 [some (.ref x0), none] [] w := rfl
  rw [h]
  exact sk_unf (sk_c d) sk_fields false sk_t75 [2] 2000 rfl
set_option maxRecDepth 100000 in
theorem sk_e75_2 (d : Nat) (x0 : Nat) (x1 : Int32) (w : sk_W) : sk_D75 d 2 [some (.ref x0), some (.int x1)] [] w =
  (sk_geti w x0 5 2).bind fun v1 =>
  if sk_cond .ge x1 v1 = true then
    (sk_geti w x0 5 2).bind fun v2 =>
    if sk_cond .lt v2 (sj 120) = true then
      (sk_getr w x0 5 5).bind fun v3 =>
      (sk_getr w x0 5 4).bind fun v4 =>
      (sk_geti w x0 5 2).bind fun v5 =>
      (sk_geti w x0 5 7).bind fun v6 =>
      (sk_copy w v3 (sj 0) v4 (v5 * (sj 10)) v6).bind fun w7 =>
      (sk_getr w7 x0 5 3).bind fun v8 =>
      (sk_geti w7 x0 5 2).bind fun v9 =>
      (sk_ast w7 v8 v9 (sj 1)).bind fun w10 =>
      (sk_geti w10 x0 5 2).bind fun v11 =>
      (sk_put w10 x0 5 2 (.int (v11 + (sj 1)))).bind fun w12 =>
      some (none, w12)
    else
      some (none, w)
  else
    if sk_isO w x0 5 = true then
    sk_ci (sk_c d 76 [.ref x0, .int x1] w) fun v14 w13 =>
    if sk_cond .eq v14 (sj 0) = true then
      sk_D75 d 2 [some (.ref x0), some (.int (x1 + (sj 1)))] [] w13
    else
      (sk_getr w13 x0 5 3).bind fun v15 =>
      (sk_ald w13 v15 x1).bind fun v16 =>
      (sk_ast w13 v15 x1 (v16 + (sj 1))).bind fun w17 =>
      some (none, w17) else none := sk_unf (sk_c d) sk_fields false sk_t75 [2] 2000 rfl
/-- SkylineNester$Search.isRow(I)Z -/
noncomputable abbrev sk_D76 (d : Nat) : sk_K := sk_den (sk_c d) sk_fields true sk_t76
set_option maxRecDepth 100000 in
theorem sk_e76 (d : Nat) (x0 : Nat) (x1 : Int32) (w : sk_W) : sk_c (d + 1) 76 [.ref x0, .int x1] w =
  sk_D76 d 2 [some (.ref x0), some (.int x1), some (.int (sj 0))] [] w := by
  have h : sk_c (d + 1) 76 [.ref x0, .int x1] w = sk_D76 d 0 [some (.ref x0), some (.int x1), none] [] w := rfl
  rw [h]
  exact sk_unf (sk_c d) sk_fields true sk_t76 [2] 2000 rfl
set_option maxRecDepth 100000 in
theorem sk_e76_2 (d : Nat) (x0 : Nat) (x1 : Int32) (x2 : Int32) (w : sk_W) : sk_D76 d 2 [some (.ref x0), some (.int x1), some (.int x2)] [] w =
  (sk_geti w x0 5 7).bind fun v1 =>
  if sk_cond .ge x2 v1 = true then
    some (some (.int (sj 1)), w)
  else
    (sk_getr w x0 5 4).bind fun v2 =>
    (sk_ald w v2 ((x1 * (sj 10)) + x2)).bind fun v3 =>
    (sk_getr w x0 5 5).bind fun v4 =>
    (sk_ald w v4 x2).bind fun v5 =>
    if sk_cond .eq v3 v5 = true then
      sk_D76 d 2 [some (.ref x0), some (.int x1), some (.int (x2 + (sj 1)))] [] w
    else
      some (some (.int (sj 0)), w) := sk_unf (sk_c d) sk_fields true sk_t76 [2] 2000 rfl
/-- SkylineNester$Search.sort([II)V -/
noncomputable abbrev sk_D77 (d : Nat) : sk_K := sk_den (sk_c d) sk_fields false sk_t77
set_option maxRecDepth 100000 in
theorem sk_e77 (d : Nat) (x0 : Nat) (x1 : Int32) (w : sk_W) : sk_c (d + 1) 77 [.ref x0, .int x1] w =
  sk_D77 d 2 [some (.ref x0), some (.int x1), some (.int (sj 1)), none, none] [] w := by
  have h : sk_c (d + 1) 77 [.ref x0, .int x1] w = sk_D77 d 0 [some (.ref x0), some (.int x1), none, none, none] [] w := rfl
  rw [h]
  exact sk_unf (sk_c d) sk_fields false sk_t77 [2, 14] 2000 rfl
set_option maxRecDepth 100000 in
theorem sk_e77_2 (d : Nat) (x0 : Nat) (x1 : Int32) (x2 : Int32) (o3 : Option Value) (o4 : Option Value) (w : sk_W) : sk_D77 d 2 [some (.ref x0), some (.int x1), some (.int x2), o3, o4] [] w =
  if sk_cond .ge x2 x1 = true then
    some (none, w)
  else
    (sk_ald w x0 x2).bind fun v1 =>
    sk_D77 d 14 [some (.ref x0), some (.int x1), some (.int x2), some (.int v1), some (.int x2)] [] w := sk_unf (sk_c d) sk_fields false sk_t77 [2, 14] 2000 rfl
set_option maxRecDepth 100000 in
theorem sk_e77_14 (d : Nat) (x0 : Nat) (x1 : Int32) (x2 : Int32) (x3 : Int32) (x4 : Int32) (w : sk_W) : sk_D77 d 14 [some (.ref x0), some (.int x1), some (.int x2), some (.int x3), some (.int x4)] [] w =
  if sk_cond .le x4 (sj 0) = true then
    (sk_ast w x0 x4 x3).bind fun w1 =>
    sk_D77 d 2 [some (.ref x0), some (.int x1), some (.int (x2 + (sj 1))), some (.int x3), some (.int x4)] [] w1
  else
    (sk_ald w x0 (x4 - (sj 1))).bind fun v2 =>
    if sk_cond .le v2 x3 = true then
      (sk_ast w x0 x4 x3).bind fun w3 =>
      sk_D77 d 2 [some (.ref x0), some (.int x1), some (.int (x2 + (sj 1))), some (.int x3), some (.int x4)] [] w3
    else
      (sk_ald w x0 (x4 - (sj 1))).bind fun v4 =>
      (sk_ast w x0 x4 v4).bind fun w5 =>
      sk_D77 d 14 [some (.ref x0), some (.int x1), some (.int x2), some (.int x3), some (.int (x4 + (sj (-1))))] [] w5 := sk_unf (sk_c d) sk_fields false sk_t77 [2, 14] 2000 rfl
/-- SkylineNester$Sheet.<init>()V -/
noncomputable abbrev sk_D78 (d : Nat) : sk_K := sk_den (sk_c d) sk_fields false sk_t78
set_option maxRecDepth 100000 in
theorem sk_e78 (d : Nat) (x0 : Nat) (w : sk_W) : sk_c (d + 1) 78 [.ref x0] w =
  (sk_put (w ++ [.inl (40, fun _ => 0)]) x0 6 0 (.ref (List.length w))).bind fun w1 =>
  (sk_put w1 x0 6 1 (.int (sj (-1)))).bind fun w2 =>
  (sk_put w2 x0 6 2 (.int (sj 0))).bind fun w3 =>
  some (none, w3) := by
  have h : sk_c (d + 1) 78 [.ref x0] w = sk_D78 d 0 [some (.ref x0)] [] w := rfl
  rw [h]
  exact sk_unf (sk_c d) sk_fields false sk_t78 [] 2000 rfl
/-- SkylineNester$Sheet.isMissing()Z -/
noncomputable abbrev sk_D79 (d : Nat) : sk_K := sk_den (sk_c d) sk_fields true sk_t79
set_option maxRecDepth 100000 in
theorem sk_e79 (d : Nat) (x0 : Nat) (w : sk_W) : sk_c (d + 1) 79 [.ref x0] w =
  (sk_geti w x0 6 1).bind fun v1 =>
  if sk_cond .ne v1 (sj (-1)) = true then
    some (some (.int (sj 0)), w)
  else
    some (some (.int (sj 1)), w) := by
  have h : sk_c (d + 1) 79 [.ref x0] w = sk_D79 d 0 [some (.ref x0)] [] w := rfl
  rw [h]
  exact sk_unf (sk_c d) sk_fields true sk_t79 [] 2000 rfl
/-- SkylineNester$Sheet.begin(II)V -/
noncomputable abbrev sk_D80 (d : Nat) : sk_K := sk_den (sk_c d) sk_fields false sk_t80
set_option maxRecDepth 100000 in
theorem sk_e80 (d : Nat) (x0 : Nat) (x1 : Int32) (x2 : Int32) (w : sk_W) : sk_c (d + 1) 80 [.ref x0, .int x1, .int x2] w =
  (sk_put w x0 6 1 (.int x1)).bind fun w1 =>
  (sk_put w1 x0 6 2 (.int x2)).bind fun w2 =>
  (sk_getr w2 x0 6 0).bind fun v3 =>
  sk_cv (sk_c d 242 [.ref v3, .int (sj 0)] w2) fun w4 =>
  some (none, w4) := by
  have h : sk_c (d + 1) 80 [.ref x0, .int x1, .int x2] w = sk_D80 d 0 [some (.ref x0), some (.int x1), some (.int x2)] [] w := rfl
  rw [h]
  exact sk_unf (sk_c d) sk_fields false sk_t80 [] 2000 rfl
/-- SkylineNester$Sheet.firstUnlike(LSkylineNester$Plan;)I -/
noncomputable abbrev sk_D81 (d : Nat) : sk_K := sk_den (sk_c d) sk_fields false sk_t81
set_option maxRecDepth 100000 in
theorem sk_e81 (d : Nat) (x0 : Nat) (x1 : Nat) (w : sk_W) : sk_c (d + 1) 81 [.ref x0, .ref x1] w =
  (sk_geti w x0 6 2).bind fun v1 =>
  (sk_geti w x1 3 4).bind fun v2 =>
  sk_ci (sk_c d 240 [.int v1, .int v2] w) fun v4 w3 =>
  sk_D81 d 14 [some (.ref x0), some (.ref x1), some (.int v4), some (.int (sj 0))] [] w3 := by
  have h : sk_c (d + 1) 81 [.ref x0, .ref x1] w = sk_D81 d 0 [some (.ref x0), some (.ref x1), none, none] [] w := rfl
  rw [h]
  exact sk_unf (sk_c d) sk_fields false sk_t81 [14] 2000 rfl
set_option maxRecDepth 100000 in
theorem sk_e81_14 (d : Nat) (x0 : Nat) (x1 : Nat) (x2 : Int32) (x3 : Int32) (w : sk_W) : sk_D81 d 14 [some (.ref x0), some (.ref x1), some (.int x2), some (.int x3)] [] w =
  if sk_cond .ge x3 x2 = true then
    (sk_geti w x0 6 2).bind fun v1 =>
    (sk_geti w x1 3 4).bind fun v2 =>
    if sk_cond .ne v1 v2 = true then
      some (some (.int x2), w)
    else
      some (some (.int (sj (-1))), w)
  else
    (sk_getr w x0 6 0).bind fun v3 =>
    (sk_ald w v3 x3).bind fun v4 =>
    (sk_getr w x1 3 2).bind fun v5 =>
    (sk_ald w v5 x3).bind fun v6 =>
    if sk_cond .eq v4 v6 = true then
      sk_D81 d 14 [some (.ref x0), some (.ref x1), some (.int x2), some (.int (x3 + (sj 1)))] [] w
    else
      some (some (.int x3), w) := sk_unf (sk_c d) sk_fields false sk_t81 [14] 2000 rfl
