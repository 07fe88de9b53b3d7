/-! ===== what each method's run comes to (written by program; each row is found by rfl) ===== -/
/-- SkylineNesterModel.strip(I)I -/
noncomputable abbrev sk_D159 (d : Nat) : sk_K := sk_den (sk_c d) sk_fields false sk_t159
set_option maxRecDepth 100000 in
theorem sk_e159 (d : Nat) (x0 : Nat) (x1 : Int32) (w : sk_W) : sk_c (d + 1) 159 [.ref x0, .int x1] w =
  sk_ci (sk_c d 144 [.int x1, .int (sj 1), .int (sj 20)] w) fun v2 w1 =>
  if sk_cond .ne v2 (sj 0) = true then
    (sk_getr w1 x0 11 1).bind fun v3 =>
    (sk_ald w1 v3 (sj 0)).bind fun v4 =>
    (sk_getr w1 x0 11 1).bind fun v5 =>
    (sk_ald w1 v5 (sj 3)).bind fun v6 =>
    (sk_getr w1 x0 11 1).bind fun v7 =>
    (sk_ald w1 v7 (sj 4)).bind fun v8 =>
    sk_D159 d 38 [some (.ref x0), some (.int x1), some (.int v4), some (.int v6), some (.int v8), some (.int (sj 0))] [] w1
  else
    some (some (.int (sj (-2))), w1) := by
  have h : sk_c (d + 1) 159 [.ref x0, .int x1] w = sk_D159 d 0 [some (.ref x0), some (.int x1), none, none, none, none] [] w := rfl
  rw [h]
  exact sk_unf (sk_c d) sk_fields false sk_t159 [38] 2000 rfl
set_option maxRecDepth 100000 in
theorem sk_e159_38 (d : Nat) (x0 : Nat) (x1 : Int32) (x2 : Int32) (x3 : Int32) (x4 : Int32) (x5 : Int32) (w : sk_W) : sk_D159 d 38 [some (.ref x0), some (.int x1), some (.int x2), some (.int x3), some (.int x4), some (.int x5)] [] w =
  if sk_cond .ge x5 (sj 1141) = true then
    (sk_getr w x0 11 1).bind fun v1 =>
    (sk_ast w v1 (sj 0) x1).bind fun w2 =>
    (sk_getr w2 x0 11 1).bind fun v3 =>
    (sk_ast w2 v3 (sj 3) x3).bind fun w4 =>
    (sk_getr w4 x0 11 1).bind fun v5 =>
    (sk_ast w4 v5 (sj 4) x4).bind fun w6 =>
    if sk_isO w6 x0 11 = true then
    sk_cv (sk_c d 221 [.ref x0] w6) fun w7 =>
    some (some (.int x2), w7) else none
  else
    (sk_getr w x0 11 1).bind fun v8 =>
    (sk_ast w v8 x5 (sj 0)).bind fun w9 =>
    sk_D159 d 38 [some (.ref x0), some (.int x1), some (.int x2), some (.int x3), some (.int x4), some (.int (x5 + (sj 1)))] [] w9 := sk_unf (sk_c d) sk_fields false sk_t159 [38] 2000 rfl
/-- SkylineNesterModel.byteAt(I)I -/
noncomputable abbrev sk_D160 (d : Nat) : sk_K := sk_den (sk_c d) sk_fields false sk_t160
set_option maxRecDepth 100000 in
theorem sk_e160 (d : Nat) (x0 : Nat) (x1 : Int32) (w : sk_W) : sk_c (d + 1) 160 [.ref x0, .int x1] w =
  (sk_geti w x0 11 4).bind fun v1 =>
  if sk_cond .ge x1 v1 = true then
    some (some (.int (sj (-1))), w)
  else
    (sk_getr w x0 11 3).bind fun v2 =>
    (sk_ald w v2 x1).bind fun v3 =>
    some (some (.int v3), w) := by
  have h : sk_c (d + 1) 160 [.ref x0, .int x1] w = sk_D160 d 0 [some (.ref x0), some (.int x1)] [] w := rfl
  rw [h]
  exact sk_unf (sk_c d) sk_fields false sk_t160 [] 2000 rfl
/-- SkylineNesterModel.isDigit(II)Z -/
noncomputable abbrev sk_D161 (d : Nat) : sk_K := sk_den (sk_c d) sk_fields true sk_t161
set_option maxRecDepth 100000 in
theorem sk_e161 (d : Nat) (x0 : Nat) (x1 : Int32) (x2 : Int32) (w : sk_W) : sk_c (d + 1) 161 [.ref x0, .int x1, .int x2] w =
  if sk_isO w x0 11 = true then
  sk_ci (sk_c d 160 [.ref x0, .int x1] w) fun v2 w1 =>
  sk_ci (sk_c d 144 [.int v2, .int ((sj 48) + x2), .int (sj 57)] w1) fun v4 w3 =>
  if v4 = 0 ∨ v4 = 1 then some (some (.int v4), w3) else none else none := by
  have h : sk_c (d + 1) 161 [.ref x0, .int x1, .int x2] w = sk_D161 d 0 [some (.ref x0), some (.int x1), some (.int x2)] [] w := rfl
  rw [h]
  exact sk_unf (sk_c d) sk_fields true sk_t161 [] 2000 rfl
/-- SkylineNesterModel.isBlank(I)Z -/
noncomputable abbrev sk_D162 (d : Nat) : sk_K := sk_den (sk_c d) sk_fields true sk_t162
set_option maxRecDepth 100000 in
theorem sk_e162 (d : Nat) (x0 : Nat) (x1 : Int32) (w : sk_W) : sk_c (d + 1) 162 [.ref x0, .int x1] w =
  if sk_isO w x0 11 = true then
  sk_ci (sk_c d 160 [.ref x0, .int x1] w) fun v2 w1 =>
  if sk_cond .eq v2 (sj 32) = true then
    some (some (.int (sj 1)), w1)
  else
    if sk_isO w1 x0 11 = true then
    sk_ci (sk_c d 160 [.ref x0, .int x1] w1) fun v4 w3 =>
    if sk_cond .ne v4 (sj 10) = true then
      some (some (.int (sj 0)), w3)
    else
      some (some (.int (sj 1)), w3) else none else none := by
  have h : sk_c (d + 1) 162 [.ref x0, .int x1] w = sk_D162 d 0 [some (.ref x0), some (.int x1)] [] w := rfl
  rw [h]
  exact sk_unf (sk_c d) sk_fields true sk_t162 [] 2000 rfl
/-- SkylineNesterModel.reads()I -/
noncomputable abbrev sk_D163 (d : Nat) : sk_K := sk_den (sk_c d) sk_fields false sk_t163
set_option maxRecDepth 100000 in
theorem sk_e163 (d : Nat) (x0 : Nat) (w : sk_W) : sk_c (d + 1) 163 [.ref x0] w =
  (sk_put w x0 11 6 (.int (sj 0))).bind fun w1 =>
  sk_D163 d 7 [some (.ref x0), some (.int (sj 0)), none, none, none, none, none, none, none] [] w1 := by
  have h : sk_c (d + 1) 163 [.ref x0] w = sk_D163 d 0 [some (.ref x0), none, none, none, none, none, none, none, none] [] w := rfl
  rw [h]
  exact sk_unf (sk_c d) sk_fields false sk_t163 [7, 21, 36, 109, 208, 245, 315] 2000 rfl
set_option maxRecDepth 100000 in
theorem sk_e163_7 (d : Nat) (x0 : Nat) (x1 : Int32) (w : sk_W) : sk_D163 d 7 [some (.ref x0), some (.int x1), none, none, none, none, none, none, none] [] w =
  if sk_isO w x0 11 = true then
  sk_ci (sk_c d 162 [.ref x0, .int x1] w) fun v2 w1 =>
  if sk_cond .eq v2 (sj 0) = true then
    sk_D163 d 21 [some (.ref x0), some (.int x1), none, none, none, none, none, none, none] [] w1
  else
    sk_D163 d 7 [some (.ref x0), some (.int (x1 + (sj 1))), none, none, none, none, none, none, none] [] w1 else none := sk_unf (sk_c d) sk_fields false sk_t163 [7, 21, 36, 109, 208, 245, 315] 2000 rfl
set_option maxRecDepth 100000 in
theorem sk_e163_21 (d : Nat) (x0 : Nat) (x1 : Int32) (o2 : Option Value) (o3 : Option Value) (o4 : Option Value) (o5 : Option Value) (o6 : Option Value) (o7 : Option Value) (o8 : Option Value) (w : sk_W) : sk_D163 d 21 [some (.ref x0), some (.int x1), o2, o3, o4, o5, o6, o7, o8] [] w =
  (sk_geti w x0 11 4).bind fun v1 =>
  if sk_cond .lt x1 v1 = true then
    sk_D163 d 36 [some (.ref x0), some (.int x1), o2, o3, o4, o5, o6, o7, o8] [] w
  else
    (sk_geti w x0 11 6).bind fun v2 =>
    if sk_cond .ne v2 (sj 0) = true then
      some (some (.int (sj (-1))), w)
    else
      sk_D163 d 36 [some (.ref x0), some (.int x1), o2, o3, o4, o5, o6, o7, o8] [] w := sk_unf (sk_c d) sk_fields false sk_t163 [7, 21, 36, 109, 208, 245, 315] 2000 rfl
set_option maxRecDepth 100000 in
theorem sk_e163_36 (d : Nat) (x0 : Nat) (x1 : Int32) (o2 : Option Value) (o3 : Option Value) (o4 : Option Value) (o5 : Option Value) (o6 : Option Value) (o7 : Option Value) (o8 : Option Value) (w : sk_W) : sk_D163 d 36 [some (.ref x0), some (.int x1), o2, o3, o4, o5, o6, o7, o8] [] w =
  if sk_isO w x0 11 = true then
  sk_ci (sk_c d 160 [.ref x0, .int x1] w) fun v2 w1 =>
  sk_ci (sk_c d 2 [.int v2] w1) fun v4 w3 =>
  if sk_cond .ne v4 (sj (-1)) = true then
    if sk_isO w3 x0 11 = true then
    sk_ci (sk_c d 161 [.ref x0, .int (x1 + (sj 1)), .int (sj 0)] w3) fun v6 w5 =>
    if sk_cond .ne v6 (sj 0) = true then
      if sk_isO w5 x0 11 = true then
      sk_ci (sk_c d 160 [.ref x0, .int (x1 + (sj 1))] w5) fun v8 w7 =>
      if sk_isO w7 x0 11 = true then
      sk_ci (sk_c d 161 [.ref x0, .int ((x1 + (sj 1)) + (sj 1)), .int (sj 0)] w7) fun v10 w9 =>
      if sk_cond .eq v10 (sj 0) = true then
        sk_D163 d 109 [some (.ref x0), some (.int ((x1 + (sj 1)) + (sj 1))), some (.int v4), some (.int (x1 + (sj 1))), some (.int (v8 - (sj 48))), o5, o6, o7, o8] [] w9
      else
        if sk_isO w9 x0 11 = true then
        sk_ci (sk_c d 160 [.ref x0, .int ((x1 + (sj 1)) + (sj 1))] w9) fun v12 w11 =>
        sk_D163 d 109 [some (.ref x0), some (.int (((x1 + (sj 1)) + (sj 1)) + (sj 1))), some (.int v4), some (.int (x1 + (sj 1))), some (.int ((((sj 10) * (v8 - (sj 48))) + v12) - (sj 48))), o5, o6, o7, o8] [] w11 else none else none else none
    else
      some (some (.int (x1 + (sj 1))), w5) else none
  else
    some (some (.int x1), w3) else none := sk_unf (sk_c d) sk_fields false sk_t163 [7, 21, 36, 109, 208, 245, 315] 2000 rfl
set_option maxRecDepth 100000 in
theorem sk_e163_109 (d : Nat) (x0 : Nat) (x1 : Int32) (x2 : Int32) (x3 : Int32) (x4 : Int32) (o5 : Option Value) (o6 : Option Value) (o7 : Option Value) (o8 : Option Value) (w : sk_W) : sk_D163 d 109 [some (.ref x0), some (.int x1), some (.int x2), some (.int x3), some (.int x4), o5, o6, o7, o8] [] w =
  (sk_getr w x0 11 1).bind fun v1 =>
  (sk_ald w v1 (sj 0)).bind fun v2 =>
  sk_ci (sk_c d 144 [.int x4, .int (sj 1), .int v2] w) fun v4 w3 =>
  if sk_cond .ne v4 (sj 0) = true then
    if sk_isO w3 x0 11 = true then
    sk_ci (sk_c d 160 [.ref x0, .int x1] w3) fun v6 w5 =>
    if sk_cond .eq v6 (sj 120) = true then
      if sk_isO w5 x0 11 = true then
      sk_ci (sk_c d 161 [.ref x0, .int (x1 + (sj 1)), .int (sj 1)] w5) fun v8 w7 =>
      if sk_cond .ne v8 (sj 0) = true then
        if sk_isO w7 x0 11 = true then
        sk_ci (sk_c d 160 [.ref x0, .int (x1 + (sj 1))] w7) fun v10 w9 =>
        if sk_isO w9 x0 11 = true then
        sk_ci (sk_c d 160 [.ref x0, .int ((x1 + (sj 1)) + (sj 1))] w9) fun v12 w11 =>
        if sk_cond .ne v12 (sj 58) = true then
          sk_D163 d 208 [some (.ref x0), some (.int ((x1 + (sj 1)) + (sj 1))), some (.int x2), some (.int x3), some (.int x4), some (.int (v10 - (sj 48))), some (.int (sj 1)), some (.int (sj 1)), o8] [] w11
        else
          if sk_isO w11 x0 11 = true then
          sk_ci (sk_c d 161 [.ref x0, .int (((x1 + (sj 1)) + (sj 1)) + (sj 1)), .int (sj 1)] w11) fun v14 w13 =>
          if sk_cond .ne v14 (sj 0) = true then
            if sk_isO w13 x0 11 = true then
            sk_ci (sk_c d 160 [.ref x0, .int (((x1 + (sj 1)) + (sj 1)) + (sj 1))] w13) fun v16 w15 =>
            sk_D163 d 208 [some (.ref x0), some (.int ((((x1 + (sj 1)) + (sj 1)) + (sj 1)) + (sj 1))), some (.int x2), some (.int x3), some (.int x4), some (.int (v10 - (sj 48))), some (.int (v16 - (sj 48))), some (.int (sj 1)), o8] [] w15 else none
          else
            some (some (.int (((x1 + (sj 1)) + (sj 1)) + (sj 1))), w13) else none else none else none
      else
        some (some (.int (x1 + (sj 1))), w7) else none
    else
      some (some (.int x1), w5) else none
  else
    some (some (.int x3), w3) := sk_unf (sk_c d) sk_fields false sk_t163 [7, 21, 36, 109, 208, 245, 315] 2000 rfl
set_option maxRecDepth 100000 in
theorem sk_e163_208 (d : Nat) (x0 : Nat) (x1 : Int32) (x2 : Int32) (o3 : Option Value) (x4 : Int32) (x5 : Int32) (x6 : Int32) (x7 : Int32) (o8 : Option Value) (w : sk_W) : sk_D163 d 208 [some (.ref x0), some (.int x1), some (.int x2), o3, some (.int x4), some (.int x5), some (.int x6), some (.int x7), o8] [] w =
  if sk_isO w x0 11 = true then
  sk_ci (sk_c d 160 [.ref x0, .int x1] w) fun v2 w1 =>
  if sk_cond .ne v2 (sj 42) = true then
    sk_D163 d 245 [some (.ref x0), some (.int x1), some (.int x2), o3, some (.int x4), some (.int x5), some (.int x6), some (.int x7), o8] [] w1
  else
    if sk_isO w1 x0 11 = true then
    sk_ci (sk_c d 161 [.ref x0, .int (x1 + (sj 1)), .int (sj 1)] w1) fun v4 w3 =>
    if sk_cond .ne v4 (sj 0) = true then
      if sk_isO w3 x0 11 = true then
      sk_ci (sk_c d 160 [.ref x0, .int (x1 + (sj 1))] w3) fun v6 w5 =>
      sk_D163 d 245 [some (.ref x0), some (.int ((x1 + (sj 1)) + (sj 1))), some (.int x2), o3, some (.int x4), some (.int x5), some (.int x6), some (.int (v6 - (sj 48))), o8] [] w5 else none
    else
      some (some (.int (x1 + (sj 1))), w3) else none else none := sk_unf (sk_c d) sk_fields false sk_t163 [7, 21, 36, 109, 208, 245, 315] 2000 rfl
set_option maxRecDepth 100000 in
theorem sk_e163_245 (d : Nat) (x0 : Nat) (x1 : Int32) (x2 : Int32) (o3 : Option Value) (x4 : Int32) (x5 : Int32) (x6 : Int32) (x7 : Int32) (o8 : Option Value) (w : sk_W) : sk_D163 d 245 [some (.ref x0), some (.int x1), some (.int x2), o3, some (.int x4), some (.int x5), some (.int x6), some (.int x7), o8] [] w =
  (sk_geti w x0 11 6).bind fun v1 =>
  (sk_getr w x0 11 5).bind fun v2 =>
  (sk_ast w v2 ((sj 5) * v1) x2).bind fun w3 =>
  (sk_getr w3 x0 11 5).bind fun v4 =>
  (sk_ast w3 v4 (((sj 5) * v1) + (sj 1)) x4).bind fun w5 =>
  (sk_getr w5 x0 11 5).bind fun v6 =>
  (sk_ast w5 v6 (((sj 5) * v1) + (sj 2)) x5).bind fun w7 =>
  (sk_getr w7 x0 11 5).bind fun v8 =>
  (sk_ast w7 v8 (((sj 5) * v1) + (sj 3)) x6).bind fun w9 =>
  (sk_getr w9 x0 11 5).bind fun v10 =>
  (sk_ast w9 v10 (((sj 5) * v1) + (sj 4)) x7).bind fun w11 =>
  (sk_geti w11 x0 11 6).bind fun v12 =>
  (sk_put w11 x0 11 6 (.int (v12 + (sj 1)))).bind fun w13 =>
  sk_D163 d 315 [some (.ref x0), some (.int x1), some (.int x2), o3, some (.int x4), some (.int x5), some (.int x6), some (.int x7), some (.int ((sj 5) * v1))] [] w13 := sk_unf (sk_c d) sk_fields false sk_t163 [7, 21, 36, 109, 208, 245, 315] 2000 rfl
set_option maxRecDepth 100000 in
theorem sk_e163_315 (d : Nat) (x0 : Nat) (x1 : Int32) (o2 : Option Value) (o3 : Option Value) (o4 : Option Value) (o5 : Option Value) (o6 : Option Value) (o7 : Option Value) (o8 : Option Value) (w : sk_W) : sk_D163 d 315 [some (.ref x0), some (.int x1), o2, o3, o4, o5, o6, o7, o8] [] w =
  if sk_isO w x0 11 = true then
  sk_ci (sk_c d 162 [.ref x0, .int x1] w) fun v2 w1 =>
  if sk_cond .eq v2 (sj 0) = true then
    sk_D163 d 21 [some (.ref x0), some (.int x1), o2, o3, o4, o5, o6, o7, o8] [] w1
  else
    sk_D163 d 315 [some (.ref x0), some (.int (x1 + (sj 1))), o2, o3, o4, o5, o6, o7, o8] [] w1 else none := sk_unf (sk_c d) sk_fields false sk_t163 [7, 21, 36, 109, 208, 245, 315] 2000 rfl
/-- SkylineNesterModel.parts()I -/
noncomputable abbrev sk_D164 (d : Nat) : sk_K := sk_den (sk_c d) sk_fields false sk_t164
set_option maxRecDepth 100000 in
theorem sk_e164 (d : Nat) (x0 : Nat) (w : sk_W) : sk_c (d + 1) 164 [.ref x0] w =
  if sk_isO w x0 11 = true then
  sk_ci (sk_c d 163 [.ref x0] w) fun v2 w1 =>
  (sk_put w1 x0 11 4 (.int (sj 0))).bind fun w3 =>
  if sk_cond .eq v2 (sj (-1)) = true then
    sk_D164 d 24 [some (.ref x0), some (.int v2), some (.int (sj 0)), some (.int (sj 0)), none, none] [] w3
  else
    some (some (.int ((sj (-100)) - v2)), w3) else none := by
  have h : sk_c (d + 1) 164 [.ref x0] w = sk_D164 d 0 [some (.ref x0), none, none, none, none, none] [] w := rfl
  rw [h]
  exact sk_unf (sk_c d) sk_fields false sk_t164 [24, 69, 80] 2000 rfl
set_option maxRecDepth 100000 in
theorem sk_e164_24 (d : Nat) (x0 : Nat) (o1 : Option Value) (x2 : Int32) (x3 : Int32) (w : sk_W) : sk_D164 d 24 [some (.ref x0), o1, some (.int x2), some (.int x3), none, none] [] w =
  (sk_geti w x0 11 6).bind fun v1 =>
  if sk_cond .ge x3 v1 = true then
    (sk_getr w x0 11 1).bind fun v2 =>
    (sk_ald w v2 (sj 1)).bind fun v3 =>
    if sk_cond .le (v3 + x2) (sj 10) = true then
      sk_D164 d 69 [some (.ref x0), o1, some (.int x2), some (.int (sj 0)), none, none] [] w
    else
      some (some (.int (sj (-4))), w)
  else
    (sk_getr w x0 11 5).bind fun v4 =>
    (sk_ald w v4 (((sj 5) * x3) + (sj 4))).bind fun v5 =>
    sk_D164 d 24 [some (.ref x0), o1, some (.int (x2 + v5)), some (.int (x3 + (sj 1))), none, none] [] w := sk_unf (sk_c d) sk_fields false sk_t164 [24, 69, 80] 2000 rfl
set_option maxRecDepth 100000 in
theorem sk_e164_69 (d : Nat) (x0 : Nat) (o1 : Option Value) (o2 : Option Value) (x3 : Int32) (o4 : Option Value) (o5 : Option Value) (w : sk_W) : sk_D164 d 69 [some (.ref x0), o1, o2, some (.int x3), o4, o5] [] w =
  (sk_geti w x0 11 6).bind fun v1 =>
  if sk_cond .ge x3 v1 = true then
    (sk_getr w x0 11 1).bind fun v2 =>
    (sk_ald w v2 (sj 1)).bind fun v3 =>
    some (some (.int v3), w)
  else
    sk_D164 d 80 [some (.ref x0), o1, o2, some (.int x3), some (.int (sj 0)), o5] [] w := sk_unf (sk_c d) sk_fields false sk_t164 [24, 69, 80] 2000 rfl
set_option maxRecDepth 100000 in
theorem sk_e164_80 (d : Nat) (x0 : Nat) (o1 : Option Value) (o2 : Option Value) (x3 : Int32) (x4 : Int32) (o5 : Option Value) (w : sk_W) : sk_D164 d 80 [some (.ref x0), o1, o2, some (.int x3), some (.int x4), o5] [] w =
  (sk_getr w x0 11 5).bind fun v1 =>
  (sk_ald w v1 (((sj 5) * x3) + (sj 4))).bind fun v2 =>
  if sk_cond .ge x4 v2 = true then
    sk_D164 d 69 [some (.ref x0), o1, o2, some (.int (x3 + (sj 1))), some (.int x4), o5] [] w
  else
    (sk_getr w x0 11 1).bind fun v3 =>
    (sk_ald w v3 (sj 1)).bind fun v4 =>
    (sk_getr w x0 11 1).bind fun v5 =>
    (sk_getr w x0 11 5).bind fun v6 =>
    (sk_ald w v6 ((sj 5) * x3)).bind fun v7 =>
    (sk_ast w v5 ((sj 7) + v4) v7).bind fun w8 =>
    (sk_getr w8 x0 11 1).bind fun v9 =>
    (sk_getr w8 x0 11 5).bind fun v10 =>
    (sk_ald w8 v10 (((sj 5) * x3) + (sj 1))).bind fun v11 =>
    (sk_ast w8 v9 ((sj 17) + v4) v11).bind fun w12 =>
    (sk_getr w12 x0 11 1).bind fun v13 =>
    (sk_getr w12 x0 11 5).bind fun v14 =>
    (sk_ald w12 v14 (((sj 5) * x3) + (sj 2))).bind fun v15 =>
    (sk_ast w12 v13 ((sj 27) + v4) v15).bind fun w16 =>
    (sk_getr w16 x0 11 1).bind fun v17 =>
    (sk_getr w16 x0 11 5).bind fun v18 =>
    (sk_ald w16 v18 (((sj 5) * x3) + (sj 3))).bind fun v19 =>
    (sk_ast w16 v17 ((sj 37) + v4) v19).bind fun w20 =>
    (sk_getr w20 x0 11 1).bind fun v21 =>
    (sk_ast w20 v21 ((sj 77) + v4) (sj 0)).bind fun w22 =>
    (sk_getr w22 x0 11 1).bind fun v23 =>
    (sk_ast w22 v23 ((sj 67) + v4) (sj 0)).bind fun w24 =>
    (sk_getr w24 x0 11 1).bind fun v25 =>
    (sk_ald w24 v25 (sj 1)).bind fun v26 =>
    (sk_ast w24 v25 (sj 1) (v26 + (sj 1))).bind fun w27 =>
    sk_D164 d 80 [some (.ref x0), o1, o2, some (.int x3), some (.int (x4 + (sj 1))), some (.int v4)] [] w27 := sk_unf (sk_c d) sk_fields false sk_t164 [24, 69, 80] 2000 rfl
/-- SkylineNesterModel.told(II)I -/
noncomputable abbrev sk_D165 (d : Nat) : sk_K := sk_den (sk_c d) sk_fields false sk_t165
set_option maxRecDepth 100000 in
theorem sk_e165 (d : Nat) (x0 : Nat) (x1 : Int32) (x2 : Int32) (w : sk_W) : sk_c (d + 1) 165 [.ref x0, .int x1, .int x2] w =
  if sk_isO w x0 11 = true then
  sk_ci (sk_c d 148 [.ref x0, .int x1] w) fun v2 w1 =>
  if sk_cond .eq v2 (sj 0) = true then
    some (some (.int (sj (-2))), w1)
  else
    sk_ci (sk_c d 144 [.int x2, .int (sj 0), .int (sj 7)] w1) fun v4 w3 =>
    if sk_cond .ne v4 (sj 0) = true then
      (sk_getr w3 x0 11 1).bind fun v5 =>
      (sk_ald w3 v5 ((sj 77) + x1)).bind fun v6 =>
      if sk_cond .eq v6 (sj 0) = true then
        sk_D165 d 38 [some (.ref x0), some (.int x1), some (.int x2), none] [.int (sj 0)] w3
      else
        sk_D165 d 38 [some (.ref x0), some (.int x1), some (.int x2), none] [.int (sj 1)] w3
    else
      some (some (.int (sj (-2))), w3) else none := by
  have h : sk_c (d + 1) 165 [.ref x0, .int x1, .int x2] w = sk_D165 d 0 [some (.ref x0), some (.int x1), some (.int x2), none] [] w := rfl
  rw [h]
  exact sk_unf (sk_c d) sk_fields false sk_t165 [38] 2000 rfl
set_option maxRecDepth 100000 in
theorem sk_e165_38 (d : Nat) (x0 : Nat) (x1 : Int32) (x2 : Int32) (s0 : Int32) (w : sk_W) : sk_D165 d 38 [some (.ref x0), some (.int x1), some (.int x2), none] [.int s0] w =
  if Int32.toInt x2 = 0 then
    (sk_getr w x0 11 1).bind fun v1 =>
    (sk_ald w v1 ((sj 7) + x1)).bind fun v2 =>
    some (some (.int v2), w)
  else if Int32.toInt x2 = 1 then
    (sk_getr w x0 11 1).bind fun v3 =>
    (sk_ald w v3 ((sj 17) + x1)).bind fun v4 =>
    some (some (.int v4), w)
  else if Int32.toInt x2 = 2 then
    (sk_getr w x0 11 1).bind fun v5 =>
    (sk_ald w v5 ((sj 27) + x1)).bind fun v6 =>
    some (some (.int v6), w)
  else if Int32.toInt x2 = 3 then
    (sk_getr w x0 11 1).bind fun v7 =>
    (sk_ald w v7 ((sj 37) + x1)).bind fun v8 =>
    some (some (.int v8), w)
  else if Int32.toInt x2 = 4 then
    if sk_cond .eq s0 (sj 0) = true then
      some (some (.int (sj (-1))), w)
    else
      (sk_getr w x0 11 1).bind fun v9 =>
      (sk_ald w v9 ((sj 47) + x1)).bind fun v10 =>
      some (some (.int v10), w)
  else if Int32.toInt x2 = 5 then
    if sk_cond .eq s0 (sj 0) = true then
      some (some (.int (sj (-1))), w)
    else
      (sk_getr w x0 11 1).bind fun v11 =>
      (sk_ald w v11 ((sj 57) + x1)).bind fun v12 =>
      some (some (.int v12), w)
  else if Int32.toInt x2 = 6 then
    if sk_cond .eq s0 (sj 0) = true then
      some (some (.int (sj (-1))), w)
    else
      (sk_getr w x0 11 1).bind fun v13 =>
      (sk_ald w v13 ((sj 67) + x1)).bind fun v14 =>
      some (some (.int v14), w)
  else 
    (sk_getr w x0 11 1).bind fun v15 =>
    (sk_ald w v15 ((sj 77) + x1)).bind fun v16 =>
    some (some (.int v16), w) := sk_unf (sk_c d) sk_fields false sk_t165 [38] 2000 rfl
/-- SkylineNesterModel.taken(II)I -/
noncomputable abbrev sk_D166 (d : Nat) : sk_K := sk_den (sk_c d) sk_fields false sk_t166
set_option maxRecDepth 100000 in
theorem sk_e166 (d : Nat) (x0 : Nat) (x1 : Int32) (x2 : Int32) (w : sk_W) : sk_c (d + 1) 166 [.ref x0, .int x1, .int x2] w =
  if sk_isO w x0 11 = true then
  sk_ci (sk_c d 148 [.ref x0, .int x1] w) fun v2 w1 =>
  if sk_cond .eq v2 (sj 0) = true then
    some (some (.int (sj (-2))), w1)
  else
    sk_ci (sk_c d 144 [.int x2, .int (sj 0), .int (sj 5)] w1) fun v4 w3 =>
    if sk_cond .ne v4 (sj 0) = true then
      (sk_getr w3 x0 11 1).bind fun v5 =>
      (sk_ald w3 v5 ((sj 7) + x1)).bind fun v6 =>
      sk_ci (sk_c d 149 [.int v6, .int x2] w3) fun v8 w7 =>
      if sk_cond .eq v8 (sj 0) = true then
        some (some (.int (sj (-13))), w7)
      else
        if sk_isO w7 x0 11 = true then
        sk_ci (sk_c d 151 [.ref x0, .int x1, .int (sj 0)] w7) fun v10 w9 =>
        if sk_isO w9 x0 11 = true then
        sk_ci (sk_c d 152 [.ref x0, .int x1, .int (sj 0)] w9) fun v12 w11 =>
        some (some (.int (v10 * v12)), w11) else none else none
    else
      some (some (.int (sj (-2))), w3) else none := by
  have h : sk_c (d + 1) 166 [.ref x0, .int x1, .int x2] w = sk_D166 d 0 [some (.ref x0), some (.int x1), some (.int x2)] [] w := rfl
  rw [h]
  exact sk_unf (sk_c d) sk_fields false sk_t166 [] 2000 rfl
/-- SkylineNesterModel.liesLoose()Z -/
noncomputable abbrev sk_D167 (d : Nat) : sk_K := sk_den (sk_c d) sk_fields true sk_t167
set_option maxRecDepth 100000 in
theorem sk_e167 (d : Nat) (x0 : Nat) (w : sk_W) : sk_c (d + 1) 167 [.ref x0] w =
  sk_D167 d 2 [some (.ref x0), some (.int (sj 0))] [] w := by
  have h : sk_c (d + 1) 167 [.ref x0] w = sk_D167 d 0 [some (.ref x0), none] [] w := rfl
  rw [h]
  exact sk_unf (sk_c d) sk_fields true sk_t167 [2] 2000 rfl
set_option maxRecDepth 100000 in
theorem sk_e167_2 (d : Nat) (x0 : Nat) (x1 : Int32) (w : sk_W) : sk_D167 d 2 [some (.ref x0), some (.int x1)] [] w =
  (sk_getr w x0 11 1).bind fun v1 =>
  (sk_ald w v1 (sj 1)).bind fun v2 =>
  if sk_cond .ge x1 v2 = true then
    some (some (.int (sj 0)), w)
  else
    (sk_getr w x0 11 1).bind fun v3 =>
    (sk_ald w v3 ((sj 77) + x1)).bind fun v4 =>
    if sk_cond .le v4 (sj 1) = true then
      sk_D167 d 2 [some (.ref x0), some (.int (x1 + (sj 1)))] [] w
    else
      some (some (.int (sj 1)), w) := sk_unf (sk_c d) sk_fields true sk_t167 [2] 2000 rfl
/-- SkylineNesterModel.isOrdered(I)Z -/
noncomputable abbrev sk_D168 (d : Nat) : sk_K := sk_den (sk_c d) sk_fields true sk_t168
set_option maxRecDepth 100000 in
theorem sk_e168 (d : Nat) (x0 : Nat) (x1 : Int32) (w : sk_W) : sk_c (d + 1) 168 [.ref x0, .int x1] w =
  sk_D168 d 2 [some (.ref x0), some (.int x1), some (.int (sj 0))] [] w := by
  have h : sk_c (d + 1) 168 [.ref x0, .int x1] w = sk_D168 d 0 [some (.ref x0), some (.int x1), none] [] w := rfl
  rw [h]
  exact sk_unf (sk_c d) sk_fields true sk_t168 [2] 2000 rfl
set_option maxRecDepth 100000 in
theorem sk_e168_2 (d : Nat) (x0 : Nat) (x1 : Int32) (x2 : Int32) (w : sk_W) : sk_D168 d 2 [some (.ref x0), some (.int x1), some (.int x2)] [] w =
  (sk_getr w x0 11 1).bind fun v1 =>
  (sk_ald w v1 (sj 2)).bind fun v2 =>
  if sk_cond .ge x2 v2 = true then
    some (some (.int (sj 0)), w)
  else
    (sk_getr w x0 11 1).bind fun v3 =>
    (sk_ald w v3 ((sj 87) + x2)).bind fun v4 =>
    if sk_cond .ne v4 x1 = true then
      sk_D168 d 2 [some (.ref x0), some (.int x1), some (.int (x2 + (sj 1)))] [] w
    else
      some (some (.int (sj 1)), w) := sk_unf (sk_c d) sk_fields true sk_t168 [2] 2000 rfl
/-- SkylineNesterModel.fix(III)I -/
noncomputable abbrev sk_D169 (d : Nat) : sk_K := sk_den (sk_c d) sk_fields false sk_t169
set_option maxRecDepth 100000 in
theorem sk_e169 (d : Nat) (x0 : Nat) (x1 : Int32) (x2 : Int32) (x3 : Int32) (w : sk_W) : sk_c (d + 1) 169 [.ref x0, .int x1, .int x2, .int x3] w =
  if sk_isO w x0 11 = true then
  sk_ci (sk_c d 148 [.ref x0, .int x1] w) fun v2 w1 =>
  if sk_cond .eq v2 (sj 0) = true then
    some (some (.int (sj (-2))), w1)
  else
    sk_ci (sk_c d 144 [.int x2, .int (sj (-1)), .int (sj 19)] w1) fun v4 w3 =>
    if sk_cond .eq v4 (sj 0) = true then
      some (some (.int (sj (-2))), w3)
    else
      if sk_cond .eq x2 (sj (-1)) = true then
        (sk_getr w3 x0 11 1).bind fun v5 =>
        (sk_ald w3 v5 ((sj 77) + x1)).bind fun v6 =>
        if sk_cond .ne v6 (sj 1) = true then
          sk_D169 d 54 [some (.ref x0), some (.int x1), some (.int x2), some (.int x3), none] [.int (sj 0)] w3
        else
          sk_D169 d 54 [some (.ref x0), some (.int x1), some (.int x2), some (.int x3), none] [.int (sj 1)] w3
      else
        sk_ci (sk_c d 144 [.int x3, .int (sj 0), .int (sj 60)] w3) fun v8 w7 =>
        if sk_cond .ne v8 (sj 0) = true then
          (sk_getr w7 x0 11 1).bind fun v9 =>
          (sk_ald w7 v9 ((sj 77) + x1)).bind fun v10 =>
          if sk_cond .ne v10 (sj 1) = true then
            sk_D169 d 54 [some (.ref x0), some (.int x1), some (.int x2), some (.int x3), none] [.int (sj 0)] w7
          else
            sk_D169 d 54 [some (.ref x0), some (.int x1), some (.int x2), some (.int x3), none] [.int (sj 1)] w7
        else
          some (some (.int (sj (-2))), w7) else none := by
  have h : sk_c (d + 1) 169 [.ref x0, .int x1, .int x2, .int x3] w = sk_D169 d 0 [some (.ref x0), some (.int x1), some (.int x2), some (.int x3), none] [] w := rfl
  rw [h]
  exact sk_unf (sk_c d) sk_fields false sk_t169 [54, 83] 2000 rfl
set_option maxRecDepth 100000 in
theorem sk_e169_54 (d : Nat) (x0 : Nat) (x1 : Int32) (x2 : Int32) (x3 : Int32) (s0 : Int32) (w : sk_W) : sk_D169 d 54 [some (.ref x0), some (.int x1), some (.int x2), some (.int x3), none] [.int s0] w =
  if sk_isO w x0 11 = true then
  sk_ci (sk_c d 167 [.ref x0] w) fun v2 w1 =>
  if sk_cond .ne v2 (sj 0) = true then
    some (some (.int (sj (-3))), w1)
  else
    if sk_isO w1 x0 11 = true then
    sk_ci (sk_c d 168 [.ref x0, .int x1] w1) fun v4 w3 =>
    if sk_cond .ne v4 (sj 0) = true then
      some (some (.int (sj (-3))), w3)
    else
      if sk_cond .ne x2 (sj (-1)) = true then
        sk_D169 d 83 [some (.ref x0), some (.int x1), some (.int x2), some (.int x3), some (.int s0)] [.int (sj 0), .int s0] w3
      else
        sk_D169 d 83 [some (.ref x0), some (.int x1), some (.int x2), some (.int x3), some (.int s0)] [.int (sj 1), .int s0] w3 else none else none := sk_unf (sk_c d) sk_fields false sk_t169 [54, 83] 2000 rfl
set_option maxRecDepth 100000 in
theorem sk_e169_83 (d : Nat) (x0 : Nat) (x1 : Int32) (x2 : Int32) (x3 : Int32) (o4 : Option Value) (s0 : Int32) (s1 : Int32) (w : sk_W) : sk_D169 d 83 [some (.ref x0), some (.int x1), some (.int x2), some (.int x3), o4] [.int s1, .int s0] w =
  if sk_cond .eq s0 s1 = true then
    if sk_cond .ne x2 (sj (-1)) = true then
      if sk_isO w x0 11 = true then
      sk_ci (sk_c d 151 [.ref x0, .int x1, .int (sj 0)] w) fun v2 w1 =>
      (sk_getr w1 x0 11 1).bind fun v3 =>
      (sk_ald w1 v3 (sj 0)).bind fun v4 =>
      if sk_cond .le (x2 + v2) v4 = true then
        if sk_isO w1 x0 11 = true then
        sk_ci (sk_c d 151 [.ref x0, .int x1, .int (sj 0)] w1) fun v6 w5 =>
        if sk_isO w5 x0 11 = true then
        sk_ci (sk_c d 152 [.ref x0, .int x1, .int (sj 0)] w5) fun v8 w7 =>
        if sk_isO w7 x0 11 = true then
        sk_ci (sk_c d 157 [.ref x0, .int x2, .int x3, .int v6, .int v8] w7) fun v10 w9 =>
        if sk_cond .eq v10 (sj 0) = true then
          (sk_getr w9 x0 11 1).bind fun v11 =>
          (sk_ast w9 v11 ((sj 77) + x1) (sj 1)).bind fun w12 =>
          (sk_getr w12 x0 11 1).bind fun v13 =>
          (sk_ast w12 v13 ((sj 67) + x1) (sj 0)).bind fun w14 =>
          (sk_getr w14 x0 11 1).bind fun v15 =>
          (sk_ast w14 v15 ((sj 47) + x1) x2).bind fun w16 =>
          (sk_getr w16 x0 11 1).bind fun v17 =>
          (sk_ast w16 v17 ((sj 57) + x1) x3).bind fun w18 =>
          some (some (.int (sj 1)), w18)
        else
          some (some (.int (sj (-15))), w9) else none else none else none
      else
        some (some (.int (sj (-12))), w1) else none
    else
      (sk_getr w x0 11 1).bind fun v19 =>
      (sk_ast w v19 ((sj 77) + x1) (sj 0)).bind fun w20 =>
      some (some (.int (sj 1)), w20)
  else
    some (some (.int (sj (-3))), w) := sk_unf (sk_c d) sk_fields false sk_t169 [54, 83] 2000 rfl
/-- SkylineNesterModel.order(I)I -/
noncomputable abbrev sk_D170 (d : Nat) : sk_K := sk_den (sk_c d) sk_fields false sk_t170
set_option maxRecDepth 100000 in
theorem sk_e170 (d : Nat) (x0 : Nat) (x1 : Int32) (w : sk_W) : sk_c (d + 1) 170 [.ref x0, .int x1] w =
  if sk_cond .ne x1 (sj (-1)) = true then
    sk_ci (sk_c d 220 [.int x1] w) fun v2 w1 =>
    if sk_cond .ne v2 (sj 0) = true then
      (sk_getr w1 x0 11 16).bind fun v3 =>
      (sk_ald w1 v3 x1).bind fun v4 =>
      if sk_cond .ge v4 (sj 0) = true then
        sk_D170 d 84 [some (.ref x0), some (.int x1), some (.int (sj 0)), none, none] [] w1
      else
        some (some (.int (sj (-11))), w1)
    else
      some (some (.int (sj (-2))), w1)
  else
    sk_D170 d 9 [some (.ref x0), some (.int x1), some (.int (sj 0)), some (.int (sj 0)), none] [] w := by
  have h : sk_c (d + 1) 170 [.ref x0, .int x1] w = sk_D170 d 0 [some (.ref x0), some (.int x1), none, none, none] [] w := rfl
  rw [h]
  exact sk_unf (sk_c d) sk_fields false sk_t170 [9, 84, 130, 168] 2000 rfl
set_option maxRecDepth 100000 in
theorem sk_e170_9 (d : Nat) (x0 : Nat) (o1 : Option Value) (x2 : Int32) (x3 : Int32) (w : sk_W) : sk_D170 d 9 [some (.ref x0), o1, some (.int x2), some (.int x3), none] [] w =
  (sk_getr w x0 11 1).bind fun v1 =>
  (sk_ald w v1 (sj 1)).bind fun v2 =>
  if sk_cond .ge x3 v2 = true then
    (sk_getr w x0 11 1).bind fun v3 =>
    (sk_ast w v3 (sj 2) x2).bind fun w4 =>
    some (some (.int x2), w4)
  else
    (sk_getr w x0 11 1).bind fun v5 =>
    (sk_ald w v5 ((sj 77) + x3)).bind fun v6 =>
    if sk_cond .eq v6 (sj 1) = true then
      sk_D170 d 9 [some (.ref x0), o1, some (.int x2), some (.int (x3 + (sj 1))), none] [] w
    else
      (sk_getr w x0 11 1).bind fun v7 =>
      (sk_ast w v7 ((sj 87) + x2) x3).bind fun w8 =>
      sk_D170 d 9 [some (.ref x0), o1, some (.int (x2 + (sj 1))), some (.int (x3 + (sj 1))), none] [] w8 := sk_unf (sk_c d) sk_fields false sk_t170 [9, 84, 130, 168] 2000 rfl
set_option maxRecDepth 100000 in
theorem sk_e170_84 (d : Nat) (x0 : Nat) (x1 : Int32) (x2 : Int32) (o3 : Option Value) (o4 : Option Value) (w : sk_W) : sk_D170 d 84 [some (.ref x0), some (.int x1), some (.int x2), o3, o4] [] w =
  (sk_getr w x0 11 16).bind fun v1 =>
  (sk_ald w v1 x1).bind fun v2 =>
  if sk_cond .ge x2 v2 = true then
    sk_D170 d 168 [some (.ref x0), some (.int x1), some (.int (sj 0)), some (.int (sj 0)), o4] [] w
  else
    (sk_getr w x0 11 18).bind fun v3 =>
    (sk_aldr w v3 x1).bind fun v4 =>
    (sk_ald w v4 x2).bind fun v5 =>
    if sk_cond .ne v5 (sj (-1)) = true then
      (sk_getr w x0 11 1).bind fun v6 =>
      (sk_ald w v6 ((sj 77) + v5)).bind fun v7 =>
      if sk_cond .ne v7 (sj 1) = true then
        sk_D170 d 130 [some (.ref x0), some (.int x1), some (.int x2), some (.int v5), some (.int (sj 0))] [] w
      else
        some (some (.int (sj (-3))), w)
    else
      sk_D170 d 84 [some (.ref x0), some (.int x1), some (.int (x2 + (sj 1))), some (.int v5), o4] [] w := sk_unf (sk_c d) sk_fields false sk_t170 [9, 84, 130, 168] 2000 rfl
set_option maxRecDepth 100000 in
theorem sk_e170_130 (d : Nat) (x0 : Nat) (x1 : Int32) (x2 : Int32) (x3 : Int32) (x4 : Int32) (w : sk_W) : sk_D170 d 130 [some (.ref x0), some (.int x1), some (.int x2), some (.int x3), some (.int x4)] [] w =
  if sk_cond .ge x4 x2 = true then
    sk_D170 d 84 [some (.ref x0), some (.int x1), some (.int (x2 + (sj 1))), some (.int x3), some (.int x4)] [] w
  else
    (sk_getr w x0 11 18).bind fun v1 =>
    (sk_aldr w v1 x1).bind fun v2 =>
    (sk_ald w v2 x4).bind fun v3 =>
    if sk_cond .ne v3 x3 = true then
      sk_D170 d 130 [some (.ref x0), some (.int x1), some (.int x2), some (.int x3), some (.int (x4 + (sj 1)))] [] w
    else
      some (some (.int (sj (-3))), w) := sk_unf (sk_c d) sk_fields false sk_t170 [9, 84, 130, 168] 2000 rfl
set_option maxRecDepth 100000 in
theorem sk_e170_168 (d : Nat) (x0 : Nat) (x1 : Int32) (x2 : Int32) (x3 : Int32) (o4 : Option Value) (w : sk_W) : sk_D170 d 168 [some (.ref x0), some (.int x1), some (.int x2), some (.int x3), o4] [] w =
  (sk_getr w x0 11 16).bind fun v1 =>
  (sk_ald w v1 x1).bind fun v2 =>
  if sk_cond .ge x3 v2 = true then
    (sk_getr w x0 11 1).bind fun v3 =>
    (sk_ast w v3 (sj 2) x2).bind fun w4 =>
    some (some (.int x2), w4)
  else
    (sk_getr w x0 11 18).bind fun v5 =>
    (sk_aldr w v5 x1).bind fun v6 =>
    (sk_ald w v6 x3).bind fun v7 =>
    if sk_cond .eq v7 (sj (-1)) = true then
      sk_D170 d 168 [some (.ref x0), some (.int x1), some (.int x2), some (.int (x3 + (sj 1))), o4] [] w
    else
      (sk_getr w x0 11 1).bind fun v8 =>
      (sk_getr w x0 11 18).bind fun v9 =>
      (sk_aldr w v9 x1).bind fun v10 =>
      (sk_ald w v10 x3).bind fun v11 =>
      (sk_ast w v8 ((sj 87) + x2) v11).bind fun w12 =>
      sk_D170 d 168 [some (.ref x0), some (.int x1), some (.int (x2 + (sj 1))), some (.int (x3 + (sj 1))), o4] [] w12 := sk_unf (sk_c d) sk_fields false sk_t170 [9, 84, 130, 168] 2000 rfl
/-- SkylineNesterModel.exchange(II)V -/
noncomputable abbrev sk_D171 (d : Nat) : sk_K := sk_den (sk_c d) sk_fields false sk_t171
set_option maxRecDepth 100000 in
theorem sk_e171 (d : Nat) (x0 : Nat) (x1 : Int32) (x2 : Int32) (w : sk_W) : sk_c (d + 1) 171 [.ref x0, .int x1, .int x2] w =
  (sk_getr w x0 11 1).bind fun v1 =>
  (sk_ald w v1 ((sj 87) + x1)).bind fun v2 =>
  (sk_getr w x0 11 1).bind fun v3 =>
  (sk_getr w x0 11 1).bind fun v4 =>
  (sk_ald w v4 ((sj 87) + x2)).bind fun v5 =>
  (sk_ast w v3 ((sj 87) + x1) v5).bind fun w6 =>
  (sk_getr w6 x0 11 1).bind fun v7 =>
  (sk_ast w6 v7 ((sj 87) + x2) v2).bind fun w8 =>
  some (none, w8) := by
  have h : sk_c (d + 1) 171 [.ref x0, .int x1, .int x2] w = sk_D171 d 0 [some (.ref x0), some (.int x1), some (.int x2), none] [] w := rfl
  rw [h]
  exact sk_unf (sk_c d) sk_fields false sk_t171 [] 2000 rfl
/-- SkylineNesterModel.swap(II)I -/
noncomputable abbrev sk_D172 (d : Nat) : sk_K := sk_den (sk_c d) sk_fields false sk_t172
set_option maxRecDepth 100000 in
theorem sk_e172 (d : Nat) (x0 : Nat) (x1 : Int32) (x2 : Int32) (w : sk_W) : sk_c (d + 1) 172 [.ref x0, .int x1, .int x2] w =
  (sk_getr w x0 11 1).bind fun v1 =>
  (sk_ald w v1 (sj 2)).bind fun v2 =>
  sk_ci (sk_c d 144 [.int x1, .int (sj 0), .int (v2 - (sj 1))] w) fun v4 w3 =>
  if sk_cond .eq v4 (sj 0) = true then
    some (some (.int (sj (-12))), w3)
  else
    (sk_getr w3 x0 11 1).bind fun v5 =>
    (sk_ald w3 v5 (sj 2)).bind fun v6 =>
    sk_ci (sk_c d 144 [.int x2, .int (sj 0), .int (v6 - (sj 1))] w3) fun v8 w7 =>
    if sk_cond .ne v8 (sj 0) = true then
      if sk_isO w7 x0 11 = true then
      sk_cv (sk_c d 171 [.ref x0, .int x1, .int x2] w7) fun w9 =>
      (sk_getr w9 x0 11 1).bind fun v10 =>
      (sk_ald w9 v10 ((sj 87) + x1)).bind fun v11 =>
      some (some (.int v11), w9) else none
    else
      some (some (.int (sj (-12))), w7) := by
  have h : sk_c (d + 1) 172 [.ref x0, .int x1, .int x2] w = sk_D172 d 0 [some (.ref x0), some (.int x1), some (.int x2)] [] w := rfl
  rw [h]
  exact sk_unf (sk_c d) sk_fields false sk_t172 [] 2000 rfl
/-- SkylineNesterModel.rule(II)I -/
noncomputable abbrev sk_D173 (d : Nat) : sk_K := sk_den (sk_c d) sk_fields false sk_t173
set_option maxRecDepth 100000 in
theorem sk_e173 (d : Nat) (x0 : Nat) (x1 : Int32) (x2 : Int32) (w : sk_W) : sk_c (d + 1) 173 [.ref x0, .int x1, .int x2] w =
  sk_ci (sk_c d 144 [.int x1, .int (sj 0), .int (sj 3)] w) fun v2 w1 =>
  if sk_cond .eq v2 (sj 0) = true then
    some (some (.int (sj (-2))), w1)
  else
    sk_ci (sk_c d 144 [.int x2, .int (sj 0), .int (sj 1)] w1) fun v4 w3 =>
    if sk_cond .ne v4 (sj 0) = true then
      (sk_getr w3 x0 11 1).bind fun v5 =>
      (sk_ald w3 v5 (sj 3)).bind fun v6 =>
      (sk_getr w3 x0 11 1).bind fun v7 =>
      (sk_ald w3 v7 (sj 4)).bind fun v8 =>
      (sk_getr w3 x0 11 1).bind fun v9 =>
      (sk_ast w3 v9 (sj 3) x1).bind fun w10 =>
      (sk_getr w10 x0 11 1).bind fun v11 =>
      (sk_ast w10 v11 (sj 4) x2).bind fun w12 =>
      some (some (.int (((sj 2) * v6) + v8)), w12)
    else
      some (some (.int (sj (-2))), w3) := by
  have h : sk_c (d + 1) 173 [.ref x0, .int x1, .int x2] w = sk_D173 d 0 [some (.ref x0), some (.int x1), some (.int x2), none] [] w := rfl
  rw [h]
  exact sk_unf (sk_c d) sk_fields false sk_t173 [] 2000 rfl
/-- SkylineNesterModel.wastedAt(III)I -/
noncomputable abbrev sk_D174 (d : Nat) : sk_K := sk_den (sk_c d) sk_fields false sk_t174
set_option maxRecDepth 100000 in
theorem sk_e174 (d : Nat) (x0 : Nat) (x1 : Int32) (x2 : Int32) (x3 : Int32) (w : sk_W) : sk_c (d + 1) 174 [.ref x0, .int x1, .int x2, .int x3] w =
  sk_D174 d 6 [some (.ref x0), some (.int x1), some (.int x2), some (.int x3), some (.int (sj 0)), some (.int x1)] [] w := by
  have h : sk_c (d + 1) 174 [.ref x0, .int x1, .int x2, .int x3] w = sk_D174 d 0 [some (.ref x0), some (.int x1), some (.int x2), some (.int x3), none, none] [] w := rfl
  rw [h]
  exact sk_unf (sk_c d) sk_fields false sk_t174 [6] 2000 rfl
set_option maxRecDepth 100000 in
theorem sk_e174_6 (d : Nat) (x0 : Nat) (x1 : Int32) (x2 : Int32) (x3 : Int32) (x4 : Int32) (x5 : Int32) (w : sk_W) : sk_D174 d 6 [some (.ref x0), some (.int x1), some (.int x2), some (.int x3), some (.int x4), some (.int x5)] [] w =
  if sk_cond .ge x5 (x1 + x3) = true then
    some (some (.int x4), w)
  else
    (sk_getr w x0 11 1).bind fun v1 =>
    (sk_ald w v1 ((sj 97) + x5)).bind fun v2 =>
    sk_D174 d 6 [some (.ref x0), some (.int x1), some (.int x2), some (.int x3), some (.int (x4 + (x2 - v2))), some (.int (x5 + (sj 1)))] [] w := sk_unf (sk_c d) sk_fields false sk_t174 [6] 2000 rfl
/-- SkylineNesterModel.yAt(III)I -/
noncomputable abbrev sk_D175 (d : Nat) : sk_K := sk_den (sk_c d) sk_fields false sk_t175
set_option maxRecDepth 100000 in
theorem sk_e175 (d : Nat) (x0 : Nat) (x1 : Int32) (x2 : Int32) (x3 : Int32) (w : sk_W) : sk_c (d + 1) 175 [.ref x0, .int x1, .int x2, .int x3] w =
  sk_D175 d 6 [some (.ref x0), some (.int x1), some (.int x2), some (.int x3), some (.int (sj 0)), some (.int x1)] [] w := by
  have h : sk_c (d + 1) 175 [.ref x0, .int x1, .int x2, .int x3] w = sk_D175 d 0 [some (.ref x0), some (.int x1), some (.int x2), some (.int x3), none, none] [] w := rfl
  rw [h]
  exact sk_unf (sk_c d) sk_fields false sk_t175 [6, 37] 2000 rfl
set_option maxRecDepth 100000 in
theorem sk_e175_6 (d : Nat) (x0 : Nat) (x1 : Int32) (x2 : Int32) (x3 : Int32) (x4 : Int32) (x5 : Int32) (w : sk_W) : sk_D175 d 6 [some (.ref x0), some (.int x1), some (.int x2), some (.int x3), some (.int x4), some (.int x5)] [] w =
  if sk_cond .ge x5 (x1 + x2) = true then
    sk_D175 d 37 [some (.ref x0), some (.int x1), some (.int x2), some (.int x3), some (.int x4), some (.int x5)] [] w
  else
    (sk_getr w x0 11 1).bind fun v1 =>
    (sk_ald w v1 ((sj 97) + x5)).bind fun v2 =>
    sk_ci (sk_c d 239 [.int x4, .int v2] w) fun v4 w3 =>
    sk_D175 d 6 [some (.ref x0), some (.int x1), some (.int x2), some (.int x3), some (.int v4), some (.int (x5 + (sj 1)))] [] w3 := sk_unf (sk_c d) sk_fields false sk_t175 [6, 37] 2000 rfl
set_option maxRecDepth 100000 in
theorem sk_e175_37 (d : Nat) (x0 : Nat) (x1 : Int32) (x2 : Int32) (x3 : Int32) (x4 : Int32) (o5 : Option Value) (w : sk_W) : sk_D175 d 37 [some (.ref x0), some (.int x1), some (.int x2), some (.int x3), some (.int x4), o5] [] w =
  if sk_isO w x0 11 = true then
  sk_ci (sk_c d 157 [.ref x0, .int x1, .int x4, .int x2, .int x3] w) fun v2 w1 =>
  if sk_cond .eq v2 (sj 0) = true then
    some (some (.int x4), w1)
  else
    sk_D175 d 37 [some (.ref x0), some (.int x1), some (.int x2), some (.int x3), some (.int (x4 + (sj 1))), o5] [] w1 else none := sk_unf (sk_c d) sk_fields false sk_t175 [6, 37] 2000 rfl
/-- SkylineNesterModel.touchingAt(IIII)I -/
noncomputable abbrev sk_D176 (d : Nat) : sk_K := sk_den (sk_c d) sk_fields false sk_t176
set_option maxRecDepth 100000 in
theorem sk_e176 (d : Nat) (x0 : Nat) (x1 : Int32) (x2 : Int32) (x3 : Int32) (x4 : Int32) (w : sk_W) : sk_c (d + 1) 176 [.ref x0, .int x1, .int x2, .int x3, .int x4] w =
  sk_D176 d 6 [some (.ref x0), some (.int x1), some (.int x2), some (.int x3), some (.int x4), some (.int (sj 0)), some (.int x1)] [] w := by
  have h : sk_c (d + 1) 176 [.ref x0, .int x1, .int x2, .int x3, .int x4] w = sk_D176 d 0 [some (.ref x0), some (.int x1), some (.int x2), some (.int x3), some (.int x4), none, none] [] w := rfl
  rw [h]
  exact sk_unf (sk_c d) sk_fields false sk_t176 [6, 40, 72] 2000 rfl
set_option maxRecDepth 100000 in
theorem sk_e176_6 (d : Nat) (x0 : Nat) (x1 : Int32) (x2 : Int32) (x3 : Int32) (x4 : Int32) (x5 : Int32) (x6 : Int32) (w : sk_W) : sk_D176 d 6 [some (.ref x0), some (.int x1), some (.int x2), some (.int x3), some (.int x4), some (.int x5), some (.int x6)] [] w =
  if sk_cond .ge x6 (x1 + x3) = true then
    sk_D176 d 40 [some (.ref x0), some (.int x1), some (.int x2), some (.int x3), some (.int x4), some (.int x5), some (.int x2)] [] w
  else
    (sk_getr w x0 11 1).bind fun v1 =>
    (sk_ald w v1 ((sj 97) + x6)).bind fun v2 =>
    if sk_cond .ne v2 x2 = true then
      sk_D176 d 6 [some (.ref x0), some (.int x1), some (.int x2), some (.int x3), some (.int x4), some (.int x5), some (.int (x6 + (sj 1)))] [] w
    else
      sk_D176 d 6 [some (.ref x0), some (.int x1), some (.int x2), some (.int x3), some (.int x4), some (.int (x5 + (sj 1))), some (.int (x6 + (sj 1)))] [] w := sk_unf (sk_c d) sk_fields false sk_t176 [6, 40, 72] 2000 rfl
set_option maxRecDepth 100000 in
theorem sk_e176_40 (d : Nat) (x0 : Nat) (x1 : Int32) (x2 : Int32) (x3 : Int32) (x4 : Int32) (x5 : Int32) (x6 : Int32) (w : sk_W) : sk_D176 d 40 [some (.ref x0), some (.int x1), some (.int x2), some (.int x3), some (.int x4), some (.int x5), some (.int x6)] [] w =
  if sk_cond .ge x6 (x2 + x4) = true then
    some (some (.int x5), w)
  else
    if sk_cond .eq x1 (sj 0) = true then
      sk_D176 d 72 [some (.ref x0), some (.int x1), some (.int x2), some (.int x3), some (.int x4), some (.int (x5 + (sj 1))), some (.int x6)] [] w
    else
      (sk_getr w x0 11 1).bind fun v1 =>
      (sk_ald w v1 (((sj 97) + x1) - (sj 1))).bind fun v2 =>
      if sk_cond .le v2 x6 = true then
        sk_D176 d 72 [some (.ref x0), some (.int x1), some (.int x2), some (.int x3), some (.int x4), some (.int x5), some (.int x6)] [] w
      else
        sk_D176 d 72 [some (.ref x0), some (.int x1), some (.int x2), some (.int x3), some (.int x4), some (.int (x5 + (sj 1))), some (.int x6)] [] w := sk_unf (sk_c d) sk_fields false sk_t176 [6, 40, 72] 2000 rfl
set_option maxRecDepth 100000 in
theorem sk_e176_72 (d : Nat) (x0 : Nat) (x1 : Int32) (x2 : Int32) (x3 : Int32) (x4 : Int32) (x5 : Int32) (x6 : Int32) (w : sk_W) : sk_D176 d 72 [some (.ref x0), some (.int x1), some (.int x2), some (.int x3), some (.int x4), some (.int x5), some (.int x6)] [] w =
  (sk_getr w x0 11 1).bind fun v1 =>
  (sk_ald w v1 (sj 0)).bind fun v2 =>
  if sk_cond .eq (x1 + x3) v2 = true then
    sk_D176 d 40 [some (.ref x0), some (.int x1), some (.int x2), some (.int x3), some (.int x4), some (.int (x5 + (sj 1))), some (.int (x6 + (sj 1)))] [] w
  else
    (sk_getr w x0 11 1).bind fun v3 =>
    (sk_ald w v3 (((sj 97) + x1) + x3)).bind fun v4 =>
    if sk_cond .le v4 x6 = true then
      sk_D176 d 40 [some (.ref x0), some (.int x1), some (.int x2), some (.int x3), some (.int x4), some (.int x5), some (.int (x6 + (sj 1)))] [] w
    else
      sk_D176 d 40 [some (.ref x0), some (.int x1), some (.int x2), some (.int x3), some (.int x4), some (.int (x5 + (sj 1))), some (.int (x6 + (sj 1)))] [] w := sk_unf (sk_c d) sk_fields false sk_t176 [6, 40, 72] 2000 rfl
/-- SkylineNesterModel.valueAt(IIII)I -/
noncomputable abbrev sk_D177 (d : Nat) : sk_K := sk_den (sk_c d) sk_fields false sk_t177
set_option maxRecDepth 100000 in
theorem sk_e177 (d : Nat) (x0 : Nat) (x1 : Int32) (x2 : Int32) (x3 : Int32) (x4 : Int32) (w : sk_W) : sk_c (d + 1) 177 [.ref x0, .int x1, .int x2, .int x3, .int x4] w =
  (sk_getr w x0 11 1).bind fun v1 =>
  (sk_ald w v1 (sj 3)).bind fun v2 =>
  if Int32.toInt v2 = 0 then
    some (some (.int x2), w)
  else if Int32.toInt v2 = 1 then
    if sk_isO w x0 11 = true then
    sk_ci (sk_c d 174 [.ref x0, .int x1, .int x2, .int x3] w) fun v4 w3 =>
    some (some (.int v4), w3) else none
  else if Int32.toInt v2 = 2 then
    some (some (.int (x2 + x4)), w)
  else 
    if sk_isO w x0 11 = true then
    sk_ci (sk_c d 176 [.ref x0, .int x1, .int x2, .int x3, .int x4] w) fun v6 w5 =>
    some (some (.int (-v6)), w5) else none := by
  have h : sk_c (d + 1) 177 [.ref x0, .int x1, .int x2, .int x3, .int x4] w = sk_D177 d 0 [some (.ref x0), some (.int x1), some (.int x2), some (.int x3), some (.int x4)] [] w := rfl
  rw [h]
  exact sk_unf (sk_c d) sk_fields false sk_t177 [] 2000 rfl
/-- SkylineNesterModel.finds(I)Z -/
noncomputable abbrev sk_D178 (d : Nat) : sk_K := sk_den (sk_c d) sk_fields true sk_t178
set_option maxRecDepth 100000 in
theorem sk_e178 (d : Nat) (x0 : Nat) (x1 : Int32) (w : sk_W) : sk_c (d + 1) 178 [.ref x0, .int x1] w =
  if sk_isO w x0 11 = true then
  sk_ci (sk_c d 150 [.ref x0, .int x1] w) fun v2 w1 =>
  if sk_cond .eq v2 (sj 0) = true then
    sk_D178 d 13 [some (.ref x0), some (.int x1), none, none, none, none, none, none, none, none, none] [.int (sj 1)] w1
  else
    sk_D178 d 13 [some (.ref x0), some (.int x1), none, none, none, none, none, none, none, none, none] [.int (sj 2)] w1 else none := by
  have h : sk_c (d + 1) 178 [.ref x0, .int x1] w = sk_D178 d 0 [some (.ref x0), some (.int x1), none, none, none, none, none, none, none, none, none] [] w := rfl
  rw [h]
  exact sk_unf (sk_c d) sk_fields true sk_t178 [13, 29, 43, 171, 236, 245, 378] 2000 rfl
set_option maxRecDepth 100000 in
theorem sk_e178_13 (d : Nat) (x0 : Nat) (x1 : Int32) (s0 : Int32) (w : sk_W) : sk_D178 d 13 [some (.ref x0), some (.int x1), none, none, none, none, none, none, none, none, none] [.int s0] w =
  (sk_getr w x0 11 1).bind fun v1 =>
  (sk_ald w v1 (sj 4)).bind fun v2 =>
  if sk_cond .ne v2 (sj 1) = true then
    sk_D178 d 236 [some (.ref x0), some (.int x1), some (.int s0), some (.int (sj 0)), some (.int (sj 0)), some (.int (sj 0)), none, none, none, none, none] [] w
  else
    sk_D178 d 29 [some (.ref x0), some (.int x1), some (.int s0), some (.int (sj (-1))), some (.int (sj 0)), none, none, none, none, none, none] [] w := sk_unf (sk_c d) sk_fields true sk_t178 [13, 29, 43, 171, 236, 245, 378] 2000 rfl
set_option maxRecDepth 100000 in
theorem sk_e178_29 (d : Nat) (x0 : Nat) (x1 : Int32) (x2 : Int32) (x3 : Int32) (x4 : Int32) (o5 : Option Value) (o6 : Option Value) (o7 : Option Value) (w : sk_W) : sk_D178 d 29 [some (.ref x0), some (.int x1), some (.int x2), some (.int x3), some (.int x4), o5, o6, o7, none, none, none] [] w =
  (sk_getr w x0 11 1).bind fun v1 =>
  (sk_ald w v1 (sj 5)).bind fun v2 =>
  if sk_cond .ge x4 v2 = true then
    if sk_cond .lt x3 (sj 0) = true then
      sk_D178 d 236 [some (.ref x0), some (.int x1), some (.int x2), some (.int (sj 0)), some (.int (sj 0)), some (.int (sj 0)), o6, o7, none, none, none] [] w
    else
      some (some (.int (sj 1)), w)
  else
    sk_D178 d 43 [some (.ref x0), some (.int x1), some (.int x2), some (.int x3), some (.int x4), some (.int (sj 0)), o6, o7, none, none, none] [] w := sk_unf (sk_c d) sk_fields true sk_t178 [13, 29, 43, 171, 236, 245, 378] 2000 rfl
set_option maxRecDepth 100000 in
theorem sk_e178_43 (d : Nat) (x0 : Nat) (x1 : Int32) (x2 : Int32) (x3 : Int32) (x4 : Int32) (x5 : Int32) (o6 : Option Value) (o7 : Option Value) (w : sk_W) : sk_D178 d 43 [some (.ref x0), some (.int x1), some (.int x2), some (.int x3), some (.int x4), some (.int x5), o6, o7, none, none, none] [] w =
  if sk_cond .ge x5 x2 = true then
    sk_D178 d 29 [some (.ref x0), some (.int x1), some (.int x2), some (.int x3), some (.int (x4 + (sj 1))), some (.int x5), o6, o7, none, none, none] [] w
  else
    if sk_isO w x0 11 = true then
    sk_ci (sk_c d 151 [.ref x0, .int x1, .int x5] w) fun v2 w1 =>
    (sk_getr w1 x0 11 1).bind fun v3 =>
    (sk_ald w1 v3 (((sj 117) + ((sj 4) * x4)) + (sj 2))).bind fun v4 =>
    if sk_cond .gt v2 v4 = true then
      sk_D178 d 43 [some (.ref x0), some (.int x1), some (.int x2), some (.int x3), some (.int x4), some (.int (x5 + (sj 1))), some (.int ((sj 117) + ((sj 4) * x4))), o7, none, none, none] [] w1
    else
      if sk_isO w1 x0 11 = true then
      sk_ci (sk_c d 152 [.ref x0, .int x1, .int x5] w1) fun v6 w5 =>
      (sk_getr w5 x0 11 1).bind fun v7 =>
      (sk_ald w5 v7 (((sj 117) + ((sj 4) * x4)) + (sj 3))).bind fun v8 =>
      if sk_cond .gt v6 v8 = true then
        sk_D178 d 43 [some (.ref x0), some (.int x1), some (.int x2), some (.int x3), some (.int x4), some (.int (x5 + (sj 1))), some (.int ((sj 117) + ((sj 4) * x4))), o7, none, none, none] [] w5
      else
        (sk_getr w5 x0 11 1).bind fun v9 =>
        (sk_ald w5 v9 ((sj 117) + ((sj 4) * x4))).bind fun v10 =>
        (sk_getr w5 x0 11 1).bind fun v11 =>
        (sk_ald w5 v11 (((sj 117) + ((sj 4) * x4)) + (sj 1))).bind fun v12 =>
        if sk_isO w5 x0 11 = true then
        sk_ci (sk_c d 153 [.ref x0, .int x1, .int v10, .int v12, .int (sj 0)] w5) fun v14 w13 =>
        if sk_cond .ne v14 (sj 0) = true then
          (sk_getr w13 x0 11 1).bind fun v15 =>
          (sk_ald w13 v15 (((sj 117) + ((sj 4) * x4)) + (sj 2))).bind fun v16 =>
          (sk_getr w13 x0 11 1).bind fun v17 =>
          (sk_ald w13 v17 (((sj 117) + ((sj 4) * x4)) + (sj 3))).bind fun v18 =>
          if sk_isO w13 x0 11 = true then
          sk_ci (sk_c d 151 [.ref x0, .int x1, .int x5] w13) fun v20 w19 =>
          if sk_isO w19 x0 11 = true then
          sk_ci (sk_c d 152 [.ref x0, .int x1, .int x5] w19) fun v22 w21 =>
          if sk_cond .lt x3 (sj 0) = true then
            sk_D178 d 171 [some (.ref x0), some (.int x1), some (.int x2), some (.int x3), some (.int x4), some (.int x5), some (.int ((sj 117) + ((sj 4) * x4))), some (.int ((v16 * v18) - (v20 * v22))), none, none, none] [] w21
          else
            if sk_cond .ge ((v16 * v18) - (v20 * v22)) x3 = true then
              sk_D178 d 43 [some (.ref x0), some (.int x1), some (.int x2), some (.int x3), some (.int x4), some (.int (x5 + (sj 1))), some (.int ((sj 117) + ((sj 4) * x4))), some (.int ((v16 * v18) - (v20 * v22))), none, none, none] [] w21
            else
              sk_D178 d 171 [some (.ref x0), some (.int x1), some (.int x2), some (.int x3), some (.int x4), some (.int x5), some (.int ((sj 117) + ((sj 4) * x4))), some (.int ((v16 * v18) - (v20 * v22))), none, none, none] [] w21 else none else none
        else
          sk_D178 d 43 [some (.ref x0), some (.int x1), some (.int x2), some (.int x3), some (.int x4), some (.int (x5 + (sj 1))), some (.int ((sj 117) + ((sj 4) * x4))), o7, none, none, none] [] w13 else none else none else none := sk_unf (sk_c d) sk_fields true sk_t178 [13, 29, 43, 171, 236, 245, 378] 2000 rfl
set_option maxRecDepth 100000 in
theorem sk_e178_171 (d : Nat) (x0 : Nat) (x1 : Int32) (x2 : Int32) (o3 : Option Value) (x4 : Int32) (x5 : Int32) (x6 : Int32) (x7 : Int32) (w : sk_W) : sk_D178 d 171 [some (.ref x0), some (.int x1), some (.int x2), o3, some (.int x4), some (.int x5), some (.int x6), some (.int x7), none, none, none] [] w =
  (sk_put w x0 11 10 (.int x4)).bind fun w1 =>
  (sk_put w1 x0 11 9 (.int x5)).bind fun w2 =>
  (sk_getr w2 x0 11 1).bind fun v3 =>
  (sk_ald w2 v3 x6).bind fun v4 =>
  (sk_put w2 x0 11 7 (.int v4)).bind fun w5 =>
  (sk_getr w5 x0 11 1).bind fun v6 =>
  (sk_ald w5 v6 (x6 + (sj 1))).bind fun v7 =>
  (sk_put w5 x0 11 8 (.int v7)).bind fun w8 =>
  sk_D178 d 43 [some (.ref x0), some (.int x1), some (.int x2), some (.int x7), some (.int x4), some (.int (x5 + (sj 1))), some (.int x6), some (.int x7), none, none, none] [] w8 := sk_unf (sk_c d) sk_fields true sk_t178 [13, 29, 43, 171, 236, 245, 378] 2000 rfl
set_option maxRecDepth 100000 in
theorem sk_e178_236 (d : Nat) (x0 : Nat) (x1 : Int32) (x2 : Int32) (x3 : Int32) (x4 : Int32) (x5 : Int32) (o6 : Option Value) (o7 : Option Value) (o8 : Option Value) (o9 : Option Value) (o10 : Option Value) (w : sk_W) : sk_D178 d 236 [some (.ref x0), some (.int x1), some (.int x2), some (.int x3), some (.int x4), some (.int x5), o6, o7, o8, o9, o10] [] w =
  if sk_cond .ge x5 x2 = true then
    if x3 = 0 ∨ x3 = 1 then some (some (.int x3), w) else none
  else
    sk_D178 d 245 [some (.ref x0), some (.int x1), some (.int x2), some (.int x3), some (.int x4), some (.int x5), some (.int (sj 0)), o7, o8, o9, o10] [] w := sk_unf (sk_c d) sk_fields true sk_t178 [13, 29, 43, 171, 236, 245, 378] 2000 rfl
set_option maxRecDepth 100000 in
theorem sk_e178_245 (d : Nat) (x0 : Nat) (x1 : Int32) (x2 : Int32) (x3 : Int32) (x4 : Int32) (x5 : Int32) (x6 : Int32) (o7 : Option Value) (o8 : Option Value) (o9 : Option Value) (o10 : Option Value) (w : sk_W) : sk_D178 d 245 [some (.ref x0), some (.int x1), some (.int x2), some (.int x3), some (.int x4), some (.int x5), some (.int x6), o7, o8, o9, o10] [] w =
  if sk_isO w x0 11 = true then
  sk_ci (sk_c d 151 [.ref x0, .int x1, .int x5] w) fun v2 w1 =>
  (sk_getr w1 x0 11 1).bind fun v3 =>
  (sk_ald w1 v3 (sj 0)).bind fun v4 =>
  if sk_cond .gt (x6 + v2) v4 = true then
    sk_D178 d 236 [some (.ref x0), some (.int x1), some (.int x2), some (.int x3), some (.int x4), some (.int (x5 + (sj 1))), some (.int x6), o7, o8, o9, o10] [] w1
  else
    if sk_isO w1 x0 11 = true then
    sk_ci (sk_c d 151 [.ref x0, .int x1, .int x5] w1) fun v6 w5 =>
    if sk_isO w5 x0 11 = true then
    sk_ci (sk_c d 152 [.ref x0, .int x1, .int x5] w5) fun v8 w7 =>
    if sk_isO w7 x0 11 = true then
    sk_ci (sk_c d 175 [.ref x0, .int x6, .int v6, .int v8] w7) fun v10 w9 =>
    if sk_isO w9 x0 11 = true then
    sk_ci (sk_c d 174 [.ref x0, .int x6, .int v10, .int v6] w9) fun v12 w11 =>
    if sk_isO w11 x0 11 = true then
    sk_ci (sk_c d 153 [.ref x0, .int x1, .int x6, .int v10, .int v12] w11) fun v14 w13 =>
    if sk_cond .ne v14 (sj 0) = true then
      if sk_isO w13 x0 11 = true then
      sk_ci (sk_c d 177 [.ref x0, .int x6, .int v10, .int v6, .int v8] w13) fun v16 w15 =>
      if sk_cond .eq x3 (sj 0) = true then
        sk_D178 d 378 [some (.ref x0), some (.int x1), some (.int x2), some (.int x3), some (.int x4), some (.int x5), some (.int x6), some (.int v6), some (.int v8), some (.int v10), some (.int v16)] [] w15
      else
        if sk_cond .lt v16 x4 = true then
          sk_D178 d 378 [some (.ref x0), some (.int x1), some (.int x2), some (.int x3), some (.int x4), some (.int x5), some (.int x6), some (.int v6), some (.int v8), some (.int v10), some (.int v16)] [] w15
        else
          if sk_cond .ne v16 x4 = true then
            sk_D178 d 245 [some (.ref x0), some (.int x1), some (.int x2), some (.int x3), some (.int x4), some (.int x5), some (.int (x6 + (sj 1))), some (.int v6), some (.int v8), some (.int v10), some (.int v16)] [] w15
          else
            (sk_geti w15 x0 11 8).bind fun v17 =>
            if sk_cond .lt v10 v17 = true then
              sk_D178 d 378 [some (.ref x0), some (.int x1), some (.int x2), some (.int x3), some (.int x4), some (.int x5), some (.int x6), some (.int v6), some (.int v8), some (.int v10), some (.int v16)] [] w15
            else
              (sk_geti w15 x0 11 8).bind fun v18 =>
              if sk_cond .ne v10 v18 = true then
                sk_D178 d 245 [some (.ref x0), some (.int x1), some (.int x2), some (.int x3), some (.int x4), some (.int x5), some (.int (x6 + (sj 1))), some (.int v6), some (.int v8), some (.int v10), some (.int v16)] [] w15
              else
                (sk_geti w15 x0 11 7).bind fun v19 =>
                if sk_cond .ge x6 v19 = true then
                  sk_D178 d 245 [some (.ref x0), some (.int x1), some (.int x2), some (.int x3), some (.int x4), some (.int x5), some (.int (x6 + (sj 1))), some (.int v6), some (.int v8), some (.int v10), some (.int v16)] [] w15
                else
                  sk_D178 d 378 [some (.ref x0), some (.int x1), some (.int x2), some (.int x3), some (.int x4), some (.int x5), some (.int x6), some (.int v6), some (.int v8), some (.int v10), some (.int v16)] [] w15 else none
    else
      sk_D178 d 245 [some (.ref x0), some (.int x1), some (.int x2), some (.int x3), some (.int x4), some (.int x5), some (.int (x6 + (sj 1))), some (.int v6), some (.int v8), some (.int v10), o10] [] w13 else none else none else none else none else none else none := sk_unf (sk_c d) sk_fields true sk_t178 [13, 29, 43, 171, 236, 245, 378] 2000 rfl
set_option maxRecDepth 100000 in
theorem sk_e178_378 (d : Nat) (x0 : Nat) (x1 : Int32) (x2 : Int32) (o3 : Option Value) (o4 : Option Value) (x5 : Int32) (x6 : Int32) (o7 : Option Value) (o8 : Option Value) (x9 : Int32) (x10 : Int32) (w : sk_W) : sk_D178 d 378 [some (.ref x0), some (.int x1), some (.int x2), o3, o4, some (.int x5), some (.int x6), o7, o8, some (.int x9), some (.int x10)] [] w =
  (sk_put w x0 11 7 (.int x6)).bind fun w1 =>
  (sk_put w1 x0 11 8 (.int x9)).bind fun w2 =>
  (sk_put w2 x0 11 9 (.int x5)).bind fun w3 =>
  (sk_put w3 x0 11 10 (.int (sj (-1)))).bind fun w4 =>
  sk_D178 d 245 [some (.ref x0), some (.int x1), some (.int x2), some (.int (sj 1)), some (.int x10), some (.int x5), some (.int (x6 + (sj 1))), o7, o8, some (.int x9), some (.int x10)] [] w4 := sk_unf (sk_c d) sk_fields true sk_t178 [13, 29, 43, 171, 236, 245, 378] 2000 rfl
/-- SkylineNesterModel.addPiece(IIII)V -/
noncomputable abbrev sk_D179 (d : Nat) : sk_K := sk_den (sk_c d) sk_fields false sk_t179
set_option maxRecDepth 100000 in
theorem sk_e179 (d : Nat) (x0 : Nat) (x1 : Int32) (x2 : Int32) (x3 : Int32) (x4 : Int32) (w : sk_W) : sk_c (d + 1) 179 [.ref x0, .int x1, .int x2, .int x3, .int x4] w =
  if sk_cond .le x3 (sj 0) = true then
    some (none, w)
  else
    if sk_cond .gt x4 (sj 0) = true then
      (sk_getr w x0 11 1).bind fun v1 =>
      (sk_ald w v1 (sj 5)).bind fun v2 =>
      sk_D179 d 18 [some (.ref x0), some (.int x1), some (.int x2), some (.int x3), some (.int x4), some (.int v2)] [] w
    else
      some (none, w) := by
  have h : sk_c (d + 1) 179 [.ref x0, .int x1, .int x2, .int x3, .int x4] w = sk_D179 d 0 [some (.ref x0), some (.int x1), some (.int x2), some (.int x3), some (.int x4), none] [] w := rfl
  rw [h]
  exact sk_unf (sk_c d) sk_fields false sk_t179 [18, 77, 111] 2000 rfl
set_option maxRecDepth 100000 in
theorem sk_e179_18 (d : Nat) (x0 : Nat) (x1 : Int32) (x2 : Int32) (x3 : Int32) (x4 : Int32) (x5 : Int32) (w : sk_W) : sk_D179 d 18 [some (.ref x0), some (.int x1), some (.int x2), some (.int x3), some (.int x4), some (.int x5)] [] w =
  if sk_cond .le x5 (sj 0) = true then
    sk_D179 d 111 [some (.ref x0), some (.int x1), some (.int x2), some (.int x3), some (.int x4), some (.int x5)] [] w
  else
    (sk_getr w x0 11 1).bind fun v1 =>
    (sk_ald w v1 (((sj 117) + ((sj 4) * x5)) - (sj 3))).bind fun v2 =>
    if sk_cond .gt v2 x2 = true then
      sk_D179 d 77 [some (.ref x0), some (.int x1), some (.int x2), some (.int x3), some (.int x4), some (.int x5)] [] w
    else
      (sk_getr w x0 11 1).bind fun v3 =>
      (sk_ald w v3 (((sj 117) + ((sj 4) * x5)) - (sj 3))).bind fun v4 =>
      if sk_cond .ne v4 x2 = true then
        sk_D179 d 111 [some (.ref x0), some (.int x1), some (.int x2), some (.int x3), some (.int x4), some (.int x5)] [] w
      else
        (sk_getr w x0 11 1).bind fun v5 =>
        (sk_ald w v5 (((sj 117) + ((sj 4) * x5)) - (sj 4))).bind fun v6 =>
        if sk_cond .le v6 x1 = true then
          sk_D179 d 111 [some (.ref x0), some (.int x1), some (.int x2), some (.int x3), some (.int x4), some (.int x5)] [] w
        else
          sk_D179 d 77 [some (.ref x0), some (.int x1), some (.int x2), some (.int x3), some (.int x4), some (.int x5)] [] w := sk_unf (sk_c d) sk_fields false sk_t179 [18, 77, 111] 2000 rfl
set_option maxRecDepth 100000 in
theorem sk_e179_77 (d : Nat) (x0 : Nat) (x1 : Int32) (x2 : Int32) (x3 : Int32) (x4 : Int32) (x5 : Int32) (w : sk_W) : sk_D179 d 77 [some (.ref x0), some (.int x1), some (.int x2), some (.int x3), some (.int x4), some (.int x5)] [] w =
  (sk_getr w x0 11 1).bind fun v1 =>
  (sk_getr w x0 11 1).bind fun v2 =>
  (sk_copy w v1 (((sj 117) + ((sj 4) * x5)) - (sj 4)) v2 ((sj 117) + ((sj 4) * x5)) (sj 4)).bind fun w3 =>
  sk_D179 d 18 [some (.ref x0), some (.int x1), some (.int x2), some (.int x3), some (.int x4), some (.int (x5 + (sj (-1))))] [] w3 := sk_unf (sk_c d) sk_fields false sk_t179 [18, 77, 111] 2000 rfl
set_option maxRecDepth 100000 in
theorem sk_e179_111 (d : Nat) (x0 : Nat) (x1 : Int32) (x2 : Int32) (x3 : Int32) (x4 : Int32) (x5 : Int32) (w : sk_W) : sk_D179 d 111 [some (.ref x0), some (.int x1), some (.int x2), some (.int x3), some (.int x4), some (.int x5)] [] w =
  (sk_getr w x0 11 1).bind fun v1 =>
  (sk_ast w v1 ((sj 117) + ((sj 4) * x5)) x1).bind fun w2 =>
  (sk_getr w2 x0 11 1).bind fun v3 =>
  (sk_ast w2 v3 (((sj 117) + ((sj 4) * x5)) + (sj 1)) x2).bind fun w4 =>
  (sk_getr w4 x0 11 1).bind fun v5 =>
  (sk_ast w4 v5 (((sj 117) + ((sj 4) * x5)) + (sj 2)) x3).bind fun w6 =>
  (sk_getr w6 x0 11 1).bind fun v7 =>
  (sk_ast w6 v7 (((sj 117) + ((sj 4) * x5)) + (sj 3)) x4).bind fun w8 =>
  (sk_getr w8 x0 11 1).bind fun v9 =>
  (sk_ald w8 v9 (sj 5)).bind fun v10 =>
  (sk_ast w8 v9 (sj 5) (v10 + (sj 1))).bind fun w11 =>
  some (none, w11) := sk_unf (sk_c d) sk_fields false sk_t179 [18, 77, 111] 2000 rfl
/-- SkylineNesterModel.intoPiece(II)V -/
noncomputable abbrev sk_D180 (d : Nat) : sk_K := sk_den (sk_c d) sk_fields false sk_t180
set_option maxRecDepth 100000 in
theorem sk_e180 (d : Nat) (x0 : Nat) (x1 : Int32) (x2 : Int32) (w : sk_W) : sk_c (d + 1) 180 [.ref x0, .int x1, .int x2] w =
  (sk_geti w x0 11 10).bind fun v1 =>
  (sk_getr w x0 11 1).bind fun v2 =>
  (sk_ald w v2 (((sj 117) + ((sj 4) * v1)) + (sj 2))).bind fun v3 =>
  (sk_getr w x0 11 1).bind fun v4 =>
  (sk_ald w v4 (((sj 117) + ((sj 4) * v1)) + (sj 3))).bind fun v5 =>
  (sk_getr w x0 11 1).bind fun v6 =>
  (sk_ald w v6 (sj 5)).bind fun v7 =>
  (sk_ast w v6 (sj 5) (v7 - (sj 1))).bind fun w8 =>
  (sk_getr w8 x0 11 1).bind fun v9 =>
  (sk_getr w8 x0 11 1).bind fun v10 =>
  (sk_getr w8 x0 11 1).bind fun v11 =>
  (sk_ald w8 v11 (sj 5)).bind fun v12 =>
  (sk_geti w8 x0 11 10).bind fun v13 =>
  (sk_copy w8 v9 (((sj 117) + ((sj 4) * v1)) + (sj 4)) v10 ((sj 117) + ((sj 4) * v1)) ((sj 4) * (v12 - v13))).bind fun w14 =>
  (sk_geti w14 x0 11 7).bind fun v15 =>
  (sk_geti w14 x0 11 8).bind fun v16 =>
  if sk_isO w14 x0 11 = true then
  sk_cv (sk_c d 179 [.ref x0, .int (v15 + x1), .int v16, .int (v3 - x1), .int v5] w14) fun w17 =>
  (sk_geti w17 x0 11 7).bind fun v18 =>
  (sk_geti w17 x0 11 8).bind fun v19 =>
  if sk_isO w17 x0 11 = true then
  sk_cv (sk_c d 179 [.ref x0, .int v18, .int (v19 + x2), .int x1, .int (v5 - x2)] w17) fun w20 =>
  some (none, w20) else none else none := by
  have h : sk_c (d + 1) 180 [.ref x0, .int x1, .int x2] w = sk_D180 d 0 [some (.ref x0), some (.int x1), some (.int x2), none, none, none] [] w := rfl
  rw [h]
  exact sk_unf (sk_c d) sk_fields false sk_t180 [] 2000 rfl
/-- SkylineNesterModel.ontoSky(II)V -/
noncomputable abbrev sk_D181 (d : Nat) : sk_K := sk_den (sk_c d) sk_fields false sk_t181
set_option maxRecDepth 100000 in
theorem sk_e181 (d : Nat) (x0 : Nat) (x1 : Int32) (x2 : Int32) (w : sk_W) : sk_c (d + 1) 181 [.ref x0, .int x1, .int x2] w =
  (sk_geti w x0 11 7).bind fun v1 =>
  sk_D181 d 5 [some (.ref x0), some (.int x1), some (.int x2), some (.int v1), none, none] [] w := by
  have h : sk_c (d + 1) 181 [.ref x0, .int x1, .int x2] w = sk_D181 d 0 [some (.ref x0), some (.int x1), some (.int x2), none, none, none] [] w := rfl
  rw [h]
  exact sk_unf (sk_c d) sk_fields false sk_t181 [5, 29, 59, 118] 2000 rfl
set_option maxRecDepth 100000 in
theorem sk_e181_5 (d : Nat) (x0 : Nat) (x1 : Int32) (x2 : Int32) (x3 : Int32) (o4 : Option Value) (o5 : Option Value) (w : sk_W) : sk_D181 d 5 [some (.ref x0), some (.int x1), some (.int x2), some (.int x3), o4, o5] [] w =
  (sk_geti w x0 11 7).bind fun v1 =>
  if sk_cond .ge x3 (v1 + x1) = true then
    (sk_geti w x0 11 7).bind fun v2 =>
    sk_D181 d 118 [some (.ref x0), some (.int x1), some (.int x2), some (.int x3), some (.int v2), o5] [] w
  else
    (sk_getr w x0 11 1).bind fun v3 =>
    (sk_ald w v3 ((sj 97) + x3)).bind fun v4 =>
    sk_D181 d 29 [some (.ref x0), some (.int x1), some (.int x2), some (.int x3), some (.int x3), some (.int v4)] [] w := sk_unf (sk_c d) sk_fields false sk_t181 [5, 29, 59, 118] 2000 rfl
set_option maxRecDepth 100000 in
theorem sk_e181_29 (d : Nat) (x0 : Nat) (x1 : Int32) (x2 : Int32) (x3 : Int32) (x4 : Int32) (x5 : Int32) (w : sk_W) : sk_D181 d 29 [some (.ref x0), some (.int x1), some (.int x2), some (.int x3), some (.int x4), some (.int x5)] [] w =
  (sk_geti w x0 11 7).bind fun v1 =>
  if sk_cond .ge x3 (v1 + x1) = true then
    sk_D181 d 59 [some (.ref x0), some (.int x1), some (.int x2), some (.int x3), some (.int x4), some (.int x5)] [] w
  else
    (sk_getr w x0 11 1).bind fun v2 =>
    (sk_ald w v2 ((sj 97) + x3)).bind fun v3 =>
    if sk_cond .ne v3 x5 = true then
      sk_D181 d 59 [some (.ref x0), some (.int x1), some (.int x2), some (.int x3), some (.int x4), some (.int x5)] [] w
    else
      sk_D181 d 29 [some (.ref x0), some (.int x1), some (.int x2), some (.int (x3 + (sj 1))), some (.int x4), some (.int x5)] [] w := sk_unf (sk_c d) sk_fields false sk_t181 [5, 29, 59, 118] 2000 rfl
set_option maxRecDepth 100000 in
theorem sk_e181_59 (d : Nat) (x0 : Nat) (x1 : Int32) (x2 : Int32) (x3 : Int32) (x4 : Int32) (x5 : Int32) (w : sk_W) : sk_D181 d 59 [some (.ref x0), some (.int x1), some (.int x2), some (.int x3), some (.int x4), some (.int x5)] [] w =
  (sk_geti w x0 11 8).bind fun v1 =>
  if sk_cond .ge x5 v1 = true then
    sk_D181 d 5 [some (.ref x0), some (.int x1), some (.int x2), some (.int x3), some (.int x4), some (.int x5)] [] w
  else
    (sk_geti w x0 11 8).bind fun v2 =>
    if sk_isO w x0 11 = true then
    sk_ci (sk_c d 157 [.ref x0, .int x4, .int x5, .int (x3 - x4), .int (v2 - x5)] w) fun v4 w3 =>
    if sk_cond .ne v4 (sj 0) = true then
      sk_D181 d 5 [some (.ref x0), some (.int x1), some (.int x2), some (.int x3), some (.int x4), some (.int x5)] [] w3
    else
      (sk_geti w3 x0 11 8).bind fun v5 =>
      if sk_isO w3 x0 11 = true then
      sk_cv (sk_c d 179 [.ref x0, .int x4, .int x5, .int (x3 - x4), .int (v5 - x5)] w3) fun w6 =>
      sk_D181 d 5 [some (.ref x0), some (.int x1), some (.int x2), some (.int x3), some (.int x4), some (.int x5)] [] w6 else none else none := sk_unf (sk_c d) sk_fields false sk_t181 [5, 29, 59, 118] 2000 rfl
set_option maxRecDepth 100000 in
theorem sk_e181_118 (d : Nat) (x0 : Nat) (x1 : Int32) (x2 : Int32) (o3 : Option Value) (x4 : Int32) (o5 : Option Value) (w : sk_W) : sk_D181 d 118 [some (.ref x0), some (.int x1), some (.int x2), o3, some (.int x4), o5] [] w =
  (sk_geti w x0 11 7).bind fun v1 =>
  if sk_cond .ge x4 (v1 + x1) = true then
    some (none, w)
  else
    (sk_getr w x0 11 1).bind fun v2 =>
    (sk_geti w x0 11 8).bind fun v3 =>
    (sk_ast w v2 ((sj 97) + x4) (v3 + x2)).bind fun w4 =>
    sk_D181 d 118 [some (.ref x0), some (.int x1), some (.int x2), o3, some (.int (x4 + (sj 1))), o5] [] w4 := sk_unf (sk_c d) sk_fields false sk_t181 [5, 29, 59, 118] 2000 rfl
/-- SkylineNesterModel.lays(I)Z -/
noncomputable abbrev sk_D182 (d : Nat) : sk_K := sk_den (sk_c d) sk_fields true sk_t182
set_option maxRecDepth 100000 in
theorem sk_e182 (d : Nat) (x0 : Nat) (x1 : Int32) (w : sk_W) : sk_c (d + 1) 182 [.ref x0, .int x1] w =
  if sk_isO w x0 11 = true then
  sk_ci (sk_c d 178 [.ref x0, .int x1] w) fun v2 w1 =>
  if sk_cond .ne v2 (sj 0) = true then
    (sk_getr w1 x0 11 1).bind fun v3 =>
    (sk_geti w1 x0 11 7).bind fun v4 =>
    (sk_ast w1 v3 ((sj 47) + x1) v4).bind fun w5 =>
    (sk_getr w5 x0 11 1).bind fun v6 =>
    (sk_geti w5 x0 11 8).bind fun v7 =>
    (sk_ast w5 v6 ((sj 57) + x1) v7).bind fun w8 =>
    (sk_getr w8 x0 11 1).bind fun v9 =>
    (sk_geti w8 x0 11 9).bind fun v10 =>
    (sk_ast w8 v9 ((sj 67) + x1) v10).bind fun w11 =>
    (sk_getr w11 x0 11 1).bind fun v12 =>
    (sk_geti w11 x0 11 10).bind fun v13 =>
    if sk_cond .ne v13 (sj (-1)) = true then
      sk_D182 d 70 [some (.ref x0), some (.int x1)] [.int (sj 3), .int ((sj 77) + x1), .ref v12] w11
    else
      sk_D182 d 70 [some (.ref x0), some (.int x1)] [.int (sj 2), .int ((sj 77) + x1), .ref v12] w11
  else
    some (some (.int (sj 0)), w1) else none := by
  have h : sk_c (d + 1) 182 [.ref x0, .int x1] w = sk_D182 d 0 [some (.ref x0), some (.int x1)] [] w := rfl
  rw [h]
  exact sk_unf (sk_c d) sk_fields true sk_t182 [70] 2000 rfl
set_option maxRecDepth 100000 in
theorem sk_e182_70 (d : Nat) (x0 : Nat) (x1 : Int32) (s0 : Nat) (s1 : Int32) (s2 : Int32) (w : sk_W) : sk_D182 d 70 [some (.ref x0), some (.int x1)] [.int s2, .int s1, .ref s0] w =
  (sk_ast w s0 s1 s2).bind fun w1 =>
  (sk_geti w1 x0 11 10).bind fun v2 =>
  if sk_cond .ne v2 (sj (-1)) = true then
    if sk_isO w1 x0 11 = true then
    sk_ci (sk_c d 154 [.ref x0, .int x1] w1) fun v4 w3 =>
    if sk_isO w3 x0 11 = true then
    sk_ci (sk_c d 155 [.ref x0, .int x1] w3) fun v6 w5 =>
    if sk_isO w5 x0 11 = true then
    sk_cv (sk_c d 180 [.ref x0, .int v4, .int v6] w5) fun w7 =>
    some (some (.int (sj 1)), w7) else none else none else none
  else
    if sk_isO w1 x0 11 = true then
    sk_ci (sk_c d 154 [.ref x0, .int x1] w1) fun v9 w8 =>
    if sk_isO w8 x0 11 = true then
    sk_ci (sk_c d 155 [.ref x0, .int x1] w8) fun v11 w10 =>
    if sk_isO w10 x0 11 = true then
    sk_cv (sk_c d 181 [.ref x0, .int v9, .int v11] w10) fun w12 =>
    some (some (.int (sj 1)), w12) else none else none else none := sk_unf (sk_c d) sk_fields true sk_t182 [70] 2000 rfl
/-- SkylineNesterModel.clears()V -/
noncomputable abbrev sk_D183 (d : Nat) : sk_K := sk_den (sk_c d) sk_fields false sk_t183
set_option maxRecDepth 100000 in
theorem sk_e183 (d : Nat) (x0 : Nat) (w : sk_W) : sk_c (d + 1) 183 [.ref x0] w =
  sk_D183 d 2 [some (.ref x0), some (.int (sj 0))] [] w := by
  have h : sk_c (d + 1) 183 [.ref x0] w = sk_D183 d 0 [some (.ref x0), none] [] w := rfl
  rw [h]
  exact sk_unf (sk_c d) sk_fields false sk_t183 [2, 43] 2000 rfl
set_option maxRecDepth 100000 in
theorem sk_e183_2 (d : Nat) (x0 : Nat) (x1 : Int32) (w : sk_W) : sk_D183 d 2 [some (.ref x0), some (.int x1)] [] w =
  (sk_getr w x0 11 1).bind fun v1 =>
  (sk_ald w v1 (sj 1)).bind fun v2 =>
  if sk_cond .ge x1 v2 = true then
    sk_D183 d 43 [some (.ref x0), some (.int (sj 0))] [] w
  else
    (sk_getr w x0 11 1).bind fun v3 =>
    (sk_ald w v3 ((sj 77) + x1)).bind fun v4 =>
    if sk_cond .eq v4 (sj 1) = true then
      sk_D183 d 2 [some (.ref x0), some (.int (x1 + (sj 1)))] [] w
    else
      (sk_getr w x0 11 1).bind fun v5 =>
      (sk_ast w v5 ((sj 77) + x1) (sj 0)).bind fun w6 =>
      sk_D183 d 2 [some (.ref x0), some (.int (x1 + (sj 1)))] [] w6 := sk_unf (sk_c d) sk_fields false sk_t183 [2, 43] 2000 rfl
set_option maxRecDepth 100000 in
theorem sk_e183_43 (d : Nat) (x0 : Nat) (x1 : Int32) (w : sk_W) : sk_D183 d 43 [some (.ref x0), some (.int x1)] [] w =
  if sk_cond .ge x1 (sj 20) = true then
    (sk_getr w x0 11 1).bind fun v1 =>
    (sk_ast w v1 (sj 5) (sj 0)).bind fun w2 =>
    some (none, w2)
  else
    (sk_getr w x0 11 1).bind fun v3 =>
    (sk_ast w v3 ((sj 97) + x1) (sj 0)).bind fun w4 =>
    sk_D183 d 43 [some (.ref x0), some (.int (x1 + (sj 1)))] [] w4 := sk_unf (sk_c d) sk_fields false sk_t183 [2, 43] 2000 rfl
/-- SkylineNesterModel.runs()I -/
noncomputable abbrev sk_D184 (d : Nat) : sk_K := sk_den (sk_c d) sk_fields false sk_t184
set_option maxRecDepth 100000 in
theorem sk_e184 (d : Nat) (x0 : Nat) (w : sk_W) : sk_c (d + 1) 184 [.ref x0] w =
  if sk_isO w x0 11 = true then
  sk_cv (sk_c d 183 [.ref x0] w) fun w1 =>
  sk_D184 d 8 [some (.ref x0), some (.int (sj 0)), some (.int (sj 0))] [] w1 else none := by
  have h : sk_c (d + 1) 184 [.ref x0] w = sk_D184 d 0 [some (.ref x0), none, none] [] w := rfl
  rw [h]
  exact sk_unf (sk_c d) sk_fields false sk_t184 [8] 2000 rfl
set_option maxRecDepth 100000 in
theorem sk_e184_8 (d : Nat) (x0 : Nat) (x1 : Int32) (x2 : Int32) (w : sk_W) : sk_D184 d 8 [some (.ref x0), some (.int x1), some (.int x2)] [] w =
  (sk_getr w x0 11 1).bind fun v1 =>
  (sk_ald w v1 (sj 2)).bind fun v2 =>
  if sk_cond .ge x2 v2 = true then
    some (some (.int x1), w)
  else
    (sk_getr w x0 11 1).bind fun v3 =>
    (sk_ald w v3 ((sj 87) + x2)).bind fun v4 =>
    if sk_isO w x0 11 = true then
    sk_ci (sk_c d 182 [.ref x0, .int v4] w) fun v6 w5 =>
    if sk_cond .eq v6 (sj 0) = true then
      sk_D184 d 8 [some (.ref x0), some (.int x1), some (.int (x2 + (sj 1)))] [] w5
    else
      sk_D184 d 8 [some (.ref x0), some (.int (x1 + (sj 1))), some (.int (x2 + (sj 1)))] [] w5 else none := sk_unf (sk_c d) sk_fields false sk_t184 [8] 2000 rfl
/-- SkylineNesterModel.top()I -/
noncomputable abbrev sk_D185 (d : Nat) : sk_K := sk_den (sk_c d) sk_fields false sk_t185
set_option maxRecDepth 100000 in
theorem sk_e185 (d : Nat) (x0 : Nat) (w : sk_W) : sk_c (d + 1) 185 [.ref x0] w =
  sk_D185 d 4 [some (.ref x0), some (.int (sj 0)), some (.int (sj 0))] [] w := by
  have h : sk_c (d + 1) 185 [.ref x0] w = sk_D185 d 0 [some (.ref x0), none, none] [] w := rfl
  rw [h]
  exact sk_unf (sk_c d) sk_fields false sk_t185 [4, 36] 2000 rfl
set_option maxRecDepth 100000 in
theorem sk_e185_4 (d : Nat) (x0 : Nat) (x1 : Int32) (x2 : Int32) (w : sk_W) : sk_D185 d 4 [some (.ref x0), some (.int x1), some (.int x2)] [] w =
  (sk_getr w x0 11 1).bind fun v1 =>
  (sk_ald w v1 (sj 0)).bind fun v2 =>
  if sk_cond .ge x2 v2 = true then
    sk_D185 d 36 [some (.ref x0), some (.int x1), some (.int (sj 0))] [] w
  else
    (sk_getr w x0 11 1).bind fun v3 =>
    (sk_ald w v3 ((sj 97) + x2)).bind fun v4 =>
    sk_ci (sk_c d 239 [.int x1, .int v4] w) fun v6 w5 =>
    sk_D185 d 4 [some (.ref x0), some (.int v6), some (.int (x2 + (sj 1)))] [] w5 := sk_unf (sk_c d) sk_fields false sk_t185 [4, 36] 2000 rfl
set_option maxRecDepth 100000 in
theorem sk_e185_36 (d : Nat) (x0 : Nat) (x1 : Int32) (x2 : Int32) (w : sk_W) : sk_D185 d 36 [some (.ref x0), some (.int x1), some (.int x2)] [] w =
  (sk_getr w x0 11 1).bind fun v1 =>
  (sk_ald w v1 (sj 1)).bind fun v2 =>
  if sk_cond .ge x2 v2 = true then
    some (some (.int x1), w)
  else
    (sk_getr w x0 11 1).bind fun v3 =>
    (sk_ald w v3 ((sj 77) + x2)).bind fun v4 =>
    if sk_cond .ne v4 (sj 1) = true then
      sk_D185 d 36 [some (.ref x0), some (.int x1), some (.int (x2 + (sj 1)))] [] w
    else
      (sk_getr w x0 11 1).bind fun v5 =>
      (sk_ald w v5 ((sj 57) + x2)).bind fun v6 =>
      if sk_isO w x0 11 = true then
      sk_ci (sk_c d 155 [.ref x0, .int x2] w) fun v8 w7 =>
      sk_ci (sk_c d 239 [.int x1, .int (v6 + v8)] w7) fun v10 w9 =>
      sk_D185 d 36 [some (.ref x0), some (.int v10), some (.int (x2 + (sj 1)))] [] w9 else none := sk_unf (sk_c d) sk_fields false sk_t185 [4, 36] 2000 rfl
/-- SkylineNesterModel.place(II)I -/
noncomputable abbrev sk_D186 (d : Nat) : sk_K := sk_den (sk_c d) sk_fields false sk_t186
set_option maxRecDepth 100000 in
theorem sk_e186 (d : Nat) (x0 : Nat) (x1 : Int32) (x2 : Int32) (w : sk_W) : sk_c (d + 1) 186 [.ref x0, .int x1, .int x2] w =
  if sk_isO w x0 11 = true then
  sk_ci (sk_c d 148 [.ref x0, .int x1] w) fun v2 w1 =>
  if sk_cond .eq v2 (sj 0) = true then
    some (some (.int (sj (-2))), w1)
  else
    sk_ci (sk_c d 144 [.int x2, .int (sj 0), .int (sj 3)] w1) fun v4 w3 =>
    if sk_cond .ne v4 (sj 0) = true then
      (sk_getr w3 x0 11 1).bind fun v5 =>
      (sk_ald w3 v5 ((sj 77) + x1)).bind fun v6 =>
      if sk_cond .eq v6 (sj 0) = true then
        if sk_isO w3 x0 11 = true then
        sk_ci (sk_c d 178 [.ref x0, .int x1] w3) fun v8 w7 =>
        if sk_cond .ne v8 (sj 0) = true then
          if Int32.toInt x2 = 0 then
            (sk_geti w7 x0 11 7).bind fun v9 =>
            some (some (.int v9), w7)
          else if Int32.toInt x2 = 1 then
            (sk_geti w7 x0 11 8).bind fun v10 =>
            some (some (.int v10), w7)
          else if Int32.toInt x2 = 2 then
            (sk_geti w7 x0 11 9).bind fun v11 =>
            some (some (.int v11), w7)
          else 
            (sk_geti w7 x0 11 10).bind fun v12 =>
            if sk_cond .ne v12 (sj (-1)) = true then
              some (some (.int (sj 1)), w7)
            else
              some (some (.int (sj 0)), w7)
        else
          some (some (.int (sj (-1))), w7) else none
      else
        some (some (.int (sj (-3))), w3)
    else
      some (some (.int (sj (-2))), w3) else none := by
  have h : sk_c (d + 1) 186 [.ref x0, .int x1, .int x2] w = sk_D186 d 0 [some (.ref x0), some (.int x1), some (.int x2)] [] w := rfl
  rw [h]
  exact sk_unf (sk_c d) sk_fields false sk_t186 [] 2000 rfl
/-- SkylineNesterModel.lay(I)I -/
noncomputable abbrev sk_D187 (d : Nat) : sk_K := sk_den (sk_c d) sk_fields false sk_t187
set_option maxRecDepth 100000 in
theorem sk_e187 (d : Nat) (x0 : Nat) (x1 : Int32) (w : sk_W) : sk_c (d + 1) 187 [.ref x0, .int x1] w =
  if sk_cond .ne x1 (sj (-1)) = true then
    if sk_isO w x0 11 = true then
    sk_ci (sk_c d 148 [.ref x0, .int x1] w) fun v2 w1 =>
    if sk_cond .ne v2 (sj 0) = true then
      (sk_getr w1 x0 11 1).bind fun v3 =>
      (sk_ald w1 v3 ((sj 77) + x1)).bind fun v4 =>
      if sk_cond .eq v4 (sj 0) = true then
        if sk_isO w1 x0 11 = true then
        sk_ci (sk_c d 182 [.ref x0, .int x1] w1) fun v6 w5 =>
        if sk_cond .eq v6 (sj 0) = true then
          some (some (.int (sj (-1))), w5)
        else
          (sk_getr w5 x0 11 1).bind fun v7 =>
          (sk_ald w5 v7 ((sj 57) + x1)).bind fun v8 =>
          some (some (.int v8), w5) else none
      else
        some (some (.int (sj (-3))), w1)
    else
      some (some (.int (sj (-2))), w1) else none
  else
    if sk_isO w x0 11 = true then
    sk_cv (sk_c d 183 [.ref x0] w) fun w9 =>
    some (some (.int (sj 0)), w9) else none := by
  have h : sk_c (d + 1) 187 [.ref x0, .int x1] w = sk_D187 d 0 [some (.ref x0), some (.int x1)] [] w := rfl
  rw [h]
  exact sk_unf (sk_c d) sk_fields false sk_t187 [] 2000 rfl
/-- SkylineNesterModel.run()I -/
noncomputable abbrev sk_D188 (d : Nat) : sk_K := sk_den (sk_c d) sk_fields false sk_t188
set_option maxRecDepth 100000 in
theorem sk_e188 (d : Nat) (x0 : Nat) (w : sk_W) : sk_c (d + 1) 188 [.ref x0] w =
  if sk_isO w x0 11 = true then
  sk_ci (sk_c d 184 [.ref x0] w) fun v2 w1 =>
  some (some (.int v2), w1) else none := by
  have h : sk_c (d + 1) 188 [.ref x0] w = sk_D188 d 0 [some (.ref x0)] [] w := rfl
  rw [h]
  exact sk_unf (sk_c d) sk_fields false sk_t188 [] 2000 rfl
/-- SkylineNesterModel.sky(II)I -/
noncomputable abbrev sk_D189 (d : Nat) : sk_K := sk_den (sk_c d) sk_fields false sk_t189
set_option maxRecDepth 100000 in
theorem sk_e189 (d : Nat) (x0 : Nat) (x1 : Int32) (x2 : Int32) (w : sk_W) : sk_c (d + 1) 189 [.ref x0, .int x1, .int x2] w =
  sk_ci (sk_c d 144 [.int x2, .int (sj 0), .int (sj 2)] w) fun v2 w1 =>
  if sk_cond .ne v2 (sj 0) = true then
    sk_D189 d 17 [some (.ref x0), some (.int x1), some (.int x2), some (.int (sj 0)), some (.int (sj 0)), none] [] w1
  else
    some (some (.int (sj (-2))), w1) := by
  have h : sk_c (d + 1) 189 [.ref x0, .int x1, .int x2] w = sk_D189 d 0 [some (.ref x0), some (.int x1), some (.int x2), none, none, none] [] w := rfl
  rw [h]
  exact sk_unf (sk_c d) sk_fields false sk_t189 [17, 70, 110] 2000 rfl
set_option maxRecDepth 100000 in
theorem sk_e189_17 (d : Nat) (x0 : Nat) (x1 : Int32) (x2 : Int32) (x3 : Int32) (x4 : Int32) (w : sk_W) : sk_D189 d 17 [some (.ref x0), some (.int x1), some (.int x2), some (.int x3), some (.int x4), none] [] w =
  (sk_getr w x0 11 1).bind fun v1 =>
  (sk_ald w v1 (sj 0)).bind fun v2 =>
  if sk_cond .ge x4 v2 = true then
    if sk_cond .ne x1 (sj (-1)) = true then
      some (some (.int (sj (-12))), w)
    else
      some (some (.int x3), w)
  else
    if sk_cond .le x4 (sj 0) = true then
      if sk_cond .ne x3 x1 = true then
        sk_D189 d 17 [some (.ref x0), some (.int x1), some (.int x2), some (.int (x3 + (sj 1))), some (.int (x4 + (sj 1))), none] [] w
      else
        sk_D189 d 70 [some (.ref x0), some (.int x1), some (.int x2), some (.int x3), some (.int x4), some (.int x4)] [] w
    else
      (sk_getr w x0 11 1).bind fun v3 =>
      (sk_ald w v3 ((sj 97) + x4)).bind fun v4 =>
      (sk_getr w x0 11 1).bind fun v5 =>
      (sk_ald w v5 (((sj 97) + x4) - (sj 1))).bind fun v6 =>
      if sk_cond .ne v4 v6 = true then
        if sk_cond .ne x3 x1 = true then
          sk_D189 d 17 [some (.ref x0), some (.int x1), some (.int x2), some (.int (x3 + (sj 1))), some (.int (x4 + (sj 1))), none] [] w
        else
          sk_D189 d 70 [some (.ref x0), some (.int x1), some (.int x2), some (.int x3), some (.int x4), some (.int x4)] [] w
      else
        sk_D189 d 17 [some (.ref x0), some (.int x1), some (.int x2), some (.int x3), some (.int (x4 + (sj 1))), none] [] w := sk_unf (sk_c d) sk_fields false sk_t189 [17, 70, 110] 2000 rfl
set_option maxRecDepth 100000 in
theorem sk_e189_70 (d : Nat) (x0 : Nat) (o1 : Option Value) (x2 : Int32) (o3 : Option Value) (x4 : Int32) (x5 : Int32) (w : sk_W) : sk_D189 d 70 [some (.ref x0), o1, some (.int x2), o3, some (.int x4), some (.int x5)] [] w =
  (sk_getr w x0 11 1).bind fun v1 =>
  (sk_ald w v1 (sj 0)).bind fun v2 =>
  if sk_cond .ge x5 v2 = true then
    sk_D189 d 110 [some (.ref x0), o1, some (.int x2), o3, some (.int x4), some (.int x5)] [] w
  else
    (sk_getr w x0 11 1).bind fun v3 =>
    (sk_ald w v3 ((sj 97) + x5)).bind fun v4 =>
    (sk_getr w x0 11 1).bind fun v5 =>
    (sk_ald w v5 ((sj 97) + x4)).bind fun v6 =>
    if sk_cond .ne v4 v6 = true then
      sk_D189 d 110 [some (.ref x0), o1, some (.int x2), o3, some (.int x4), some (.int x5)] [] w
    else
      sk_D189 d 70 [some (.ref x0), o1, some (.int x2), o3, some (.int x4), some (.int (x5 + (sj 1)))] [] w := sk_unf (sk_c d) sk_fields false sk_t189 [17, 70, 110] 2000 rfl
set_option maxRecDepth 100000 in
theorem sk_e189_110 (d : Nat) (x0 : Nat) (o1 : Option Value) (x2 : Int32) (o3 : Option Value) (x4 : Int32) (x5 : Int32) (w : sk_W) : sk_D189 d 110 [some (.ref x0), o1, some (.int x2), o3, some (.int x4), some (.int x5)] [] w =
  if sk_cond .ne x2 (sj 0) = true then
    if sk_cond .ne x2 (sj 1) = true then
      (sk_getr w x0 11 1).bind fun v1 =>
      (sk_ald w v1 ((sj 97) + x4)).bind fun v2 =>
      some (some (.int v2), w)
    else
      some (some (.int (x5 - x4)), w)
  else
    some (some (.int x4), w) := sk_unf (sk_c d) sk_fields false sk_t189 [17, 70, 110] 2000 rfl
/-- SkylineNesterModel.waste(II)I -/
noncomputable abbrev sk_D190 (d : Nat) : sk_K := sk_den (sk_c d) sk_fields false sk_t190
set_option maxRecDepth 100000 in
theorem sk_e190 (d : Nat) (x0 : Nat) (x1 : Int32) (x2 : Int32) (w : sk_W) : sk_c (d + 1) 190 [.ref x0, .int x1, .int x2] w =
  sk_ci (sk_c d 144 [.int x2, .int (sj 0), .int (sj 3)] w) fun v2 w1 =>
  if sk_cond .ne v2 (sj 0) = true then
    if sk_cond .ne x1 (sj (-1)) = true then
      (sk_getr w1 x0 11 1).bind fun v3 =>
      (sk_ald w1 v3 (sj 5)).bind fun v4 =>
      sk_ci (sk_c d 144 [.int x1, .int (sj 0), .int (v4 - (sj 1))] w1) fun v6 w5 =>
      if sk_cond .eq v6 (sj 0) = true then
        some (some (.int (sj (-12))), w5)
      else
        (sk_getr w5 x0 11 1).bind fun v7 =>
        (sk_ald w5 v7 (((sj 117) + ((sj 4) * x1)) + x2)).bind fun v8 =>
        some (some (.int v8), w5)
    else
      (sk_getr w1 x0 11 1).bind fun v9 =>
      (sk_ald w1 v9 (sj 5)).bind fun v10 =>
      some (some (.int v10), w1)
  else
    some (some (.int (sj (-2))), w1) := by
  have h : sk_c (d + 1) 190 [.ref x0, .int x1, .int x2] w = sk_D190 d 0 [some (.ref x0), some (.int x1), some (.int x2)] [] w := rfl
  rw [h]
  exact sk_unf (sk_c d) sk_fields false sk_t190 [] 2000 rfl
/-- SkylineNesterModel.by(II)I -/
noncomputable abbrev sk_D191 (d : Nat) : sk_K := sk_den (sk_c d) sk_fields false sk_t191
set_option maxRecDepth 100000 in
theorem sk_e191 (d : Nat) (x0 : Int32) (x1 : Int32) (w : sk_W) : sk_c (d + 1) 191 [.int x0, .int x1] w =
  if x1 = 0 then none else
  some (some (.int (((x0 + x1) - (sj 1)) / x1)), w) := by
  have h : sk_c (d + 1) 191 [.int x0, .int x1] w = sk_D191 d 0 [some (.int x0), some (.int x1)] [] w := rfl
  rw [h]
  exact sk_unf (sk_c d) sk_fields false sk_t191 [] 2000 rfl
/-- SkylineNesterModel.counted(IIII)I -/
noncomputable abbrev sk_D192 (d : Nat) : sk_K := sk_den (sk_c d) sk_fields false sk_t192
set_option maxRecDepth 100000 in
theorem sk_e192 (d : Nat) (x0 : Nat) (x1 : Int32) (x2 : Int32) (x3 : Int32) (x4 : Int32) (w : sk_W) : sk_c (d + 1) 192 [.ref x0, .int x1, .int x2, .int x3, .int x4] w =
  (sk_getr w x0 11 1).bind fun v1 =>
  (sk_ald w v1 (sj 0)).bind fun v2 =>
  if sk_cond .ne x1 (sj 0) = true then
    if sk_cond .ne x1 (sj 2) = true then
      if sk_cond .ne x1 (sj 7) = true then
        if v2 = 0 then none else
        if sk_cond .ne ((((x1 - (sj 2)) + (sj 1)) * x3) - ((((x1 - (sj 2)) + (sj 1)) * x3) / v2) * v2) (sj 0) = true then
          if v2 = 0 then none else
          some (some (.int ((((((x1 - (sj 2)) + (sj 1)) * x3) / v2) * v2) * x4)), w)
        else
          some (some (.int (((x1 - (sj 2)) * x3) * x4)), w)
      else
        if sk_cond .le x3 (v2 - x2) = true then
          if sk_cond .lt x3 x2 = true then
            some (some (.int ((sj 0) * x4)), w)
          else
            some (some (.int (x3 * x4)), w)
        else
          some (some (.int (v2 * x4)), w)
    else
      if sk_cond .le ((sj 2) * x3) v2 = true then
        some (some (.int (sj 0)), w)
      else
        some (some (.int x4), w)
  else
    some (some (.int (x3 * x4)), w) := by
  have h : sk_c (d + 1) 192 [.ref x0, .int x1, .int x2, .int x3, .int x4] w = sk_D192 d 0 [some (.ref x0), some (.int x1), some (.int x2), some (.int x3), some (.int x4), none, none] [] w := rfl
  rw [h]
  exact sk_unf (sk_c d) sk_fields false sk_t192 [] 2000 rfl
/-- SkylineNesterModel.summed(II)I -/
noncomputable abbrev sk_D193 (d : Nat) : sk_K := sk_den (sk_c d) sk_fields false sk_t193
set_option maxRecDepth 100000 in
theorem sk_e193 (d : Nat) (x0 : Nat) (x1 : Int32) (x2 : Int32) (w : sk_W) : sk_c (d + 1) 193 [.ref x0, .int x1, .int x2] w =
  sk_D193 d 5 [some (.ref x0), some (.int x1), some (.int x2), some (.int (sj 0)), some (.int (sj 0)), none, none] [] w := by
  have h : sk_c (d + 1) 193 [.ref x0, .int x1, .int x2] w = sk_D193 d 0 [some (.ref x0), some (.int x1), some (.int x2), none, none, none, none] [] w := rfl
  rw [h]
  exact sk_unf (sk_c d) sk_fields false sk_t193 [5, 54] 2000 rfl
set_option maxRecDepth 100000 in
theorem sk_e193_5 (d : Nat) (x0 : Nat) (x1 : Int32) (x2 : Int32) (x3 : Int32) (x4 : Int32) (o5 : Option Value) (o6 : Option Value) (w : sk_W) : sk_D193 d 5 [some (.ref x0), some (.int x1), some (.int x2), some (.int x3), some (.int x4), o5, o6] [] w =
  (sk_getr w x0 11 1).bind fun v1 =>
  (sk_ald w v1 (sj 1)).bind fun v2 =>
  if sk_cond .ge x4 v2 = true then
    some (some (.int x3), w)
  else
    (sk_getr w x0 11 1).bind fun v3 =>
    (sk_ald w v3 ((sj 77) + x4)).bind fun v4 =>
    if sk_cond .ne v4 (sj 1) = true then
      if sk_cond .ne (sj 0) (sj 0) = true then
        sk_D193 d 54 [some (.ref x0), some (.int x1), some (.int x2), some (.int x3), some (.int x4), some (.int (sj 0)), o6] [] w
      else
        if sk_isO w x0 11 = true then
        sk_ci (sk_c d 168 [.ref x0, .int x4] w) fun v6 w5 =>
        if sk_cond .ne v6 (sj 0) = true then
          sk_D193 d 54 [some (.ref x0), some (.int x1), some (.int x2), some (.int x3), some (.int x4), some (.int (sj 0)), o6] [] w5
        else
          sk_D193 d 5 [some (.ref x0), some (.int x1), some (.int x2), some (.int x3), some (.int (x4 + (sj 1))), some (.int (sj 0)), o6] [] w5 else none
    else
      if sk_cond .ne (sj 1) (sj 0) = true then
        sk_D193 d 54 [some (.ref x0), some (.int x1), some (.int x2), some (.int x3), some (.int x4), some (.int (sj 1)), o6] [] w
      else
        if sk_isO w x0 11 = true then
        sk_ci (sk_c d 168 [.ref x0, .int x4] w) fun v8 w7 =>
        if sk_cond .ne v8 (sj 0) = true then
          sk_D193 d 54 [some (.ref x0), some (.int x1), some (.int x2), some (.int x3), some (.int x4), some (.int (sj 1)), o6] [] w7
        else
          sk_D193 d 5 [some (.ref x0), some (.int x1), some (.int x2), some (.int x3), some (.int (x4 + (sj 1))), some (.int (sj 1)), o6] [] w7 else none := sk_unf (sk_c d) sk_fields false sk_t193 [5, 54] 2000 rfl
set_option maxRecDepth 100000 in
theorem sk_e193_54 (d : Nat) (x0 : Nat) (x1 : Int32) (x2 : Int32) (x3 : Int32) (x4 : Int32) (x5 : Int32) (o6 : Option Value) (w : sk_W) : sk_D193 d 54 [some (.ref x0), some (.int x1), some (.int x2), some (.int x3), some (.int x4), some (.int x5), o6] [] w =
  if sk_isO w x0 11 = true then
  sk_ci (sk_c d 151 [.ref x0, .int x4, .int (sj 0)] w) fun v2 w1 =>
  if sk_isO w1 x0 11 = true then
  sk_ci (sk_c d 152 [.ref x0, .int x4, .int (sj 0)] w1) fun v4 w3 =>
  if sk_isO w3 x0 11 = true then
  sk_ci (sk_c d 192 [.ref x0, .int x1, .int x2, .int v2, .int v4] w3) fun v6 w5 =>
  if sk_cond .ne x5 (sj 0) = true then
    sk_D193 d 5 [some (.ref x0), some (.int x1), some (.int x2), some (.int (x3 + v6)), some (.int (x4 + (sj 1))), some (.int x5), some (.int v6)] [] w5
  else
    if sk_isO w5 x0 11 = true then
    sk_ci (sk_c d 150 [.ref x0, .int x4] w5) fun v8 w7 =>
    if sk_cond .eq v8 (sj 0) = true then
      sk_D193 d 5 [some (.ref x0), some (.int x1), some (.int x2), some (.int (x3 + v6)), some (.int (x4 + (sj 1))), some (.int x5), some (.int v6)] [] w7
    else
      if sk_isO w7 x0 11 = true then
      sk_ci (sk_c d 151 [.ref x0, .int x4, .int (sj 1)] w7) fun v10 w9 =>
      if sk_isO w9 x0 11 = true then
      sk_ci (sk_c d 152 [.ref x0, .int x4, .int (sj 1)] w9) fun v12 w11 =>
      if sk_isO w11 x0 11 = true then
      sk_ci (sk_c d 192 [.ref x0, .int x1, .int x2, .int v10, .int v12] w11) fun v14 w13 =>
      sk_ci (sk_c d 240 [.int v6, .int v14] w13) fun v16 w15 =>
      sk_D193 d 5 [some (.ref x0), some (.int x1), some (.int x2), some (.int (x3 + v16)), some (.int (x4 + (sj 1))), some (.int x5), some (.int v6)] [] w15 else none else none else none else none else none else none else none := sk_unf (sk_c d) sk_fields false sk_t193 [5, 54] 2000 rfl
/-- SkylineNesterModel.tallest()I -/
noncomputable abbrev sk_D194 (d : Nat) : sk_K := sk_den (sk_c d) sk_fields false sk_t194
set_option maxRecDepth 100000 in
theorem sk_e194 (d : Nat) (x0 : Nat) (w : sk_W) : sk_c (d + 1) 194 [.ref x0] w =
  sk_D194 d 4 [some (.ref x0), some (.int (sj 0)), some (.int (sj 0))] [] w := by
  have h : sk_c (d + 1) 194 [.ref x0] w = sk_D194 d 0 [some (.ref x0), none, none] [] w := rfl
  rw [h]
  exact sk_unf (sk_c d) sk_fields false sk_t194 [4] 2000 rfl
set_option maxRecDepth 100000 in
theorem sk_e194_4 (d : Nat) (x0 : Nat) (x1 : Int32) (x2 : Int32) (w : sk_W) : sk_D194 d 4 [some (.ref x0), some (.int x1), some (.int x2)] [] w =
  (sk_getr w x0 11 1).bind fun v1 =>
  (sk_ald w v1 (sj 1)).bind fun v2 =>
  if sk_cond .ge x2 v2 = true then
    some (some (.int x1), w)
  else
    (sk_getr w x0 11 1).bind fun v3 =>
    (sk_ald w v3 ((sj 77) + x2)).bind fun v4 =>
    if sk_cond .ne v4 (sj 1) = true then
      if sk_isO w x0 11 = true then
      sk_ci (sk_c d 168 [.ref x0, .int x2] w) fun v6 w5 =>
      if sk_cond .eq v6 (sj 0) = true then
        sk_D194 d 4 [some (.ref x0), some (.int x1), some (.int (x2 + (sj 1)))] [] w5
      else
        if sk_isO w5 x0 11 = true then
        sk_ci (sk_c d 150 [.ref x0, .int x2] w5) fun v8 w7 =>
        if sk_cond .eq v8 (sj 0) = true then
          if sk_isO w7 x0 11 = true then
          sk_ci (sk_c d 152 [.ref x0, .int x2, .int (sj 0)] w7) fun v10 w9 =>
          sk_ci (sk_c d 239 [.int x1, .int v10] w9) fun v12 w11 =>
          sk_D194 d 4 [some (.ref x0), some (.int v12), some (.int (x2 + (sj 1)))] [] w11 else none
        else
          if sk_isO w7 x0 11 = true then
          sk_ci (sk_c d 152 [.ref x0, .int x2, .int (sj 0)] w7) fun v14 w13 =>
          if sk_isO w13 x0 11 = true then
          sk_ci (sk_c d 152 [.ref x0, .int x2, .int (sj 1)] w13) fun v16 w15 =>
          sk_ci (sk_c d 240 [.int v14, .int v16] w15) fun v18 w17 =>
          sk_ci (sk_c d 239 [.int x1, .int v18] w17) fun v20 w19 =>
          sk_D194 d 4 [some (.ref x0), some (.int v20), some (.int (x2 + (sj 1)))] [] w19 else none else none else none else none
    else
      (sk_getr w x0 11 1).bind fun v21 =>
      (sk_ald w v21 ((sj 57) + x2)).bind fun v22 =>
      if sk_isO w x0 11 = true then
      sk_ci (sk_c d 152 [.ref x0, .int x2, .int (sj 0)] w) fun v24 w23 =>
      sk_ci (sk_c d 239 [.int x1, .int (v22 + v24)] w23) fun v26 w25 =>
      sk_D194 d 4 [some (.ref x0), some (.int v26), some (.int (x2 + (sj 1)))] [] w25 else none := sk_unf (sk_c d) sk_fields false sk_t194 [4] 2000 rfl
/-- SkylineNesterModel.boundOf(I)I -/
noncomputable abbrev sk_D195 (d : Nat) : sk_K := sk_den (sk_c d) sk_fields false sk_t195
set_option maxRecDepth 100000 in
theorem sk_e195 (d : Nat) (x0 : Nat) (x1 : Int32) (w : sk_W) : sk_c (d + 1) 195 [.ref x0, .int x1] w =
  if sk_cond .ne x1 (sj 1) = true then
    if sk_cond .ne x1 (sj 0) = true then
      if sk_cond .ne x1 (sj 2) = true then
        if sk_cond .ge x1 (sj 7) = true then
          if sk_cond .ne x1 (sj 7) = true then
            sk_D195 d 122 [some (.ref x0), some (.int x1), some (.int (sj 0)), some (.int (sj 0))] [] w
          else
            sk_D195 d 78 [some (.ref x0), some (.int x1), some (.int (sj 0)), some (.int (sj 1))] [] w
        else
          if sk_isO w x0 11 = true then
          sk_ci (sk_c d 193 [.ref x0, .int x1, .int (sj 0)] w) fun v2 w1 =>
          (sk_getr w1 x0 11 1).bind fun v3 =>
          (sk_ald w1 v3 (sj 0)).bind fun v4 =>
          sk_ci (sk_c d 191 [.int v2, .int ((x1 - (sj 2)) * v4)] w1) fun v6 w5 =>
          some (some (.int v6), w5) else none
      else
        if sk_isO w x0 11 = true then
        sk_ci (sk_c d 193 [.ref x0, .int (sj 2), .int (sj 0)] w) fun v8 w7 =>
        some (some (.int v8), w7) else none
    else
      if sk_isO w x0 11 = true then
      sk_ci (sk_c d 193 [.ref x0, .int (sj 0), .int (sj 0)] w) fun v10 w9 =>
      (sk_getr w9 x0 11 1).bind fun v11 =>
      (sk_ald w9 v11 (sj 0)).bind fun v12 =>
      sk_ci (sk_c d 191 [.int v10, .int v12] w9) fun v14 w13 =>
      some (some (.int v14), w13) else none
  else
    if sk_isO w x0 11 = true then
    sk_ci (sk_c d 194 [.ref x0] w) fun v16 w15 =>
    some (some (.int v16), w15) else none := by
  have h : sk_c (d + 1) 195 [.ref x0, .int x1] w = sk_D195 d 0 [some (.ref x0), some (.int x1), none, none] [] w := rfl
  rw [h]
  exact sk_unf (sk_c d) sk_fields false sk_t195 [78, 122] 2000 rfl
set_option maxRecDepth 100000 in
theorem sk_e195_78 (d : Nat) (x0 : Nat) (o1 : Option Value) (x2 : Int32) (x3 : Int32) (w : sk_W) : sk_D195 d 78 [some (.ref x0), o1, some (.int x2), some (.int x3)] [] w =
  (sk_getr w x0 11 1).bind fun v1 =>
  (sk_ald w v1 (sj 0)).bind fun v2 =>
  if sk_cond .gt x3 (v2 / (sj 2)) = true then
    some (some (.int x2), w)
  else
    if sk_isO w x0 11 = true then
    sk_ci (sk_c d 193 [.ref x0, .int (sj 7), .int x3] w) fun v4 w3 =>
    (sk_getr w3 x0 11 1).bind fun v5 =>
    (sk_ald w3 v5 (sj 0)).bind fun v6 =>
    sk_ci (sk_c d 191 [.int v4, .int v6] w3) fun v8 w7 =>
    sk_ci (sk_c d 239 [.int x2, .int v8] w7) fun v10 w9 =>
    sk_D195 d 78 [some (.ref x0), o1, some (.int v10), some (.int (x3 + (sj 1)))] [] w9 else none := sk_unf (sk_c d) sk_fields false sk_t195 [78, 122] 2000 rfl
set_option maxRecDepth 100000 in
theorem sk_e195_122 (d : Nat) (x0 : Nat) (o1 : Option Value) (x2 : Int32) (x3 : Int32) (w : sk_W) : sk_D195 d 122 [some (.ref x0), o1, some (.int x2), some (.int x3)] [] w =
  if sk_cond .ge x3 (sj 8) = true then
    some (some (.int x2), w)
  else
    if sk_isO w x0 11 = true then
    sk_ci (sk_c d 195 [.ref x0, .int x3] w) fun v2 w1 =>
    sk_ci (sk_c d 239 [.int x2, .int v2] w1) fun v4 w3 =>
    sk_D195 d 122 [some (.ref x0), o1, some (.int v4), some (.int (x3 + (sj 1)))] [] w3 else none := sk_unf (sk_c d) sk_fields false sk_t195 [78, 122] 2000 rfl
/-- SkylineNesterModel.bound(I)I -/
noncomputable abbrev sk_D196 (d : Nat) : sk_K := sk_den (sk_c d) sk_fields false sk_t196
set_option maxRecDepth 100000 in
theorem sk_e196 (d : Nat) (x0 : Nat) (x1 : Int32) (w : sk_W) : sk_c (d + 1) 196 [.ref x0, .int x1] w =
  sk_ci (sk_c d 144 [.int x1, .int (sj 0), .int (sj 8)] w) fun v2 w1 =>
  if sk_cond .eq v2 (sj 0) = true then
    some (some (.int (sj (-2))), w1)
  else
    if sk_isO w1 x0 11 = true then
    sk_ci (sk_c d 195 [.ref x0, .int x1] w1) fun v4 w3 =>
    some (some (.int v4), w3) else none := by
  have h : sk_c (d + 1) 196 [.ref x0, .int x1] w = sk_D196 d 0 [some (.ref x0), some (.int x1)] [] w := rfl
  rw [h]
  exact sk_unf (sk_c d) sk_fields false sk_t196 [] 2000 rfl
/-- SkylineNesterModel.sorts()V -/
noncomputable abbrev sk_D197 (d : Nat) : sk_K := sk_den (sk_c d) sk_fields false sk_t197
set_option maxRecDepth 100000 in
theorem sk_e197 (d : Nat) (x0 : Nat) (w : sk_W) : sk_c (d + 1) 197 [.ref x0] w =
  sk_D197 d 2 [some (.ref x0), some (.int (sj 1)), none] [] w := by
  have h : sk_c (d + 1) 197 [.ref x0] w = sk_D197 d 0 [some (.ref x0), none, none] [] w := rfl
  rw [h]
  exact sk_unf (sk_c d) sk_fields false sk_t197 [2, 14] 2000 rfl
set_option maxRecDepth 100000 in
theorem sk_e197_2 (d : Nat) (x0 : Nat) (x1 : Int32) (o2 : Option Value) (w : sk_W) : sk_D197 d 2 [some (.ref x0), some (.int x1), o2] [] w =
  (sk_getr w x0 11 1).bind fun v1 =>
  (sk_ald w v1 (sj 2)).bind fun v2 =>
  if sk_cond .ge x1 v2 = true then
    some (none, w)
  else
    sk_D197 d 14 [some (.ref x0), some (.int x1), some (.int x1)] [] w := sk_unf (sk_c d) sk_fields false sk_t197 [2, 14] 2000 rfl
set_option maxRecDepth 100000 in
theorem sk_e197_14 (d : Nat) (x0 : Nat) (x1 : Int32) (x2 : Int32) (w : sk_W) : sk_D197 d 14 [some (.ref x0), some (.int x1), some (.int x2)] [] w =
  if sk_cond .le x2 (sj 0) = true then
    sk_D197 d 2 [some (.ref x0), some (.int (x1 + (sj 1))), some (.int x2)] [] w
  else
    (sk_getr w x0 11 1).bind fun v1 =>
    (sk_ald w v1 ((sj 87) + x2)).bind fun v2 =>
    (sk_getr w x0 11 1).bind fun v3 =>
    (sk_ald w v3 (((sj 87) + x2) - (sj 1))).bind fun v4 =>
    if sk_cond .ge v2 v4 = true then
      sk_D197 d 2 [some (.ref x0), some (.int (x1 + (sj 1))), some (.int x2)] [] w
    else
      if sk_isO w x0 11 = true then
      sk_cv (sk_c d 171 [.ref x0, .int x2, .int (x2 - (sj 1))] w) fun w5 =>
      sk_D197 d 14 [some (.ref x0), some (.int x1), some (.int (x2 + (sj (-1))))] [] w5 else none := sk_unf (sk_c d) sk_fields false sk_t197 [2, 14] 2000 rfl
/-- SkylineNesterModel.steps()Z -/
noncomputable abbrev sk_D198 (d : Nat) : sk_K := sk_den (sk_c d) sk_fields true sk_t198
set_option maxRecDepth 100000 in
theorem sk_e198 (d : Nat) (x0 : Nat) (w : sk_W) : sk_c (d + 1) 198 [.ref x0] w =
  (sk_getr w x0 11 1).bind fun v1 =>
  (sk_ald w v1 (sj 2)).bind fun v2 =>
  sk_D198 d 11 [some (.ref x0), some (.int v2), some (.int (v2 - (sj 2))), none, none, none] [] w := by
  have h : sk_c (d + 1) 198 [.ref x0] w = sk_D198 d 0 [some (.ref x0), none, none, none, none, none] [] w := rfl
  rw [h]
  exact sk_unf (sk_c d) sk_fields true sk_t198 [11, 54, 97] 2000 rfl
set_option maxRecDepth 100000 in
theorem sk_e198_11 (d : Nat) (x0 : Nat) (x1 : Int32) (x2 : Int32) (w : sk_W) : sk_D198 d 11 [some (.ref x0), some (.int x1), some (.int x2), none, none, none] [] w =
  if sk_cond .lt x2 (sj 0) = true then
    if sk_cond .ge x2 (sj 0) = true then
      sk_D198 d 54 [some (.ref x0), some (.int x1), some (.int x2), some (.int (x1 - (sj 1))), none, none] [] w
    else
      some (some (.int (sj 0)), w)
  else
    (sk_getr w x0 11 1).bind fun v1 =>
    (sk_ald w v1 ((sj 87) + x2)).bind fun v2 =>
    (sk_getr w x0 11 1).bind fun v3 =>
    (sk_ald w v3 (((sj 87) + x2) + (sj 1))).bind fun v4 =>
    if sk_cond .le v2 v4 = true then
      if sk_cond .ge x2 (sj 0) = true then
        sk_D198 d 54 [some (.ref x0), some (.int x1), some (.int x2), some (.int (x1 - (sj 1))), none, none] [] w
      else
        some (some (.int (sj 0)), w)
    else
      sk_D198 d 11 [some (.ref x0), some (.int x1), some (.int (x2 + (sj (-1)))), none, none, none] [] w := sk_unf (sk_c d) sk_fields true sk_t198 [11, 54, 97] 2000 rfl
set_option maxRecDepth 100000 in
theorem sk_e198_54 (d : Nat) (x0 : Nat) (x1 : Int32) (x2 : Int32) (x3 : Int32) (w : sk_W) : sk_D198 d 54 [some (.ref x0), some (.int x1), some (.int x2), some (.int x3), none, none] [] w =
  (sk_getr w x0 11 1).bind fun v1 =>
  (sk_ald w v1 ((sj 87) + x3)).bind fun v2 =>
  (sk_getr w x0 11 1).bind fun v3 =>
  (sk_ald w v3 ((sj 87) + x2)).bind fun v4 =>
  if sk_cond .ge v2 v4 = true then
    if sk_isO w x0 11 = true then
    sk_cv (sk_c d 171 [.ref x0, .int x2, .int x3] w) fun w5 =>
    sk_D198 d 97 [some (.ref x0), some (.int x1), some (.int x2), some (.int x3), some (.int (x2 + (sj 1))), some (.int (x1 - (sj 1)))] [] w5 else none
  else
    sk_D198 d 54 [some (.ref x0), some (.int x1), some (.int x2), some (.int (x3 + (sj (-1)))), none, none] [] w := sk_unf (sk_c d) sk_fields true sk_t198 [11, 54, 97] 2000 rfl
set_option maxRecDepth 100000 in
theorem sk_e198_97 (d : Nat) (x0 : Nat) (o1 : Option Value) (o2 : Option Value) (o3 : Option Value) (x4 : Int32) (x5 : Int32) (w : sk_W) : sk_D198 d 97 [some (.ref x0), o1, o2, o3, some (.int x4), some (.int x5)] [] w =
  if sk_cond .ge x4 x5 = true then
    some (some (.int (sj 1)), w)
  else
    if sk_isO w x0 11 = true then
    sk_cv (sk_c d 171 [.ref x0, .int x4, .int x5] w) fun w1 =>
    sk_D198 d 97 [some (.ref x0), o1, o2, o3, some (.int (x4 + (sj 1))), some (.int (x5 + (sj (-1))))] [] w1 else none := sk_unf (sk_c d) sk_fields true sk_t198 [11, 54, 97] 2000 rfl
/-- SkylineNesterModel.bestTop()I -/
noncomputable abbrev sk_D199 (d : Nat) : sk_K := sk_den (sk_c d) sk_fields false sk_t199
set_option maxRecDepth 100000 in
theorem sk_e199 (d : Nat) (x0 : Nat) (w : sk_W) : sk_c (d + 1) 199 [.ref x0] w =
  if sk_isO w x0 11 = true then
  sk_cv (sk_c d 146 [.ref x0, .int (sj 2)] w) fun w1 =>
  if sk_isO w1 x0 11 = true then
  sk_cv (sk_c d 197 [.ref x0] w1) fun w2 =>
  sk_D199 d 11 [some (.ref x0), some (.int (sj (-1)))] [] w2 else none else none := by
  have h : sk_c (d + 1) 199 [.ref x0] w = sk_D199 d 0 [some (.ref x0), none] [] w := rfl
  rw [h]
  exact sk_unf (sk_c d) sk_fields false sk_t199 [11, 37] 2000 rfl
set_option maxRecDepth 100000 in
theorem sk_e199_11 (d : Nat) (x0 : Nat) (x1 : Int32) (w : sk_W) : sk_D199 d 11 [some (.ref x0), some (.int x1)] [] w =
  if sk_isO w x0 11 = true then
  sk_ci (sk_c d 184 [.ref x0] w) fun v2 w1 =>
  (sk_getr w1 x0 11 1).bind fun v3 =>
  (sk_ald w1 v3 (sj 2)).bind fun v4 =>
  if sk_cond .ne v2 v4 = true then
    if sk_isO w1 x0 11 = true then
    sk_ci (sk_c d 198 [.ref x0] w1) fun v6 w5 =>
    if sk_cond .ne v6 (sj 0) = true then
      sk_D199 d 11 [some (.ref x0), some (.int x1)] [] w5
    else
      if sk_isO w5 x0 11 = true then
      sk_cv (sk_c d 147 [.ref x0, .int (sj 2)] w5) fun w7 =>
      some (some (.int x1), w7) else none else none
  else
    if sk_cond .eq x1 (sj (-1)) = true then
      sk_D199 d 37 [some (.ref x0), some (.int x1)] [] w1
    else
      if sk_isO w1 x0 11 = true then
      sk_ci (sk_c d 185 [.ref x0] w1) fun v9 w8 =>
      if sk_cond .ge v9 x1 = true then
        if sk_isO w8 x0 11 = true then
        sk_ci (sk_c d 198 [.ref x0] w8) fun v11 w10 =>
        if sk_cond .ne v11 (sj 0) = true then
          sk_D199 d 11 [some (.ref x0), some (.int x1)] [] w10
        else
          if sk_isO w10 x0 11 = true then
          sk_cv (sk_c d 147 [.ref x0, .int (sj 2)] w10) fun w12 =>
          some (some (.int x1), w12) else none else none
      else
        sk_D199 d 37 [some (.ref x0), some (.int x1)] [] w8 else none else none := sk_unf (sk_c d) sk_fields false sk_t199 [11, 37] 2000 rfl
set_option maxRecDepth 100000 in
theorem sk_e199_37 (d : Nat) (x0 : Nat) (o1 : Option Value) (w : sk_W) : sk_D199 d 37 [some (.ref x0), o1] [] w =
  if sk_isO w x0 11 = true then
  sk_ci (sk_c d 185 [.ref x0] w) fun v2 w1 =>
  (sk_getr w1 x0 11 1).bind fun v3 =>
  (sk_getr w1 x0 11 11).bind fun v4 =>
  (sk_copy w1 v3 (sj 87) v4 (sj 0) (sj 10)).bind fun w5 =>
  if sk_isO w5 x0 11 = true then
  sk_ci (sk_c d 198 [.ref x0] w5) fun v7 w6 =>
  if sk_cond .ne v7 (sj 0) = true then
    sk_D199 d 11 [some (.ref x0), some (.int v2)] [] w6
  else
    if sk_isO w6 x0 11 = true then
    sk_cv (sk_c d 147 [.ref x0, .int (sj 2)] w6) fun w8 =>
    some (some (.int v2), w8) else none else none else none := sk_unf (sk_c d) sk_fields false sk_t199 [11, 37] 2000 rfl
/-- SkylineNesterModel.best(I)I -/
noncomputable abbrev sk_D200 (d : Nat) : sk_K := sk_den (sk_c d) sk_fields false sk_t200
set_option maxRecDepth 100000 in
theorem sk_e200 (d : Nat) (x0 : Nat) (x1 : Int32) (w : sk_W) : sk_c (d + 1) 200 [.ref x0, .int x1] w =
  (sk_getr w x0 11 1).bind fun v1 =>
  (sk_ald w v1 (sj 2)).bind fun v2 =>
  if sk_cond .le v2 (sj 5) = true then
    (sk_getr w x0 11 1).bind fun v3 =>
    (sk_ald w v3 (sj 2)).bind fun v4 =>
    sk_ci (sk_c d 144 [.int x1, .int (sj (-1)), .int (v4 - (sj 1))] w) fun v6 w5 =>
    if sk_cond .ne v6 (sj 0) = true then
      if sk_isO w5 x0 11 = true then
      sk_ci (sk_c d 199 [.ref x0] w5) fun v8 w7 =>
      if sk_cond .eq x1 (sj (-1)) = true then
        some (some (.int v8), w7)
      else
        if sk_cond .ne v8 (sj (-1)) = true then
          (sk_getr w7 x0 11 11).bind fun v9 =>
          (sk_ald w7 v9 x1).bind fun v10 =>
          some (some (.int v10), w7)
        else
          some (some (.int v8), w7) else none
    else
      some (some (.int (sj (-12))), w5)
  else
    some (some (.int (sj (-3))), w) := by
  have h : sk_c (d + 1) 200 [.ref x0, .int x1] w = sk_D200 d 0 [some (.ref x0), some (.int x1), none] [] w := rfl
  rw [h]
  exact sk_unf (sk_c d) sk_fields false sk_t200 [] 2000 rfl
/-- SkylineNesterModel.tellsLayout(IZ)I -/
noncomputable abbrev sk_D201 (d : Nat) : sk_K := sk_den (sk_c d) sk_fields false sk_t201
set_option maxRecDepth 100000 in
theorem sk_e201 (d : Nat) (x0 : Nat) (x1 : Int32) (x2 : Int32) (w : sk_W) : sk_c (d + 1) 201 [.ref x0, .int x1, .int x2] w =
  sk_D201 d 5 [some (.ref x0), some (.int x1), some (.int x2), some (.int (sj 0)), some (.int (sj 0)), none, none, none] [] w := by
  have h : sk_c (d + 1) 201 [.ref x0, .int x1, .int x2] w = sk_D201 d 0 [some (.ref x0), some (.int x1), some (.int x2), none, none, none, none, none] [] w := rfl
  rw [h]
  exact sk_unf (sk_c d) sk_fields false sk_t201 [5, 73, 117] 2000 rfl
set_option maxRecDepth 100000 in
theorem sk_e201_5 (d : Nat) (x0 : Nat) (x1 : Int32) (x2 : Int32) (x3 : Int32) (x4 : Int32) (o5 : Option Value) (o6 : Option Value) (o7 : Option Value) (w : sk_W) : sk_D201 d 5 [some (.ref x0), some (.int x1), some (.int x2), some (.int x3), some (.int x4), o5, o6, o7] [] w =
  (sk_getr w x0 11 1).bind fun v1 =>
  (sk_ald w v1 (sj 1)).bind fun v2 =>
  if sk_cond .ge x4 v2 = true then
    some (some (.int x3), w)
  else
    (sk_getr w x0 11 1).bind fun v3 =>
    (sk_ald w v3 ((sj 77) + x4)).bind fun v4 =>
    if sk_cond .ne v4 (sj 0) = true then
      if sk_cond .eq x2 (sj 0) = true then
        (sk_getr w x0 11 1).bind fun v5 =>
        (sk_ald w v5 ((sj 47) + x4)).bind fun v6 =>
        sk_D201 d 73 [some (.ref x0), some (.int x1), some (.int x2), some (.int x3), some (.int x4), o5, o6, o7] [.int v6] w
      else
        (sk_getr w x0 11 1).bind fun v7 =>
        (sk_ald w v7 (sj 0)).bind fun v8 =>
        (sk_getr w x0 11 1).bind fun v9 =>
        (sk_ald w v9 ((sj 47) + x4)).bind fun v10 =>
        if sk_isO w x0 11 = true then
        sk_ci (sk_c d 154 [.ref x0, .int x4] w) fun v12 w11 =>
        sk_D201 d 73 [some (.ref x0), some (.int x1), some (.int x2), some (.int x3), some (.int x4), o5, o6, o7] [.int ((v8 - v10) - v12)] w11 else none
    else
      sk_D201 d 5 [some (.ref x0), some (.int x1), some (.int x2), some (.int x3), some (.int (x4 + (sj 1))), o5, o6, o7] [] w := sk_unf (sk_c d) sk_fields false sk_t201 [5, 73, 117] 2000 rfl
set_option maxRecDepth 100000 in
theorem sk_e201_73 (d : Nat) (x0 : Nat) (x1 : Int32) (x2 : Int32) (x3 : Int32) (x4 : Int32) (o5 : Option Value) (o6 : Option Value) (o7 : Option Value) (s0 : Int32) (w : sk_W) : sk_D201 d 73 [some (.ref x0), some (.int x1), some (.int x2), some (.int x3), some (.int x4), o5, o6, o7] [.int s0] w =
  if sk_isO w x0 11 = true then
  sk_ci (sk_c d 154 [.ref x0, .int x4] w) fun v2 w1 =>
  if sk_isO w1 x0 11 = true then
  sk_ci (sk_c d 155 [.ref x0, .int x4] w1) fun v4 w3 =>
  (sk_getr w3 x0 11 1).bind fun v5 =>
  (sk_ald w3 v5 ((sj 57) + x4)).bind fun v6 =>
  sk_D201 d 117 [some (.ref x0), some (.int x1), some (.int x2), some (.int x3), some (.int x4), some (.int s0), some (.int ((((((s0 * (sj 32)) + v2) * (sj 32)) + v4) * (sj 512)) + v6)), some (.int x3)] [] w3 else none else none := sk_unf (sk_c d) sk_fields false sk_t201 [5, 73, 117] 2000 rfl
set_option maxRecDepth 100000 in
theorem sk_e201_117 (d : Nat) (x0 : Nat) (x1 : Int32) (x2 : Int32) (x3 : Int32) (x4 : Int32) (o5 : Option Value) (x6 : Int32) (x7 : Int32) (w : sk_W) : sk_D201 d 117 [some (.ref x0), some (.int x1), some (.int x2), some (.int x3), some (.int x4), o5, some (.int x6), some (.int x7)] [] w =
  if sk_cond .le x7 (sj 0) = true then
    (sk_getr w x0 11 12).bind fun v1 =>
    (sk_ast w v1 (((sj 10) * x1) + x7) x6).bind fun w2 =>
    sk_D201 d 5 [some (.ref x0), some (.int x1), some (.int x2), some (.int (x3 + (sj 1))), some (.int (x4 + (sj 1))), o5, some (.int x6), some (.int x7)] [] w2
  else
    (sk_getr w x0 11 12).bind fun v3 =>
    (sk_ald w v3 ((((sj 10) * x1) + x7) - (sj 1))).bind fun v4 =>
    if sk_cond .le v4 x6 = true then
      (sk_getr w x0 11 12).bind fun v5 =>
      (sk_ast w v5 (((sj 10) * x1) + x7) x6).bind fun w6 =>
      sk_D201 d 5 [some (.ref x0), some (.int x1), some (.int x2), some (.int (x3 + (sj 1))), some (.int (x4 + (sj 1))), o5, some (.int x6), some (.int x7)] [] w6
    else
      (sk_getr w x0 11 12).bind fun v7 =>
      (sk_getr w x0 11 12).bind fun v8 =>
      (sk_ald w v8 ((((sj 10) * x1) + x7) - (sj 1))).bind fun v9 =>
      (sk_ast w v7 (((sj 10) * x1) + x7) v9).bind fun w10 =>
      sk_D201 d 117 [some (.ref x0), some (.int x1), some (.int x2), some (.int x3), some (.int x4), o5, some (.int x6), some (.int (x7 + (sj (-1))))] [] w10 := sk_unf (sk_c d) sk_fields false sk_t201 [5, 73, 117] 2000 rfl
