/-! ===== what each method's run comes to (written by program; each row is found by rfl) ===== -/
/-- SkylineNesterModel.areRowsAlike(III)Z -/
noncomputable abbrev sk_D202 (d : Nat) : sk_K := sk_den (sk_c d) sk_fields true sk_t202
set_option maxRecDepth 100000 in
theorem sk_e202 (d : Nat) (x0 : Nat) (x1 : Int32) (x2 : Int32) (x3 : Int32) (w : sk_W) : sk_c (d + 1) 202 [.ref x0, .int x1, .int x2, .int x3] w =
  sk_D202 d 3 [some (.ref x0), some (.int x1), some (.int x2), some (.int x3), some (.int (sj 0))] [] w := by
  have h : sk_c (d + 1) 202 [.ref x0, .int x1, .int x2, .int x3] w = sk_D202 d 0 [some (.ref x0), some (.int x1), some (.int x2), some (.int x3), none] [] w := rfl
  rw [h]
  exact sk_unf (sk_c d) sk_fields true sk_t202 [3] 2000 rfl
set_option maxRecDepth 100000 in
theorem sk_e202_3 (d : Nat) (x0 : Nat) (x1 : Int32) (x2 : Int32) (x3 : Int32) (x4 : Int32) (w : sk_W) : sk_D202 d 3 [some (.ref x0), some (.int x1), some (.int x2), some (.int x3), some (.int x4)] [] w =
  if sk_cond .ge x4 x3 = true then
    some (some (.int (sj 1)), w)
  else
    (sk_getr w x0 11 12).bind fun v1 =>
    (sk_ald w v1 (((sj 10) * x1) + x4)).bind fun v2 =>
    (sk_getr w x0 11 12).bind fun v3 =>
    (sk_ald w v3 (((sj 10) * x2) + x4)).bind fun v4 =>
    if sk_cond .eq v2 v4 = true then
      sk_D202 d 3 [some (.ref x0), some (.int x1), some (.int x2), some (.int x3), some (.int (x4 + (sj 1)))] [] w
    else
      some (some (.int (sj 0)), w) := sk_unf (sk_c d) sk_fields true sk_t202 [3] 2000 rfl
/-- SkylineNesterModel.layouts(I)I -/
noncomputable abbrev sk_D203 (d : Nat) : sk_K := sk_den (sk_c d) sk_fields false sk_t203
set_option maxRecDepth 100000 in
theorem sk_e203 (d : Nat) (x0 : Nat) (x1 : Int32) (w : sk_W) : sk_c (d + 1) 203 [.ref x0, .int x1] w =
  sk_ci (sk_c d 144 [.int x1, .int (sj 0), .int (sj 1)] w) fun v2 w1 =>
  if sk_cond .ne v2 (sj 0) = true then
    (sk_getr w1 x0 11 1).bind fun v3 =>
    (sk_ald w1 v3 (sj 2)).bind fun v4 =>
    if sk_cond .le v4 (sj 5) = true then
      if sk_isO w1 x0 11 = true then
      sk_cv (sk_c d 146 [.ref x0, .int (sj 2)] w1) fun w5 =>
      if sk_isO w5 x0 11 = true then
      sk_cv (sk_c d 197 [.ref x0] w5) fun w6 =>
      sk_D203 d 36 [some (.ref x0), some (.int x1), some (.int (sj 0)), none, none] [] w6 else none else none
    else
      some (some (.int (sj (-3))), w1)
  else
    some (some (.int (sj (-2))), w1) := by
  have h : sk_c (d + 1) 203 [.ref x0, .int x1] w = sk_D203 d 0 [some (.ref x0), some (.int x1), none, none, none] [] w := rfl
  rw [h]
  exact sk_unf (sk_c d) sk_fields false sk_t203 [36, 70, 121, 149] 2000 rfl
set_option maxRecDepth 100000 in
theorem sk_e203_36 (d : Nat) (x0 : Nat) (x1 : Int32) (x2 : Int32) (o3 : Option Value) (o4 : Option Value) (w : sk_W) : sk_D203 d 36 [some (.ref x0), some (.int x1), some (.int x2), o3, o4] [] w =
  if sk_isO w x0 11 = true then
  sk_ci (sk_c d 184 [.ref x0] w) fun v2 w1 =>
  (sk_getr w1 x0 11 1).bind fun v3 =>
  (sk_ald w1 v3 (sj 2)).bind fun v4 =>
  if sk_cond .ge v2 v4 = true then
    if sk_isO w1 x0 11 = true then
    sk_ci (sk_c d 201 [.ref x0, .int x2, .int (sj 0)] w1) fun v6 w5 =>
    if sk_isO w5 x0 11 = true then
    sk_ci (sk_c d 201 [.ref x0, .int (sj 121), .int (sj 1)] w5) fun v8 w7 =>
    sk_D203 d 70 [some (.ref x0), some (.int x1), some (.int x2), some (.int v6), some (.int (sj 0))] [] w7 else none else none
  else
    if sk_isO w1 x0 11 = true then
    sk_ci (sk_c d 198 [.ref x0] w1) fun v10 w9 =>
    if sk_cond .ne v10 (sj 0) = true then
      sk_D203 d 36 [some (.ref x0), some (.int x1), some (.int x2), o3, o4] [] w9
    else
      if sk_isO w9 x0 11 = true then
      sk_cv (sk_c d 147 [.ref x0, .int (sj 2)] w9) fun w11 =>
      sk_D203 d 149 [some (.ref x0), some (.int x1), some (.int x2), some (.int (sj 0)), some (.int (sj 0))] [] w11 else none else none else none := sk_unf (sk_c d) sk_fields false sk_t203 [36, 70, 121, 149] 2000 rfl
set_option maxRecDepth 100000 in
theorem sk_e203_70 (d : Nat) (x0 : Nat) (x1 : Int32) (x2 : Int32) (x3 : Int32) (x4 : Int32) (w : sk_W) : sk_D203 d 70 [some (.ref x0), some (.int x1), some (.int x2), some (.int x3), some (.int x4)] [] w =
  if sk_cond .ge x4 x2 = true then
    if sk_cond .ne x4 x2 = true then
      sk_D203 d 121 [some (.ref x0), some (.int x1), some (.int x2), some (.int x3), some (.int x4)] [] w
    else
      (sk_getr w x0 11 13).bind fun v1 =>
      (sk_ast w v1 x2 (sj 0)).bind fun w2 =>
      sk_D203 d 121 [some (.ref x0), some (.int x1), some (.int (x2 + (sj 1))), some (.int x3), some (.int x4)] [] w2
  else
    if sk_isO w x0 11 = true then
    sk_ci (sk_c d 202 [.ref x0, .int x4, .int x2, .int x3] w) fun v4 w3 =>
    if sk_cond .ne v4 (sj 0) = true then
      if sk_cond .ne x4 x2 = true then
        sk_D203 d 121 [some (.ref x0), some (.int x1), some (.int x2), some (.int x3), some (.int x4)] [] w3
      else
        (sk_getr w3 x0 11 13).bind fun v5 =>
        (sk_ast w3 v5 x2 (sj 0)).bind fun w6 =>
        sk_D203 d 121 [some (.ref x0), some (.int x1), some (.int (x2 + (sj 1))), some (.int x3), some (.int x4)] [] w6
    else
      if sk_isO w3 x0 11 = true then
      sk_ci (sk_c d 202 [.ref x0, .int x4, .int (sj 121), .int x3] w3) fun v8 w7 =>
      if sk_cond .ne v8 (sj 0) = true then
        if sk_cond .ne x4 x2 = true then
          sk_D203 d 121 [some (.ref x0), some (.int x1), some (.int x2), some (.int x3), some (.int x4)] [] w7
        else
          (sk_getr w7 x0 11 13).bind fun v9 =>
          (sk_ast w7 v9 x2 (sj 0)).bind fun w10 =>
          sk_D203 d 121 [some (.ref x0), some (.int x1), some (.int (x2 + (sj 1))), some (.int x3), some (.int x4)] [] w10
      else
        sk_D203 d 70 [some (.ref x0), some (.int x1), some (.int x2), some (.int x3), some (.int (x4 + (sj 1)))] [] w7 else none else none := sk_unf (sk_c d) sk_fields false sk_t203 [36, 70, 121, 149] 2000 rfl
set_option maxRecDepth 100000 in
theorem sk_e203_121 (d : Nat) (x0 : Nat) (x1 : Int32) (x2 : Int32) (o3 : Option Value) (x4 : Int32) (w : sk_W) : sk_D203 d 121 [some (.ref x0), some (.int x1), some (.int x2), o3, some (.int x4)] [] w =
  (sk_getr w x0 11 13).bind fun v1 =>
  (sk_ald w v1 x4).bind fun v2 =>
  (sk_ast w v1 x4 (v2 + (sj 1))).bind fun w3 =>
  if sk_isO w3 x0 11 = true then
  sk_ci (sk_c d 198 [.ref x0] w3) fun v5 w4 =>
  if sk_cond .ne v5 (sj 0) = true then
    sk_D203 d 36 [some (.ref x0), some (.int x1), some (.int x2), o3, some (.int x4)] [] w4
  else
    if sk_isO w4 x0 11 = true then
    sk_cv (sk_c d 147 [.ref x0, .int (sj 2)] w4) fun w6 =>
    sk_D203 d 149 [some (.ref x0), some (.int x1), some (.int x2), some (.int (sj 0)), some (.int (sj 0))] [] w6 else none else none := sk_unf (sk_c d) sk_fields false sk_t203 [36, 70, 121, 149] 2000 rfl
set_option maxRecDepth 100000 in
theorem sk_e203_149 (d : Nat) (x0 : Nat) (x1 : Int32) (x2 : Int32) (x3 : Int32) (x4 : Int32) (w : sk_W) : sk_D203 d 149 [some (.ref x0), some (.int x1), some (.int x2), some (.int x3), some (.int x4)] [] w =
  if sk_cond .ge x4 x2 = true then
    if sk_cond .ne x1 (sj 0) = true then
      some (some (.int x3), w)
    else
      some (some (.int x2), w)
  else
    (sk_getr w x0 11 13).bind fun v1 =>
    (sk_ald w v1 x4).bind fun v2 =>
    sk_ci (sk_c d 239 [.int x3, .int v2] w) fun v4 w3 =>
    sk_D203 d 149 [some (.ref x0), some (.int x1), some (.int x2), some (.int v4), some (.int (x4 + (sj 1)))] [] w3 := sk_unf (sk_c d) sk_fields false sk_t203 [36, 70, 121, 149] 2000 rfl
/-- SkylineNesterModel.low(II)I -/
noncomputable abbrev sk_D204 (d : Nat) : sk_K := sk_den (sk_c d) sk_fields false sk_t204
set_option maxRecDepth 100000 in
theorem sk_e204 (d : Nat) (x0 : Nat) (x1 : Int32) (x2 : Int32) (w : sk_W) : sk_c (d + 1) 204 [.ref x0, .int x1, .int x2] w =
  if sk_cond .ne x2 (sj 0) = true then
    (sk_getr w x0 11 1).bind fun v1 =>
    (sk_ald w v1 ((sj 57) + x1)).bind fun v2 =>
    some (some (.int v2), w)
  else
    (sk_getr w x0 11 1).bind fun v3 =>
    (sk_ald w v3 ((sj 47) + x1)).bind fun v4 =>
    some (some (.int v4), w) := by
  have h : sk_c (d + 1) 204 [.ref x0, .int x1, .int x2] w = sk_D204 d 0 [some (.ref x0), some (.int x1), some (.int x2)] [] w := rfl
  rw [h]
  exact sk_unf (sk_c d) sk_fields false sk_t204 [] 2000 rfl
/-- SkylineNesterModel.high(II)I -/
noncomputable abbrev sk_D205 (d : Nat) : sk_K := sk_den (sk_c d) sk_fields false sk_t205
set_option maxRecDepth 100000 in
theorem sk_e205 (d : Nat) (x0 : Nat) (x1 : Int32) (x2 : Int32) (w : sk_W) : sk_c (d + 1) 205 [.ref x0, .int x1, .int x2] w =
  if sk_cond .ne x2 (sj 0) = true then
    (sk_getr w x0 11 1).bind fun v1 =>
    (sk_ald w v1 ((sj 57) + x1)).bind fun v2 =>
    if sk_isO w x0 11 = true then
    sk_ci (sk_c d 155 [.ref x0, .int x1] w) fun v4 w3 =>
    some (some (.int (v2 + v4)), w3) else none
  else
    (sk_getr w x0 11 1).bind fun v5 =>
    (sk_ald w v5 ((sj 47) + x1)).bind fun v6 =>
    if sk_isO w x0 11 = true then
    sk_ci (sk_c d 154 [.ref x0, .int x1] w) fun v8 w7 =>
    some (some (.int (v6 + v8)), w7) else none := by
  have h : sk_c (d + 1) 205 [.ref x0, .int x1, .int x2] w = sk_D205 d 0 [some (.ref x0), some (.int x1), some (.int x2)] [] w := rfl
  rw [h]
  exact sk_unf (sk_c d) sk_fields false sk_t205 [] 2000 rfl
/-- SkylineNesterModel.isCut(III)Z -/
noncomputable abbrev sk_D206 (d : Nat) : sk_K := sk_den (sk_c d) sk_fields true sk_t206
set_option maxRecDepth 100000 in
theorem sk_e206 (d : Nat) (x0 : Nat) (x1 : Int32) (x2 : Int32) (x3 : Int32) (w : sk_W) : sk_c (d + 1) 206 [.ref x0, .int x1, .int x2, .int x3] w =
  sk_D206 d 3 [some (.ref x0), some (.int x1), some (.int x2), some (.int x3), some (.int (sj 0))] [] w := by
  have h : sk_c (d + 1) 206 [.ref x0, .int x1, .int x2, .int x3] w = sk_D206 d 0 [some (.ref x0), some (.int x1), some (.int x2), some (.int x3), none] [] w := rfl
  rw [h]
  exact sk_unf (sk_c d) sk_fields true sk_t206 [3] 2000 rfl
set_option maxRecDepth 100000 in
theorem sk_e206_3 (d : Nat) (x0 : Nat) (x1 : Int32) (x2 : Int32) (x3 : Int32) (x4 : Int32) (w : sk_W) : sk_D206 d 3 [some (.ref x0), some (.int x1), some (.int x2), some (.int x3), some (.int x4)] [] w =
  (sk_getr w x0 11 1).bind fun v1 =>
  (sk_ald w v1 (sj 1)).bind fun v2 =>
  if sk_cond .ge x4 v2 = true then
    some (some (.int (sj 1)), w)
  else
    (sk_getr w x0 11 1).bind fun v3 =>
    (sk_ald w v3 ((sj 77) + x4)).bind fun v4 =>
    if sk_cond .eq v4 (sj 0) = true then
      sk_D206 d 3 [some (.ref x0), some (.int x1), some (.int x2), some (.int x3), some (.int (x4 + (sj 1)))] [] w
    else
      (sk_getr w x0 11 14).bind fun v5 =>
      (sk_ald w v5 x4).bind fun v6 =>
      (sk_getr w x0 11 14).bind fun v7 =>
      (sk_ald w v7 x1).bind fun v8 =>
      if sk_cond .ne v6 v8 = true then
        sk_D206 d 3 [some (.ref x0), some (.int x1), some (.int x2), some (.int x3), some (.int (x4 + (sj 1)))] [] w
      else
        if sk_isO w x0 11 = true then
        sk_ci (sk_c d 204 [.ref x0, .int x4, .int x2] w) fun v10 w9 =>
        if sk_cond .ge v10 x3 = true then
          sk_D206 d 3 [some (.ref x0), some (.int x1), some (.int x2), some (.int x3), some (.int (x4 + (sj 1)))] [] w9
        else
          if sk_isO w9 x0 11 = true then
          sk_ci (sk_c d 205 [.ref x0, .int x4, .int x2] w9) fun v12 w11 =>
          if sk_cond .le v12 x3 = true then
            sk_D206 d 3 [some (.ref x0), some (.int x1), some (.int x2), some (.int x3), some (.int (x4 + (sj 1)))] [] w11
          else
            some (some (.int (sj 0)), w11) else none else none := sk_unf (sk_c d) sk_fields true sk_t206 [3] 2000 rfl
/-- SkylineNesterModel.areParted(III)Z -/
noncomputable abbrev sk_D207 (d : Nat) : sk_K := sk_den (sk_c d) sk_fields true sk_t207
set_option maxRecDepth 100000 in
theorem sk_e207 (d : Nat) (x0 : Nat) (x1 : Int32) (x2 : Int32) (x3 : Int32) (w : sk_W) : sk_c (d + 1) 207 [.ref x0, .int x1, .int x2, .int x3] w =
  if sk_isO w x0 11 = true then
  sk_ci (sk_c d 205 [.ref x0, .int x1, .int x3] w) fun v2 w1 =>
  if sk_isO w1 x0 11 = true then
  sk_ci (sk_c d 205 [.ref x0, .int x2, .int x3] w1) fun v4 w3 =>
  sk_ci (sk_c d 240 [.int v2, .int v4] w3) fun v6 w5 =>
  if sk_isO w5 x0 11 = true then
  sk_ci (sk_c d 204 [.ref x0, .int x1, .int x3] w5) fun v8 w7 =>
  if sk_isO w7 x0 11 = true then
  sk_ci (sk_c d 204 [.ref x0, .int x2, .int x3] w7) fun v10 w9 =>
  sk_ci (sk_c d 239 [.int v8, .int v10] w9) fun v12 w11 =>
  sk_D207 d 38 [some (.ref x0), some (.int x1), some (.int x2), some (.int x3), some (.int v6), some (.int v12), some (.int v6)] [] w11 else none else none else none else none := by
  have h : sk_c (d + 1) 207 [.ref x0, .int x1, .int x2, .int x3] w = sk_D207 d 0 [some (.ref x0), some (.int x1), some (.int x2), some (.int x3), none, none, none] [] w := rfl
  rw [h]
  exact sk_unf (sk_c d) sk_fields true sk_t207 [38] 2000 rfl
set_option maxRecDepth 100000 in
theorem sk_e207_38 (d : Nat) (x0 : Nat) (x1 : Int32) (o2 : Option Value) (x3 : Int32) (o4 : Option Value) (x5 : Int32) (x6 : Int32) (w : sk_W) : sk_D207 d 38 [some (.ref x0), some (.int x1), o2, some (.int x3), o4, some (.int x5), some (.int x6)] [] w =
  if sk_cond .gt x6 x5 = true then
    some (some (.int (sj 0)), w)
  else
    if sk_isO w x0 11 = true then
    sk_ci (sk_c d 206 [.ref x0, .int x1, .int x3, .int x6] w) fun v2 w1 =>
    if sk_cond .eq v2 (sj 0) = true then
      sk_D207 d 38 [some (.ref x0), some (.int x1), o2, some (.int x3), o4, some (.int x5), some (.int (x6 + (sj 1)))] [] w1
    else
      some (some (.int (sj 1)), w1) else none := sk_unf (sk_c d) sk_fields true sk_t207 [38] 2000 rfl
/-- SkylineNesterModel.cuts(I)V -/
noncomputable abbrev sk_D208 (d : Nat) : sk_K := sk_den (sk_c d) sk_fields false sk_t208
set_option maxRecDepth 100000 in
theorem sk_e208 (d : Nat) (x0 : Nat) (x1 : Int32) (w : sk_W) : sk_c (d + 1) 208 [.ref x0, .int x1] w =
  sk_D208 d 2 [some (.ref x0), some (.int x1), some (.int (sj 0)), none] [] w := by
  have h : sk_c (d + 1) 208 [.ref x0, .int x1] w = sk_D208 d 0 [some (.ref x0), some (.int x1), none, none] [] w := rfl
  rw [h]
  exact sk_unf (sk_c d) sk_fields false sk_t208 [2, 36, 84] 2000 rfl
set_option maxRecDepth 100000 in
theorem sk_e208_2 (d : Nat) (x0 : Nat) (x1 : Int32) (x2 : Int32) (o3 : Option Value) (w : sk_W) : sk_D208 d 2 [some (.ref x0), some (.int x1), some (.int x2), o3] [] w =
  (sk_getr w x0 11 1).bind fun v1 =>
  (sk_ald w v1 (sj 1)).bind fun v2 =>
  if sk_cond .ge x2 v2 = true then
    (sk_getr w x0 11 15).bind fun v3 =>
    (sk_getr w x0 11 14).bind fun v4 =>
    (sk_copy w v3 (sj 0) v4 (sj 0) (sj 10)).bind fun w5 =>
    some (none, w5)
  else
    (sk_getr w x0 11 15).bind fun v6 =>
    (sk_ast w v6 x2 x2).bind fun w7 =>
    (sk_getr w7 x0 11 1).bind fun v8 =>
    (sk_ald w7 v8 ((sj 77) + x2)).bind fun v9 =>
    if sk_cond .ne v9 (sj 0) = true then
      sk_D208 d 36 [some (.ref x0), some (.int x1), some (.int x2), some (.int (sj 0))] [] w7
    else
      sk_D208 d 2 [some (.ref x0), some (.int x1), some (.int (x2 + (sj 1))), o3] [] w7 := sk_unf (sk_c d) sk_fields false sk_t208 [2, 36, 84] 2000 rfl
set_option maxRecDepth 100000 in
theorem sk_e208_36 (d : Nat) (x0 : Nat) (x1 : Int32) (x2 : Int32) (x3 : Int32) (w : sk_W) : sk_D208 d 36 [some (.ref x0), some (.int x1), some (.int x2), some (.int x3)] [] w =
  if sk_cond .ge x3 x2 = true then
    sk_D208 d 84 [some (.ref x0), some (.int x1), some (.int x2), some (.int x3)] [] w
  else
    (sk_getr w x0 11 1).bind fun v1 =>
    (sk_ald w v1 ((sj 77) + x3)).bind fun v2 =>
    if sk_cond .eq v2 (sj 0) = true then
      sk_D208 d 36 [some (.ref x0), some (.int x1), some (.int x2), some (.int (x3 + (sj 1)))] [] w
    else
      (sk_getr w x0 11 14).bind fun v3 =>
      (sk_ald w v3 x3).bind fun v4 =>
      (sk_getr w x0 11 14).bind fun v5 =>
      (sk_ald w v5 x2).bind fun v6 =>
      if sk_cond .ne v4 v6 = true then
        sk_D208 d 36 [some (.ref x0), some (.int x1), some (.int x2), some (.int (x3 + (sj 1)))] [] w
      else
        if sk_isO w x0 11 = true then
        sk_ci (sk_c d 207 [.ref x0, .int x2, .int x3, .int x1] w) fun v8 w7 =>
        if sk_cond .eq v8 (sj 0) = true then
          sk_D208 d 84 [some (.ref x0), some (.int x1), some (.int x2), some (.int x3)] [] w7
        else
          sk_D208 d 36 [some (.ref x0), some (.int x1), some (.int x2), some (.int (x3 + (sj 1)))] [] w7 else none := sk_unf (sk_c d) sk_fields false sk_t208 [2, 36, 84] 2000 rfl
set_option maxRecDepth 100000 in
theorem sk_e208_84 (d : Nat) (x0 : Nat) (x1 : Int32) (x2 : Int32) (x3 : Int32) (w : sk_W) : sk_D208 d 84 [some (.ref x0), some (.int x1), some (.int x2), some (.int x3)] [] w =
  (sk_getr w x0 11 15).bind fun v1 =>
  if sk_cond .ge x3 x2 = true then
    (sk_ast w v1 x2 x2).bind fun w2 =>
    sk_D208 d 2 [some (.ref x0), some (.int x1), some (.int (x2 + (sj 1))), some (.int x3)] [] w2
  else
    (sk_getr w x0 11 15).bind fun v3 =>
    (sk_ald w v3 x3).bind fun v4 =>
    (sk_ast w v1 x2 v4).bind fun w5 =>
    sk_D208 d 2 [some (.ref x0), some (.int x1), some (.int (x2 + (sj 1))), some (.int x3)] [] w5 := sk_unf (sk_c d) sk_fields false sk_t208 [2, 36, 84] 2000 rfl
/-- SkylineNesterModel.areAlone()Z -/
noncomputable abbrev sk_D209 (d : Nat) : sk_K := sk_den (sk_c d) sk_fields true sk_t209
set_option maxRecDepth 100000 in
theorem sk_e209 (d : Nat) (x0 : Nat) (w : sk_W) : sk_c (d + 1) 209 [.ref x0] w =
  sk_D209 d 2 [some (.ref x0), some (.int (sj 0)), none] [] w := by
  have h : sk_c (d + 1) 209 [.ref x0] w = sk_D209 d 0 [some (.ref x0), none, none] [] w := rfl
  rw [h]
  exact sk_unf (sk_c d) sk_fields true sk_t209 [2, 14] 2000 rfl
set_option maxRecDepth 100000 in
theorem sk_e209_2 (d : Nat) (x0 : Nat) (x1 : Int32) (o2 : Option Value) (w : sk_W) : sk_D209 d 2 [some (.ref x0), some (.int x1), o2] [] w =
  (sk_getr w x0 11 1).bind fun v1 =>
  (sk_ald w v1 (sj 1)).bind fun v2 =>
  if sk_cond .ge x1 v2 = true then
    some (some (.int (sj 1)), w)
  else
    sk_D209 d 14 [some (.ref x0), some (.int x1), some (.int (sj 0))] [] w := sk_unf (sk_c d) sk_fields true sk_t209 [2, 14] 2000 rfl
set_option maxRecDepth 100000 in
theorem sk_e209_14 (d : Nat) (x0 : Nat) (x1 : Int32) (x2 : Int32) (w : sk_W) : sk_D209 d 14 [some (.ref x0), some (.int x1), some (.int x2)] [] w =
  if sk_cond .ge x2 x1 = true then
    sk_D209 d 2 [some (.ref x0), some (.int (x1 + (sj 1))), some (.int x2)] [] w
  else
    (sk_getr w x0 11 1).bind fun v1 =>
    (sk_ald w v1 ((sj 77) + x1)).bind fun v2 =>
    if sk_cond .eq v2 (sj 0) = true then
      sk_D209 d 14 [some (.ref x0), some (.int x1), some (.int (x2 + (sj 1)))] [] w
    else
      (sk_getr w x0 11 1).bind fun v3 =>
      (sk_ald w v3 ((sj 77) + x2)).bind fun v4 =>
      if sk_cond .eq v4 (sj 0) = true then
        sk_D209 d 14 [some (.ref x0), some (.int x1), some (.int (x2 + (sj 1)))] [] w
      else
        (sk_getr w x0 11 14).bind fun v5 =>
        (sk_ald w v5 x1).bind fun v6 =>
        (sk_getr w x0 11 14).bind fun v7 =>
        (sk_ald w v7 x2).bind fun v8 =>
        if sk_cond .ne v6 v8 = true then
          sk_D209 d 14 [some (.ref x0), some (.int x1), some (.int (x2 + (sj 1)))] [] w
        else
          some (some (.int (sj 0)), w) := sk_unf (sk_c d) sk_fields true sk_t209 [2, 14] 2000 rfl
/-- SkylineNesterModel.stagesFrom(I)I -/
noncomputable abbrev sk_D210 (d : Nat) : sk_K := sk_den (sk_c d) sk_fields false sk_t210
set_option maxRecDepth 100000 in
theorem sk_e210 (d : Nat) (x0 : Nat) (x1 : Int32) (w : sk_W) : sk_c (d + 1) 210 [.ref x0, .int x1] w =
  sk_D210 d 2 [some (.ref x0), some (.int x1), some (.int (sj 0))] [] w := by
  have h : sk_c (d + 1) 210 [.ref x0, .int x1] w = sk_D210 d 0 [some (.ref x0), some (.int x1), none] [] w := rfl
  rw [h]
  exact sk_unf (sk_c d) sk_fields false sk_t210 [2, 23] 2000 rfl
set_option maxRecDepth 100000 in
theorem sk_e210_2 (d : Nat) (x0 : Nat) (x1 : Int32) (x2 : Int32) (w : sk_W) : sk_D210 d 2 [some (.ref x0), some (.int x1), some (.int x2)] [] w =
  if sk_cond .ge x2 (sj 10) = true then
    sk_D210 d 23 [some (.ref x0), some (.int x1), some (.int (sj 0))] [] w
  else
    (sk_getr w x0 11 14).bind fun v1 =>
    (sk_ast w v1 x2 (sj 0)).bind fun w2 =>
    sk_D210 d 2 [some (.ref x0), some (.int x1), some (.int (x2 + (sj 1)))] [] w2 := sk_unf (sk_c d) sk_fields false sk_t210 [2, 23] 2000 rfl
set_option maxRecDepth 100000 in
theorem sk_e210_23 (d : Nat) (x0 : Nat) (x1 : Int32) (x2 : Int32) (w : sk_W) : sk_D210 d 23 [some (.ref x0), some (.int x1), some (.int x2)] [] w =
  if sk_isO w x0 11 = true then
  sk_ci (sk_c d 209 [.ref x0] w) fun v2 w1 =>
  if sk_cond .ne v2 (sj 0) = true then
    some (some (.int x2), w1)
  else
    if sk_cond .le x2 (sj 22) = true then
      if sk_isO w1 x0 11 = true then
      sk_cv (sk_c d 208 [.ref x0, .int ((x1 + x2) - ((x1 + x2) / (sj 2)) * (sj 2))] w1) fun w3 =>
      sk_D210 d 23 [some (.ref x0), some (.int x1), some (.int (x2 + (sj 1)))] [] w3 else none
    else
      some (some (.int (sj (-1))), w1) else none := sk_unf (sk_c d) sk_fields false sk_t210 [2, 23] 2000 rfl
/-- SkylineNesterModel.stages()I -/
noncomputable abbrev sk_D211 (d : Nat) : sk_K := sk_den (sk_c d) sk_fields false sk_t211
set_option maxRecDepth 100000 in
theorem sk_e211 (d : Nat) (x0 : Nat) (w : sk_W) : sk_c (d + 1) 211 [.ref x0] w =
  if sk_isO w x0 11 = true then
  sk_ci (sk_c d 210 [.ref x0, .int (sj 0)] w) fun v2 w1 =>
  if sk_isO w1 x0 11 = true then
  sk_ci (sk_c d 210 [.ref x0, .int (sj 1)] w1) fun v4 w3 =>
  if sk_cond .eq v2 (sj (-1)) = true then
    some (some (.int (sj (-1))), w3)
  else
    if sk_cond .ne v4 (sj (-1)) = true then
      sk_ci (sk_c d 240 [.int v2, .int v4] w3) fun v6 w5 =>
      some (some (.int v6), w5)
    else
      some (some (.int (sj (-1))), w3) else none else none := by
  have h : sk_c (d + 1) 211 [.ref x0] w = sk_D211 d 0 [some (.ref x0), none, none] [] w := rfl
  rw [h]
  exact sk_unf (sk_c d) sk_fields false sk_t211 [] 2000 rfl
/-- SkylineNesterModel.isAnyThere()Z -/
noncomputable abbrev sk_D212 (d : Nat) : sk_K := sk_den (sk_c d) sk_fields true sk_t212
set_option maxRecDepth 100000 in
theorem sk_e212 (d : Nat) (x0 : Nat) (w : sk_W) : sk_c (d + 1) 212 [.ref x0] w =
  sk_D212 d 2 [some (.ref x0), some (.int (sj 0))] [] w := by
  have h : sk_c (d + 1) 212 [.ref x0] w = sk_D212 d 0 [some (.ref x0), none] [] w := rfl
  rw [h]
  exact sk_unf (sk_c d) sk_fields true sk_t212 [2] 2000 rfl
set_option maxRecDepth 100000 in
theorem sk_e212_2 (d : Nat) (x0 : Nat) (x1 : Int32) (w : sk_W) : sk_D212 d 2 [some (.ref x0), some (.int x1)] [] w =
  (sk_getr w x0 11 1).bind fun v1 =>
  (sk_ald w v1 (sj 1)).bind fun v2 =>
  if sk_cond .ge x1 v2 = true then
    some (some (.int (sj 0)), w)
  else
    (sk_getr w x0 11 1).bind fun v3 =>
    (sk_ald w v3 ((sj 77) + x1)).bind fun v4 =>
    if sk_cond .eq v4 (sj 0) = true then
      sk_D212 d 2 [some (.ref x0), some (.int (x1 + (sj 1)))] [] w
    else
      some (some (.int (sj 1)), w) := sk_unf (sk_c d) sk_fields true sk_t212 [2] 2000 rfl
/-- SkylineNesterModel.centre(I)I -/
noncomputable abbrev sk_D213 (d : Nat) : sk_K := sk_den (sk_c d) sk_fields false sk_t213
set_option maxRecDepth 100000 in
theorem sk_e213 (d : Nat) (x0 : Nat) (x1 : Int32) (w : sk_W) : sk_c (d + 1) 213 [.ref x0, .int x1] w =
  sk_ci (sk_c d 144 [.int x1, .int (sj 0), .int (sj 2)] w) fun v2 w1 =>
  if sk_cond .ne v2 (sj 0) = true then
    if sk_isO w1 x0 11 = true then
    sk_ci (sk_c d 212 [.ref x0] w1) fun v4 w3 =>
    if sk_cond .ne v4 (sj 0) = true then
      sk_D213 d 35 [some (.ref x0), some (.int x1), some (.float FP.fconst0), some (.float FP.fconst0), some (.float FP.fconst0), some (.int (sj 0)), some (.int (sj 0)), none] [] w3
    else
      some (some (.int (sj (-3))), w3) else none
  else
    some (some (.int (sj (-2))), w1) := by
  have h : sk_c (d + 1) 213 [.ref x0, .int x1] w = sk_D213 d 0 [some (.ref x0), some (.int x1), none, none, none, none, none, none] [] w := rfl
  rw [h]
  exact sk_unf (sk_c d) sk_fields false sk_t213 [35] 2000 rfl
set_option maxRecDepth 100000 in
theorem sk_e213_35 (d : Nat) (x0 : Nat) (x1 : Int32) (x2 : UInt32) (x3 : UInt32) (x4 : UInt32) (x5 : Int32) (x6 : Int32) (o7 : Option Value) (w : sk_W) : sk_D213 d 35 [some (.ref x0), some (.int x1), some (.float x2), some (.float x3), some (.float x4), some (.int x5), some (.int x6), o7] [] w =
  (sk_getr w x0 11 1).bind fun v1 =>
  (sk_ald w v1 (sj 1)).bind fun v2 =>
  if sk_cond .ge x6 v2 = true then
    if sk_cond .ne x1 (sj 2) = true then
      if sk_cond .ne x1 (sj 0) = true then
        if (FP.fdiv x4 x2) &&& 0x7fffffff ≤ 0x7f800000 then
        sk_ci (sk_c d 238 [.float (FP.fdiv x4 x2)] w) fun v4 w3 =>
        some (some (.int v4), w3) else none
      else
        if (FP.fdiv x3 x2) &&& 0x7fffffff ≤ 0x7f800000 then
        sk_ci (sk_c d 238 [.float (FP.fdiv x3 x2)] w) fun v6 w5 =>
        some (some (.int v6), w5) else none
    else
      (sk_getr w x0 11 1).bind fun v7 =>
      (sk_ald w v7 (sj 0)).bind fun v8 =>
      if sk_isO w x0 11 = true then
      sk_ci (sk_c d 185 [.ref x0] w) fun v10 w9 =>
      if (FP.fdiv (FP.i2f x5) (FP.i2f (v8 * v10))) &&& 0x7fffffff ≤ 0x7f800000 then
      sk_ci (sk_c d 238 [.float (FP.fdiv (FP.i2f x5) (FP.i2f (v8 * v10)))] w9) fun v12 w11 =>
      some (some (.int v12), w11) else none else none
  else
    (sk_getr w x0 11 1).bind fun v13 =>
    (sk_ald w v13 ((sj 77) + x6)).bind fun v14 =>
    if sk_cond .ne v14 (sj 0) = true then
      if sk_isO w x0 11 = true then
      sk_ci (sk_c d 154 [.ref x0, .int x6] w) fun v16 w15 =>
      if sk_isO w15 x0 11 = true then
      sk_ci (sk_c d 155 [.ref x0, .int x6] w15) fun v18 w17 =>
      if sk_isO w17 x0 11 = true then
      sk_ci (sk_c d 154 [.ref x0, .int x6] w17) fun v20 w19 =>
      if sk_isO w19 x0 11 = true then
      sk_ci (sk_c d 155 [.ref x0, .int x6] w19) fun v22 w21 =>
      if (FP.fadd x2 (FP.i2f (v16 * v18))) &&& 0x7fffffff ≤ 0x7f800000 then
      (sk_getr w21 x0 11 1).bind fun v23 =>
      (sk_ald w21 v23 ((sj 47) + x6)).bind fun v24 =>
      if sk_isO w21 x0 11 = true then
      sk_ci (sk_c d 154 [.ref x0, .int x6] w21) fun v26 w25 =>
      if (FP.fdiv (FP.i2f v26) FP.fconst2) &&& 0x7fffffff ≤ 0x7f800000 then
      if (FP.fadd (FP.i2f v24) (FP.fdiv (FP.i2f v26) FP.fconst2)) &&& 0x7fffffff ≤ 0x7f800000 then
      if (FP.fmul (FP.i2f (v16 * v18)) (FP.fadd (FP.i2f v24) (FP.fdiv (FP.i2f v26) FP.fconst2))) &&& 0x7fffffff ≤ 0x7f800000 then
      if (FP.fadd x3 (FP.fmul (FP.i2f (v16 * v18)) (FP.fadd (FP.i2f v24) (FP.fdiv (FP.i2f v26) FP.fconst2)))) &&& 0x7fffffff ≤ 0x7f800000 then
      (sk_getr w25 x0 11 1).bind fun v27 =>
      (sk_ald w25 v27 ((sj 57) + x6)).bind fun v28 =>
      if sk_isO w25 x0 11 = true then
      sk_ci (sk_c d 155 [.ref x0, .int x6] w25) fun v30 w29 =>
      if (FP.fdiv (FP.i2f v30) FP.fconst2) &&& 0x7fffffff ≤ 0x7f800000 then
      if (FP.fadd (FP.i2f v28) (FP.fdiv (FP.i2f v30) FP.fconst2)) &&& 0x7fffffff ≤ 0x7f800000 then
      if (FP.fmul (FP.i2f (v16 * v18)) (FP.fadd (FP.i2f v28) (FP.fdiv (FP.i2f v30) FP.fconst2))) &&& 0x7fffffff ≤ 0x7f800000 then
      if (FP.fadd x4 (FP.fmul (FP.i2f (v16 * v18)) (FP.fadd (FP.i2f v28) (FP.fdiv (FP.i2f v30) FP.fconst2)))) &&& 0x7fffffff ≤ 0x7f800000 then
      sk_D213 d 35 [some (.ref x0), some (.int x1), some (.float (FP.fadd x2 (FP.i2f (v16 * v18)))), some (.float (FP.fadd x3 (FP.fmul (FP.i2f (v16 * v18)) (FP.fadd (FP.i2f v24) (FP.fdiv (FP.i2f v26) FP.fconst2))))), some (.float (FP.fadd x4 (FP.fmul (FP.i2f (v16 * v18)) (FP.fadd (FP.i2f v28) (FP.fdiv (FP.i2f v30) FP.fconst2))))), some (.int (x5 + (v20 * v22))), some (.int (x6 + (sj 1))), some (.float (FP.i2f (v16 * v18)))] [] w29 else none else none else none else none else none else none else none else none else none else none else none else none else none else none else none
    else
      sk_D213 d 35 [some (.ref x0), some (.int x1), some (.float x2), some (.float x3), some (.float x4), some (.int x5), some (.int (x6 + (sj 1))), o7] [] w := sk_unf (sk_c d) sk_fields false sk_t213 [35] 2000 rfl
/-- SkylineNesterModel.drawnTop(II)I -/
noncomputable abbrev sk_D214 (d : Nat) : sk_K := sk_den (sk_c d) sk_fields false sk_t214
set_option maxRecDepth 100000 in
theorem sk_e214 (d : Nat) (x0 : Nat) (x1 : Int32) (x2 : Int32) (w : sk_W) : sk_c (d + 1) 214 [.ref x0, .int x1, .int x2] w =
  (sk_getr w x0 11 1).bind fun v1 =>
  (sk_ald w v1 (sj 2)).bind fun v2 =>
  if sk_isO w x0 11 = true then
  sk_cv (sk_c d 146 [.ref x0, .int (sj 2)] w) fun w3 =>
  sk_D214 d 18 [some (.ref x0), some (.int x1), some (.int x2), some (.int x1), some (.int v2), some (.int (sj 0)), none] [] w3 else none := by
  have h : sk_c (d + 1) 214 [.ref x0, .int x1, .int x2] w = sk_D214 d 0 [some (.ref x0), some (.int x1), some (.int x2), none, none, none, none] [] w := rfl
  rw [h]
  exact sk_unf (sk_c d) sk_fields false sk_t214 [18] 2000 rfl
set_option maxRecDepth 100000 in
theorem sk_e214_18 (d : Nat) (x0 : Nat) (o1 : Option Value) (x2 : Int32) (x3 : Int32) (x4 : Int32) (x5 : Int32) (o6 : Option Value) (w : sk_W) : sk_D214 d 18 [some (.ref x0), o1, some (.int x2), some (.int x3), some (.int x4), some (.int x5), o6] [] w =
  if sk_cond .ge x5 x2 = true then
    if sk_isO w x0 11 = true then
    sk_ci (sk_c d 184 [.ref x0] w) fun v2 w1 =>
    if sk_isO w1 x0 11 = true then
    sk_ci (sk_c d 185 [.ref x0] w1) fun v4 w3 =>
    if sk_isO w3 x0 11 = true then
    sk_cv (sk_c d 147 [.ref x0, .int (sj 2)] w3) fun w5 =>
    some (some (.int v4), w5) else none else none else none
  else
    if sk_cond .le x4 (sj 0) = true then
      if sk_isO w x0 11 = true then
      sk_ci (sk_c d 184 [.ref x0] w) fun v7 w6 =>
      if sk_isO w6 x0 11 = true then
      sk_ci (sk_c d 185 [.ref x0] w6) fun v9 w8 =>
      if sk_isO w8 x0 11 = true then
      sk_cv (sk_c d 147 [.ref x0, .int (sj 2)] w8) fun w10 =>
      some (some (.int v9), w10) else none else none else none
    else
      if x4 = 0 then none else
      if x4 = 0 then none else
      if sk_isO w x0 11 = true then
      sk_cv (sk_c d 171 [.ref x0, .int ((((x3 * (Int32.ofNat 1103515245)) + (sj 12345)).toUInt32 >>> ((sj 9).toUInt32 &&& Int32.toUInt32 31)).toInt32 - ((((x3 * (Int32.ofNat 1103515245)) + (sj 12345)).toUInt32 >>> ((sj 9).toUInt32 &&& Int32.toUInt32 31)).toInt32 / x4) * x4), .int ((((((x3 * (Int32.ofNat 1103515245)) + (sj 12345)) * (Int32.ofNat 1103515245)) + (sj 12345)).toUInt32 >>> ((sj 9).toUInt32 &&& Int32.toUInt32 31)).toInt32 - ((((((x3 * (Int32.ofNat 1103515245)) + (sj 12345)) * (Int32.ofNat 1103515245)) + (sj 12345)).toUInt32 >>> ((sj 9).toUInt32 &&& Int32.toUInt32 31)).toInt32 / x4) * x4)] w) fun w11 =>
      sk_D214 d 18 [some (.ref x0), o1, some (.int x2), some (.int ((((x3 * (Int32.ofNat 1103515245)) + (sj 12345)) * (Int32.ofNat 1103515245)) + (sj 12345))), some (.int x4), some (.int (x5 + (sj 1))), some (.int ((((x3 * (Int32.ofNat 1103515245)) + (sj 12345)).toUInt32 >>> ((sj 9).toUInt32 &&& Int32.toUInt32 31)).toInt32 - ((((x3 * (Int32.ofNat 1103515245)) + (sj 12345)).toUInt32 >>> ((sj 9).toUInt32 &&& Int32.toUInt32 31)).toInt32 / x4) * x4))] [] w11 else none := sk_unf (sk_c d) sk_fields false sk_t214 [18] 2000 rfl
/-- SkylineNesterModel.drawn(II)I -/
noncomputable abbrev sk_D215 (d : Nat) : sk_K := sk_den (sk_c d) sk_fields false sk_t215
set_option maxRecDepth 100000 in
theorem sk_e215 (d : Nat) (x0 : Nat) (x1 : Int32) (x2 : Int32) (w : sk_W) : sk_c (d + 1) 215 [.ref x0, .int x1, .int x2] w =
  sk_ci (sk_c d 144 [.int x2, .int (sj 0), .int (sj 20)] w) fun v2 w1 =>
  if sk_cond .eq v2 (sj 0) = true then
    some (some (.int (sj (-2))), w1)
  else
    if sk_isO w1 x0 11 = true then
    sk_ci (sk_c d 214 [.ref x0, .int x1, .int x2] w1) fun v4 w3 =>
    some (some (.int v4), w3) else none := by
  have h : sk_c (d + 1) 215 [.ref x0, .int x1, .int x2] w = sk_D215 d 0 [some (.ref x0), some (.int x1), some (.int x2)] [] w := rfl
  rw [h]
  exact sk_unf (sk_c d) sk_fields false sk_t215 [] 2000 rfl
/-- SkylineNesterModel.chance(IIII)I -/
noncomputable abbrev sk_D216 (d : Nat) : sk_K := sk_den (sk_c d) sk_fields false sk_t216
set_option maxRecDepth 100000 in
theorem sk_e216 (d : Nat) (x0 : Nat) (x1 : Int32) (x2 : Int32) (x3 : Int32) (x4 : Int32) (w : sk_W) : sk_c (d + 1) 216 [.ref x0, .int x1, .int x2, .int x3, .int x4] w =
  sk_ci (sk_c d 144 [.int x2, .int (sj 1), .int (sj 8)] w) fun v2 w1 =>
  if sk_cond .eq v2 (sj 0) = true then
    some (some (.int (sj (-2))), w1)
  else
    if sk_cond .lt x3 (sj 0) = true then
      some (some (.int (sj (-2))), w1)
    else
      sk_ci (sk_c d 144 [.int x4, .int (sj 0), .int (sj 1)] w1) fun v4 w3 =>
      if sk_cond .ne v4 (sj 0) = true then
        sk_D216 d 33 [some (.ref x0), some (.int x1), some (.int x2), some (.int x3), some (.int x4), some (.int (sj 0)), some (.int (sj 0))] [] w3
      else
        some (some (.int (sj (-2))), w3) := by
  have h : sk_c (d + 1) 216 [.ref x0, .int x1, .int x2, .int x3, .int x4] w = sk_D216 d 0 [some (.ref x0), some (.int x1), some (.int x2), some (.int x3), some (.int x4), none, none] [] w := rfl
  rw [h]
  exact sk_unf (sk_c d) sk_fields false sk_t216 [33, 65] 2000 rfl
set_option maxRecDepth 100000 in
theorem sk_e216_33 (d : Nat) (x0 : Nat) (x1 : Int32) (x2 : Int32) (x3 : Int32) (x4 : Int32) (x5 : Int32) (x6 : Int32) (w : sk_W) : sk_D216 d 33 [some (.ref x0), some (.int x1), some (.int x2), some (.int x3), some (.int x4), some (.int x5), some (.int x6)] [] w =
  if sk_cond .ge x6 x2 = true then
    sk_D216 d 65 [some (.ref x0), some (.int x1), some (.int x2), some (.int x3), some (.int x4), some (.int x5), some (.int x2)] [] w
  else
    if sk_isO w x0 11 = true then
    sk_ci (sk_c d 214 [.ref x0, .int (x1 + x6), .int (sj 6)] w) fun v2 w1 =>
    if sk_cond .gt v2 x3 = true then
      sk_D216 d 33 [some (.ref x0), some (.int x1), some (.int x2), some (.int x3), some (.int x4), some (.int x5), some (.int (x6 + (sj 1)))] [] w1
    else
      sk_D216 d 33 [some (.ref x0), some (.int x1), some (.int x2), some (.int x3), some (.int x4), some (.int (x5 + (sj 1))), some (.int (x6 + (sj 1)))] [] w1 else none := sk_unf (sk_c d) sk_fields false sk_t216 [33, 65] 2000 rfl
set_option maxRecDepth 100000 in
theorem sk_e216_65 (d : Nat) (o0 : Option Value) (o1 : Option Value) (x2 : Int32) (o3 : Option Value) (x4 : Int32) (x5 : Int32) (x6 : Int32) (w : sk_W) : sk_D216 d 65 [o0, o1, some (.int x2), o3, some (.int x4), some (.int x5), some (.int x6)] [] w =
  if x6 = 0 then none else
  if sk_cond .ne (x5 - (x5 / x6) * x6) (sj 0) = true then
    sk_D216 d 65 [o0, o1, some (.int x2), o3, some (.int x4), some (.int x5), some (.int (x6 + (sj (-1))))] [] w
  else
    if x6 = 0 then none else
    if sk_cond .eq (x2 - (x2 / x6) * x6) (sj 0) = true then
      if sk_cond .ne x4 (sj 0) = true then
        if x6 = 0 then none else
        some (some (.int (x2 / x6)), w)
      else
        if x6 = 0 then none else
        some (some (.int (x5 / x6)), w)
    else
      sk_D216 d 65 [o0, o1, some (.int x2), o3, some (.int x4), some (.int x5), some (.int (x6 + (sj (-1))))] [] w := sk_unf (sk_c d) sk_fields false sk_t216 [33, 65] 2000 rfl
/-- SkylineNesterModel.firstOther(I)I -/
noncomputable abbrev sk_D217 (d : Nat) : sk_K := sk_den (sk_c d) sk_fields false sk_t217
set_option maxRecDepth 100000 in
theorem sk_e217 (d : Nat) (x0 : Nat) (x1 : Int32) (w : sk_W) : sk_c (d + 1) 217 [.ref x0, .int x1] w =
  sk_D217 d 2 [some (.ref x0), some (.int x1), some (.int (sj 0))] [] w := by
  have h : sk_c (d + 1) 217 [.ref x0, .int x1] w = sk_D217 d 0 [some (.ref x0), some (.int x1), none] [] w := rfl
  rw [h]
  exact sk_unf (sk_c d) sk_fields false sk_t217 [2, 50] 2000 rfl
set_option maxRecDepth 100000 in
theorem sk_e217_2 (d : Nat) (x0 : Nat) (x1 : Int32) (x2 : Int32) (w : sk_W) : sk_D217 d 2 [some (.ref x0), some (.int x1), some (.int x2)] [] w =
  (sk_getr w x0 11 1).bind fun v1 =>
  (sk_ald w v1 (sj 0)).bind fun v2 =>
  if sk_cond .ge x2 v2 = true then
    sk_D217 d 50 [some (.ref x0), some (.int x1), some (.int x2)] [] w
  else
    (sk_getr w x0 11 21).bind fun v3 =>
    (sk_ald w v3 x1).bind fun v4 =>
    if sk_cond .ge x2 v4 = true then
      sk_D217 d 50 [some (.ref x0), some (.int x1), some (.int x2)] [] w
    else
      (sk_getr w x0 11 1).bind fun v5 =>
      (sk_ald w v5 ((sj 97) + x2)).bind fun v6 =>
      (sk_getr w x0 11 22).bind fun v7 =>
      (sk_aldr w v7 x1).bind fun v8 =>
      (sk_ald w v8 x2).bind fun v9 =>
      if sk_cond .eq v6 v9 = true then
        sk_D217 d 2 [some (.ref x0), some (.int x1), some (.int (x2 + (sj 1)))] [] w
      else
        some (some (.int x2), w) := sk_unf (sk_c d) sk_fields false sk_t217 [2, 50] 2000 rfl
set_option maxRecDepth 100000 in
theorem sk_e217_50 (d : Nat) (x0 : Nat) (x1 : Int32) (o2 : Option Value) (w : sk_W) : sk_D217 d 50 [some (.ref x0), some (.int x1), o2] [] w =
  (sk_getr w x0 11 1).bind fun v1 =>
  (sk_ald w v1 (sj 0)).bind fun v2 =>
  (sk_getr w x0 11 21).bind fun v3 =>
  (sk_ald w v3 x1).bind fun v4 =>
  if sk_cond .ne v2 v4 = true then
    (sk_getr w x0 11 1).bind fun v5 =>
    (sk_ald w v5 (sj 0)).bind fun v6 =>
    (sk_getr w x0 11 21).bind fun v7 =>
    (sk_ald w v7 x1).bind fun v8 =>
    sk_ci (sk_c d 240 [.int v6, .int v8] w) fun v10 w9 =>
    some (some (.int v10), w9)
  else
    some (some (.int (sj (-1))), w) := sk_unf (sk_c d) sk_fields false sk_t217 [2, 50] 2000 rfl
/-- SkylineNesterModel.runsTo(I)Z -/
noncomputable abbrev sk_D218 (d : Nat) : sk_K := sk_den (sk_c d) sk_fields true sk_t218
set_option maxRecDepth 100000 in
theorem sk_e218 (d : Nat) (x0 : Nat) (x1 : Int32) (w : sk_W) : sk_c (d + 1) 218 [.ref x0, .int x1] w =
  if sk_isO w x0 11 = true then
  sk_ci (sk_c d 184 [.ref x0] w) fun v2 w1 =>
  if sk_isO w1 x0 11 = true then
  sk_ci (sk_c d 217 [.ref x0, .int x1] w1) fun v4 w3 =>
  if sk_cond .ne v4 (sj (-1)) = true then
    some (some (.int (sj 0)), w3)
  else
    some (some (.int (sj 1)), w3) else none else none := by
  have h : sk_c (d + 1) 218 [.ref x0, .int x1] w = sk_D218 d 0 [some (.ref x0), some (.int x1)] [] w := rfl
  rw [h]
  exact sk_unf (sk_c d) sk_fields true sk_t218 [] 2000 rfl
/-- SkylineNesterModel.tells(II)I -/
noncomputable abbrev sk_D219 (d : Nat) : sk_K := sk_den (sk_c d) sk_fields false sk_t219
set_option maxRecDepth 100000 in
theorem sk_e219 (d : Nat) (x0 : Nat) (x1 : Int32) (x2 : Int32) (w : sk_W) : sk_c (d + 1) 219 [.ref x0, .int x1, .int x2] w =
  sk_ci (sk_c d 233 [.int x1] w) fun v2 w1 =>
  if sk_cond .eq v2 (sj 0) = true then
    some (some (.int (sj (-2))), w1)
  else
    sk_ci (sk_c d 144 [.int x2, .int (sj 0), .int (sj 2)] w1) fun v4 w3 =>
    if sk_cond .ne v4 (sj 0) = true then
      (sk_getr w3 x0 11 20).bind fun v5 =>
      (sk_ald w3 v5 x1).bind fun v6 =>
      if sk_cond .ge v6 (sj 0) = true then
        (sk_getr w3 x0 11 21).bind fun v7 =>
        (sk_ald w3 v7 x1).bind fun v8 =>
        if sk_cond .le v8 (sj 20) = true then
          if sk_cond .ne x2 (sj 0) = true then
            if sk_isO w3 x0 11 = true then
            sk_cv (sk_c d 146 [.ref x0, .int (sj 2)] w3) fun w9 =>
            if sk_cond .ne x2 (sj 1) = true then
              sk_D219 d 111 [some (.ref x0), some (.int x1), some (.int x2), some (.int (sj 0)), some (.int (sj 1)), none] [] w9
            else
              sk_D219 d 70 [some (.ref x0), some (.int x1), some (.int x2), some (.int (sj 0)), some (.int (sj 0)), none] [] w9 else none
          else
            if sk_isO w3 x0 11 = true then
            sk_ci (sk_c d 217 [.ref x0, .int x1] w3) fun v11 w10 =>
            some (some (.int v11), w10) else none
        else
          some (some (.int (sj (-2))), w3)
      else
        some (some (.int (sj (-11))), w3)
    else
      some (some (.int (sj (-2))), w3) := by
  have h : sk_c (d + 1) 219 [.ref x0, .int x1, .int x2] w = sk_D219 d 0 [some (.ref x0), some (.int x1), some (.int x2), none, none, none] [] w := rfl
  rw [h]
  exact sk_unf (sk_c d) sk_fields false sk_t219 [70, 111, 125] 2000 rfl
set_option maxRecDepth 100000 in
theorem sk_e219_70 (d : Nat) (x0 : Nat) (x1 : Int32) (o2 : Option Value) (x3 : Int32) (x4 : Int32) (w : sk_W) : sk_D219 d 70 [some (.ref x0), some (.int x1), o2, some (.int x3), some (.int x4), none] [] w =
  if sk_cond .ge x4 (sj 4) = true then
    if sk_isO w x0 11 = true then
    sk_cv (sk_c d 147 [.ref x0, .int (sj 2)] w) fun w1 =>
    some (some (.int x3), w1) else none
  else
    (sk_getr w x0 11 1).bind fun v2 =>
    (sk_ast w v2 (sj 3) x4).bind fun w3 =>
    if sk_isO w3 x0 11 = true then
    sk_ci (sk_c d 218 [.ref x0, .int x1] w3) fun v5 w4 =>
    if sk_cond .eq v5 (sj 0) = true then
      sk_D219 d 70 [some (.ref x0), some (.int x1), o2, some (.int x3), some (.int (x4 + (sj 1))), none] [] w4
    else
      sk_D219 d 70 [some (.ref x0), some (.int x1), o2, some (.int (x3 ||| ((sj 1) <<< (x4 &&& 31)))), some (.int (x4 + (sj 1))), none] [] w4 else none := sk_unf (sk_c d) sk_fields false sk_t219 [70, 111, 125] 2000 rfl
set_option maxRecDepth 100000 in
theorem sk_e219_111 (d : Nat) (x0 : Nat) (x1 : Int32) (o2 : Option Value) (x3 : Int32) (x4 : Int32) (o5 : Option Value) (w : sk_W) : sk_D219 d 111 [some (.ref x0), some (.int x1), o2, some (.int x3), some (.int x4), o5] [] w =
  (sk_getr w x0 11 1).bind fun v1 =>
  (sk_ald w v1 (sj 2)).bind fun v2 =>
  if sk_cond .ge x4 v2 = true then
    if sk_isO w x0 11 = true then
    sk_cv (sk_c d 147 [.ref x0, .int (sj 2)] w) fun w3 =>
    some (some (.int x3), w3) else none
  else
    sk_D219 d 125 [some (.ref x0), some (.int x1), o2, some (.int x3), some (.int x4), some (.int (sj 0))] [] w := sk_unf (sk_c d) sk_fields false sk_t219 [70, 111, 125] 2000 rfl
set_option maxRecDepth 100000 in
theorem sk_e219_125 (d : Nat) (x0 : Nat) (x1 : Int32) (o2 : Option Value) (x3 : Int32) (x4 : Int32) (x5 : Int32) (w : sk_W) : sk_D219 d 125 [some (.ref x0), some (.int x1), o2, some (.int x3), some (.int x4), some (.int x5)] [] w =
  if sk_cond .ge x5 x4 = true then
    sk_D219 d 111 [some (.ref x0), some (.int x1), o2, some (.int x3), some (.int (x4 + (sj 1))), some (.int x5)] [] w
  else
    if sk_isO w x0 11 = true then
    sk_cv (sk_c d 171 [.ref x0, .int x5, .int x4] w) fun w1 =>
    if sk_isO w1 x0 11 = true then
    sk_ci (sk_c d 218 [.ref x0, .int x1] w1) fun v3 w2 =>
    if sk_cond .eq v3 (sj 0) = true then
      if sk_isO w2 x0 11 = true then
      sk_cv (sk_c d 171 [.ref x0, .int x5, .int x4] w2) fun w4 =>
      sk_D219 d 125 [some (.ref x0), some (.int x1), o2, some (.int x3), some (.int x4), some (.int (x5 + (sj 1)))] [] w4 else none
    else
      if sk_isO w2 x0 11 = true then
      sk_cv (sk_c d 171 [.ref x0, .int x5, .int x4] w2) fun w5 =>
      sk_D219 d 125 [some (.ref x0), some (.int x1), o2, some (.int (x3 + (sj 1))), some (.int x4), some (.int (x5 + (sj 1)))] [] w5 else none else none else none := sk_unf (sk_c d) sk_fields false sk_t219 [70, 111, 125] 2000 rfl
/-- SkylineNesterModel.isRack(I)Z -/
noncomputable abbrev sk_D220 (d : Nat) : sk_K := sk_den (sk_c d) sk_fields true sk_t220
set_option maxRecDepth 100000 in
theorem sk_e220 (d : Nat) (x0 : Int32) (w : sk_W) : sk_c (d + 1) 220 [.int x0] w =
  sk_ci (sk_c d 144 [.int x0, .int (sj 0), .int (sj 3)] w) fun v2 w1 =>
  if v2 = 0 ∨ v2 = 1 then some (some (.int v2), w1) else none := by
  have h : sk_c (d + 1) 220 [.int x0] w = sk_D220 d 0 [some (.int x0)] [] w := rfl
  rw [h]
  exact sk_unf (sk_c d) sk_fields true sk_t220 [] 2000 rfl
/-- SkylineNesterModel.emptyRacks()V -/
noncomputable abbrev sk_D221 (d : Nat) : sk_K := sk_den (sk_c d) sk_fields false sk_t221
set_option maxRecDepth 100000 in
theorem sk_e221 (d : Nat) (x0 : Nat) (w : sk_W) : sk_c (d + 1) 221 [.ref x0] w =
  sk_D221 d 2 [some (.ref x0), some (.int (sj 0)), none] [] w := by
  have h : sk_c (d + 1) 221 [.ref x0] w = sk_D221 d 0 [some (.ref x0), none, none] [] w := rfl
  rw [h]
  exact sk_unf (sk_c d) sk_fields false sk_t221 [2, 9] 2000 rfl
set_option maxRecDepth 100000 in
theorem sk_e221_2 (d : Nat) (x0 : Nat) (x1 : Int32) (o2 : Option Value) (w : sk_W) : sk_D221 d 2 [some (.ref x0), some (.int x1), o2] [] w =
  if sk_cond .ge x1 (sj 4) = true then
    some (none, w)
  else
    sk_D221 d 9 [some (.ref x0), some (.int x1), some (.int (sj 0))] [] w := sk_unf (sk_c d) sk_fields false sk_t221 [2, 9] 2000 rfl
set_option maxRecDepth 100000 in
theorem sk_e221_9 (d : Nat) (x0 : Nat) (x1 : Int32) (x2 : Int32) (w : sk_W) : sk_D221 d 9 [some (.ref x0), some (.int x1), some (.int x2)] [] w =
  if sk_cond .ge x2 (sj 10) = true then
    sk_D221 d 2 [some (.ref x0), some (.int (x1 + (sj 1))), some (.int x2)] [] w
  else
    (sk_getr w x0 11 18).bind fun v1 =>
    (sk_aldr w v1 x1).bind fun v2 =>
    (sk_ast w v2 x2 (sj (-1))).bind fun w3 =>
    sk_D221 d 9 [some (.ref x0), some (.int x1), some (.int (x2 + (sj 1)))] [] w3 := sk_unf (sk_c d) sk_fields false sk_t221 [2, 9] 2000 rfl
/-- SkylineNesterModel.rack(III)I -/
noncomputable abbrev sk_D222 (d : Nat) : sk_K := sk_den (sk_c d) sk_fields false sk_t222
set_option maxRecDepth 100000 in
theorem sk_e222 (d : Nat) (x0 : Nat) (x1 : Int32) (x2 : Int32) (x3 : Int32) (w : sk_W) : sk_c (d + 1) 222 [.ref x0, .int x1, .int x2, .int x3] w =
  sk_ci (sk_c d 220 [.int x1] w) fun v2 w1 =>
  if sk_cond .eq v2 (sj 0) = true then
    some (some (.int (sj (-2))), w1)
  else
    sk_ci (sk_c d 144 [.int x2, .int (sj 0), .int (sj 5)] w1) fun v4 w3 =>
    if sk_cond .eq v4 (sj 0) = true then
      some (some (.int (sj (-2))), w3)
    else
      if sk_cond .le x3 (sj 10) = true then
        if sk_cond .ge x3 (sj 0) = true then
          (sk_getr w3 x0 11 16).bind fun v5 =>
          (sk_ast w3 v5 x1 x3).bind fun w6 =>
          (sk_getr w6 x0 11 17).bind fun v7 =>
          (sk_ast w6 v7 x1 x2).bind fun w8 =>
          sk_D222 d 49 [some (.ref x0), some (.int x1), some (.int x2), some (.int x3), some (.int (sj 0))] [] w8
        else
          some (some (.int (sj (-14))), w3)
      else
        some (some (.int (sj (-2))), w3) := by
  have h : sk_c (d + 1) 222 [.ref x0, .int x1, .int x2, .int x3] w = sk_D222 d 0 [some (.ref x0), some (.int x1), some (.int x2), some (.int x3), none] [] w := rfl
  rw [h]
  exact sk_unf (sk_c d) sk_fields false sk_t222 [49] 2000 rfl
set_option maxRecDepth 100000 in
theorem sk_e222_49 (d : Nat) (x0 : Nat) (x1 : Int32) (o2 : Option Value) (o3 : Option Value) (x4 : Int32) (w : sk_W) : sk_D222 d 49 [some (.ref x0), some (.int x1), o2, o3, some (.int x4)] [] w =
  if sk_cond .ge x4 (sj 10) = true then
    some (some (.int (sj 1)), w)
  else
    (sk_getr w x0 11 18).bind fun v1 =>
    (sk_aldr w v1 x1).bind fun v2 =>
    (sk_ast w v2 x4 (sj (-1))).bind fun w3 =>
    sk_D222 d 49 [some (.ref x0), some (.int x1), o2, o3, some (.int (x4 + (sj 1)))] [] w3 := sk_unf (sk_c d) sk_fields false sk_t222 [49] 2000 rfl
/-- SkylineNesterModel.isFor(II)Z -/
noncomputable abbrev sk_D223 (d : Nat) : sk_K := sk_den (sk_c d) sk_fields true sk_t223
set_option maxRecDepth 100000 in
theorem sk_e223 (d : Nat) (x0 : Nat) (x1 : Int32) (x2 : Int32) (w : sk_W) : sk_c (d + 1) 223 [.ref x0, .int x1, .int x2] w =
  if sk_cond .eq x2 (sj (-1)) = true then
    some (some (.int (sj 1)), w)
  else
    (sk_getr w x0 11 1).bind fun v1 =>
    (sk_ald w v1 ((sj 7) + x2)).bind fun v2 =>
    (sk_getr w x0 11 17).bind fun v3 =>
    (sk_ald w v3 x1).bind fun v4 =>
    sk_ci (sk_c d 149 [.int v2, .int v4] w) fun v6 w5 =>
    if sk_cond .eq v6 (sj 0) = true then
      some (some (.int (sj 0)), w5)
    else
      some (some (.int (sj 1)), w5) := by
  have h : sk_c (d + 1) 223 [.ref x0, .int x1, .int x2] w = sk_D223 d 0 [some (.ref x0), some (.int x1), some (.int x2)] [] w := rfl
  rw [h]
  exact sk_unf (sk_c d) sk_fields true sk_t223 [] 2000 rfl
/-- SkylineNesterModel.puts(III)I -/
noncomputable abbrev sk_D224 (d : Nat) : sk_K := sk_den (sk_c d) sk_fields false sk_t224
set_option maxRecDepth 100000 in
theorem sk_e224 (d : Nat) (x0 : Nat) (x1 : Int32) (x2 : Int32) (x3 : Int32) (w : sk_W) : sk_c (d + 1) 224 [.ref x0, .int x1, .int x2, .int x3] w =
  sk_ci (sk_c d 220 [.int x1] w) fun v2 w1 =>
  if sk_cond .eq v2 (sj 0) = true then
    some (some (.int (sj (-2))), w1)
  else
    if sk_cond .eq x3 (sj (-1)) = true then
      sk_D224 d 23 [some (.ref x0), some (.int x1), some (.int x2), some (.int x3)] [] w1
    else
      if sk_isO w1 x0 11 = true then
      sk_ci (sk_c d 148 [.ref x0, .int x3] w1) fun v4 w3 =>
      if sk_cond .ne v4 (sj 0) = true then
        sk_D224 d 23 [some (.ref x0), some (.int x1), some (.int x2), some (.int x3)] [] w3
      else
        some (some (.int (sj (-2))), w3) else none := by
  have h : sk_c (d + 1) 224 [.ref x0, .int x1, .int x2, .int x3] w = sk_D224 d 0 [some (.ref x0), some (.int x1), some (.int x2), some (.int x3)] [] w := rfl
  rw [h]
  exact sk_unf (sk_c d) sk_fields false sk_t224 [23] 2000 rfl
set_option maxRecDepth 100000 in
theorem sk_e224_23 (d : Nat) (x0 : Nat) (x1 : Int32) (x2 : Int32) (x3 : Int32) (w : sk_W) : sk_D224 d 23 [some (.ref x0), some (.int x1), some (.int x2), some (.int x3)] [] w =
  (sk_getr w x0 11 16).bind fun v1 =>
  (sk_ald w v1 x1).bind fun v2 =>
  if sk_cond .ge v2 (sj 0) = true then
    (sk_getr w x0 11 16).bind fun v3 =>
    (sk_ald w v3 x1).bind fun v4 =>
    sk_ci (sk_c d 144 [.int x2, .int (sj 0), .int (v4 - (sj 1))] w) fun v6 w5 =>
    if sk_cond .ne v6 (sj 0) = true then
      if sk_isO w5 x0 11 = true then
      sk_ci (sk_c d 223 [.ref x0, .int x1, .int x3] w5) fun v8 w7 =>
      if sk_cond .ne v8 (sj 0) = true then
        (sk_getr w7 x0 11 18).bind fun v9 =>
        (sk_aldr w7 v9 x1).bind fun v10 =>
        (sk_ast w7 v10 x2 x3).bind fun w11 =>
        some (some (.int (sj 1)), w11)
      else
        some (some (.int (sj (-16))), w7) else none
    else
      some (some (.int (sj (-12))), w5)
  else
    some (some (.int (sj (-11))), w) := sk_unf (sk_c d) sk_fields false sk_t224 [23] 2000 rfl
/-- SkylineNesterModel.moved(IIIII)I -/
noncomputable abbrev sk_D225 (d : Nat) : sk_K := sk_den (sk_c d) sk_fields false sk_t225
set_option maxRecDepth 100000 in
theorem sk_e225 (d : Nat) (x0 : Nat) (x1 : Int32) (x2 : Int32) (x3 : Int32) (x4 : Int32) (x5 : Int32) (w : sk_W) : sk_c (d + 1) 225 [.ref x0, .int x1, .int x2, .int x3, .int x4, .int x5] w =
  sk_ci (sk_c d 220 [.int x1] w) fun v2 w1 =>
  if sk_cond .eq v2 (sj 0) = true then
    some (some (.int (sj (-2))), w1)
  else
    sk_ci (sk_c d 220 [.int x3] w1) fun v4 w3 =>
    if sk_cond .ne v4 (sj 0) = true then
      (sk_getr w3 x0 11 16).bind fun v5 =>
      (sk_ald w3 v5 x1).bind fun v6 =>
      if sk_cond .lt v6 (sj 0) = true then
        some (some (.int (sj (-11))), w3)
      else
        (sk_getr w3 x0 11 16).bind fun v7 =>
        (sk_ald w3 v7 x3).bind fun v8 =>
        if sk_cond .ge v8 (sj 0) = true then
          if sk_cond .lt x5 (sj 0) = true then
            some (some (.int (sj (-12))), w3)
          else
            if sk_cond .lt x2 (sj 0) = true then
              some (some (.int (sj (-12))), w3)
            else
              if sk_cond .lt x4 (sj 0) = true then
                some (some (.int (sj (-12))), w3)
              else
                (sk_getr w3 x0 11 16).bind fun v9 =>
                (sk_ald w3 v9 x1).bind fun v10 =>
                if sk_cond .gt x2 (v10 - x5) = true then
                  some (some (.int (sj (-12))), w3)
                else
                  (sk_getr w3 x0 11 16).bind fun v11 =>
                  (sk_ald w3 v11 x3).bind fun v12 =>
                  if sk_cond .le x4 (v12 - x5) = true then
                    (sk_getr w3 x0 11 18).bind fun v13 =>
                    (sk_aldr w3 v13 x1).bind fun v14 =>
                    (sk_getr w3 x0 11 19).bind fun v15 =>
                    (sk_copy w3 v14 x2 v15 (sj 0) x5).bind fun w16 =>
                    sk_D225 d 102 [some (.ref x0), some (.int x1), some (.int x2), some (.int x3), some (.int x4), some (.int x5), some (.int (sj 0))] [] w16
                  else
                    some (some (.int (sj (-12))), w3)
        else
          some (some (.int (sj (-11))), w3)
    else
      some (some (.int (sj (-2))), w3) := by
  have h : sk_c (d + 1) 225 [.ref x0, .int x1, .int x2, .int x3, .int x4, .int x5] w = sk_D225 d 0 [some (.ref x0), some (.int x1), some (.int x2), some (.int x3), some (.int x4), some (.int x5), none] [] w := rfl
  rw [h]
  exact sk_unf (sk_c d) sk_fields false sk_t225 [102] 2000 rfl
set_option maxRecDepth 100000 in
theorem sk_e225_102 (d : Nat) (x0 : Nat) (o1 : Option Value) (o2 : Option Value) (x3 : Int32) (x4 : Int32) (x5 : Int32) (x6 : Int32) (w : sk_W) : sk_D225 d 102 [some (.ref x0), o1, o2, some (.int x3), some (.int x4), some (.int x5), some (.int x6)] [] w =
  if sk_cond .ge x6 x5 = true then
    some (some (.int x6), w)
  else
    (sk_getr w x0 11 19).bind fun v1 =>
    (sk_ald w v1 x6).bind fun v2 =>
    if sk_isO w x0 11 = true then
    sk_ci (sk_c d 223 [.ref x0, .int x3, .int v2] w) fun v4 w3 =>
    if sk_cond .eq v4 (sj 0) = true then
      some (some (.int x6), w3)
    else
      (sk_getr w3 x0 11 18).bind fun v5 =>
      (sk_aldr w3 v5 x3).bind fun v6 =>
      (sk_getr w3 x0 11 19).bind fun v7 =>
      (sk_ald w3 v7 x6).bind fun v8 =>
      (sk_ast w3 v6 (x4 + x6) v8).bind fun w9 =>
      sk_D225 d 102 [some (.ref x0), o1, o2, some (.int x3), some (.int x4), some (.int x5), some (.int (x6 + (sj 1)))] [] w9 else none := sk_unf (sk_c d) sk_fields false sk_t225 [102] 2000 rfl
/-- SkylineNesterModel.laid(II)I -/
noncomputable abbrev sk_D226 (d : Nat) : sk_K := sk_den (sk_c d) sk_fields false sk_t226
set_option maxRecDepth 100000 in
theorem sk_e226 (d : Nat) (x0 : Nat) (x1 : Int32) (x2 : Int32) (w : sk_W) : sk_c (d + 1) 226 [.ref x0, .int x1, .int x2] w =
  sk_ci (sk_c d 220 [.int x1] w) fun v2 w1 =>
  if sk_cond .ne v2 (sj 0) = true then
    (sk_getr w1 x0 11 16).bind fun v3 =>
    (sk_ald w1 v3 x1).bind fun v4 =>
    if sk_cond .ge v4 (sj 0) = true then
      (sk_getr w1 x0 11 16).bind fun v5 =>
      (sk_ald w1 v5 x1).bind fun v6 =>
      sk_ci (sk_c d 144 [.int x2, .int (sj 0), .int (v6 - (sj 1))] w1) fun v8 w7 =>
      if sk_cond .eq v8 (sj 0) = true then
        some (some (.int (sj (-12))), w7)
      else
        (sk_getr w7 x0 11 18).bind fun v9 =>
        (sk_aldr w7 v9 x1).bind fun v10 =>
        (sk_ald w7 v10 x2).bind fun v11 =>
        some (some (.int v11), w7)
    else
      some (some (.int (sj (-11))), w1)
  else
    some (some (.int (sj (-2))), w1) := by
  have h : sk_c (d + 1) 226 [.ref x0, .int x1, .int x2] w = sk_D226 d 0 [some (.ref x0), some (.int x1), some (.int x2)] [] w := rfl
  rw [h]
  exact sk_unf (sk_c d) sk_fields false sk_t226 [] 2000 rfl
/-- SkylineNesterModel.image()I -/
noncomputable abbrev sk_D227 (d : Nat) : sk_K := sk_den (sk_c d) sk_fields false sk_t227
set_option maxRecDepth 100000 in
theorem sk_e227 (d : Nat) (x0 : Nat) (w : sk_W) : sk_c (d + 1) 227 [.ref x0] w =
  if sk_isO w x0 11 = true then
  sk_cv (sk_c d 146 [.ref x0, .int (sj 1)] w) fun w1 =>
  (sk_put w1 x0 11 2 (.int (sj 1))).bind fun w2 =>
  (sk_getr w2 x0 11 1).bind fun v3 =>
  (sk_ald w2 v3 (sj 1)).bind fun v4 =>
  some (some (.int v4), w2) else none := by
  have h : sk_c (d + 1) 227 [.ref x0] w = sk_D227 d 0 [some (.ref x0)] [] w := rfl
  rw [h]
  exact sk_unf (sk_c d) sk_fields false sk_t227 [] 2000 rfl
/-- SkylineNesterModel.back()I -/
noncomputable abbrev sk_D228 (d : Nat) : sk_K := sk_den (sk_c d) sk_fields false sk_t228
set_option maxRecDepth 100000 in
theorem sk_e228 (d : Nat) (x0 : Nat) (w : sk_W) : sk_c (d + 1) 228 [.ref x0] w =
  (sk_geti w x0 11 2).bind fun v1 =>
  if sk_cond .ne v1 (sj 0) = true then
    if sk_isO w x0 11 = true then
    sk_cv (sk_c d 147 [.ref x0, .int (sj 1)] w) fun w2 =>
    if sk_isO w2 x0 11 = true then
    sk_cv (sk_c d 221 [.ref x0] w2) fun w3 =>
    (sk_getr w3 x0 11 1).bind fun v4 =>
    (sk_ald w3 v4 (sj 1)).bind fun v5 =>
    some (some (.int v5), w3) else none else none
  else
    some (some (.int (sj (-3))), w) := by
  have h : sk_c (d + 1) 228 [.ref x0] w = sk_D228 d 0 [some (.ref x0)] [] w := rfl
  rw [h]
  exact sk_unf (sk_c d) sk_fields false sk_t228 [] 2000 rfl
/-- SkylineNesterModel.areAlike(II)Z -/
noncomputable abbrev sk_D229 (d : Nat) : sk_K := sk_den (sk_c d) sk_fields true sk_t229
set_option maxRecDepth 100000 in
theorem sk_e229 (d : Nat) (x0 : Nat) (x1 : Int32) (x2 : Int32) (w : sk_W) : sk_c (d + 1) 229 [.ref x0, .int x1, .int x2] w =
  (sk_getr w x0 11 1).bind fun v1 =>
  (sk_ald w v1 ((sj 7) + x1)).bind fun v2 =>
  (sk_getr w x0 11 1).bind fun v3 =>
  (sk_ald w v3 ((sj 7) + x2)).bind fun v4 =>
  if sk_cond .ne v2 v4 = true then
    some (some (.int (sj 0)), w)
  else
    (sk_getr w x0 11 1).bind fun v5 =>
    (sk_ald w v5 ((sj 17) + x1)).bind fun v6 =>
    (sk_getr w x0 11 1).bind fun v7 =>
    (sk_ald w v7 ((sj 17) + x2)).bind fun v8 =>
    if sk_cond .ne v6 v8 = true then
      some (some (.int (sj 0)), w)
    else
      (sk_getr w x0 11 1).bind fun v9 =>
      (sk_ald w v9 ((sj 27) + x1)).bind fun v10 =>
      (sk_getr w x0 11 1).bind fun v11 =>
      (sk_ald w v11 ((sj 27) + x2)).bind fun v12 =>
      if sk_cond .ne v10 v12 = true then
        some (some (.int (sj 0)), w)
      else
        (sk_getr w x0 11 1).bind fun v13 =>
        (sk_ald w v13 ((sj 37) + x1)).bind fun v14 =>
        (sk_getr w x0 11 1).bind fun v15 =>
        (sk_ald w v15 ((sj 37) + x2)).bind fun v16 =>
        if sk_cond .ne v14 v16 = true then
          some (some (.int (sj 0)), w)
        else
          some (some (.int (sj 1)), w) := by
  have h : sk_c (d + 1) 229 [.ref x0, .int x1, .int x2] w = sk_D229 d 0 [some (.ref x0), some (.int x1), some (.int x2)] [] w := rfl
  rw [h]
  exact sk_unf (sk_c d) sk_fields true sk_t229 [] 2000 rfl
/-- SkylineNesterModel.unlike()I -/
noncomputable abbrev sk_D230 (d : Nat) : sk_K := sk_den (sk_c d) sk_fields false sk_t230
set_option maxRecDepth 100000 in
theorem sk_e230 (d : Nat) (x0 : Nat) (w : sk_W) : sk_c (d + 1) 230 [.ref x0] w =
  sk_D230 d 4 [some (.ref x0), some (.int (sj 0)), some (.int (sj 0)), none] [] w := by
  have h : sk_c (d + 1) 230 [.ref x0] w = sk_D230 d 0 [some (.ref x0), none, none, none] [] w := rfl
  rw [h]
  exact sk_unf (sk_c d) sk_fields false sk_t230 [4, 16] 2000 rfl
set_option maxRecDepth 100000 in
theorem sk_e230_4 (d : Nat) (x0 : Nat) (x1 : Int32) (x2 : Int32) (o3 : Option Value) (w : sk_W) : sk_D230 d 4 [some (.ref x0), some (.int x1), some (.int x2), o3] [] w =
  (sk_getr w x0 11 1).bind fun v1 =>
  (sk_ald w v1 (sj 1)).bind fun v2 =>
  if sk_cond .ge x2 v2 = true then
    some (some (.int x1), w)
  else
    sk_D230 d 16 [some (.ref x0), some (.int x1), some (.int x2), some (.int (sj 0))] [] w := sk_unf (sk_c d) sk_fields false sk_t230 [4, 16] 2000 rfl
set_option maxRecDepth 100000 in
theorem sk_e230_16 (d : Nat) (x0 : Nat) (x1 : Int32) (x2 : Int32) (x3 : Int32) (w : sk_W) : sk_D230 d 16 [some (.ref x0), some (.int x1), some (.int x2), some (.int x3)] [] w =
  if sk_isO w x0 11 = true then
  sk_ci (sk_c d 229 [.ref x0, .int x2, .int x3] w) fun v2 w1 =>
  if sk_cond .ne v2 (sj 0) = true then
    if sk_cond .ne x3 x2 = true then
      sk_D230 d 4 [some (.ref x0), some (.int x1), some (.int (x2 + (sj 1))), some (.int x3)] [] w1
    else
      sk_D230 d 4 [some (.ref x0), some (.int (x1 + (sj 1))), some (.int (x2 + (sj 1))), some (.int x3)] [] w1
  else
    sk_D230 d 16 [some (.ref x0), some (.int x1), some (.int x2), some (.int (x3 + (sj 1)))] [] w1 else none := sk_unf (sk_c d) sk_fields false sk_t230 [4, 16] 2000 rfl
/-- SkylineNesterModel.orders()I -/
noncomputable abbrev sk_D231 (d : Nat) : sk_K := sk_den (sk_c d) sk_fields false sk_t231
set_option maxRecDepth 100000 in
theorem sk_e231 (d : Nat) (x0 : Nat) (w : sk_W) : sk_c (d + 1) 231 [.ref x0] w =
  sk_D231 d 4 [some (.ref x0), some (.int (sj 1)), some (.int (sj 0)), none, none] [] w := by
  have h : sk_c (d + 1) 231 [.ref x0] w = sk_D231 d 0 [some (.ref x0), none, none, none, none] [] w := rfl
  rw [h]
  exact sk_unf (sk_c d) sk_fields false sk_t231 [4, 19] 2000 rfl
set_option maxRecDepth 100000 in
theorem sk_e231_4 (d : Nat) (x0 : Nat) (x1 : Int32) (x2 : Int32) (o3 : Option Value) (o4 : Option Value) (w : sk_W) : sk_D231 d 4 [some (.ref x0), some (.int x1), some (.int x2), o3, o4] [] w =
  (sk_getr w x0 11 1).bind fun v1 =>
  (sk_ald w v1 (sj 2)).bind fun v2 =>
  if sk_cond .ge x2 v2 = true then
    some (some (.int x1), w)
  else
    sk_D231 d 19 [some (.ref x0), some (.int x1), some (.int x2), some (.int (sj 0)), some (.int (sj 0))] [] w := sk_unf (sk_c d) sk_fields false sk_t231 [4, 19] 2000 rfl
set_option maxRecDepth 100000 in
theorem sk_e231_19 (d : Nat) (x0 : Nat) (x1 : Int32) (x2 : Int32) (x3 : Int32) (x4 : Int32) (w : sk_W) : sk_D231 d 19 [some (.ref x0), some (.int x1), some (.int x2), some (.int x3), some (.int x4)] [] w =
  if sk_cond .gt x4 x2 = true then
    if x3 = 0 then none else
    sk_D231 d 4 [some (.ref x0), some (.int ((x1 * (x2 + (sj 1))) / x3)), some (.int (x2 + (sj 1))), some (.int x3), some (.int x4)] [] w
  else
    (sk_getr w x0 11 1).bind fun v1 =>
    (sk_ald w v1 ((sj 87) + x4)).bind fun v2 =>
    (sk_getr w x0 11 1).bind fun v3 =>
    (sk_ald w v3 ((sj 87) + x2)).bind fun v4 =>
    if sk_isO w x0 11 = true then
    sk_ci (sk_c d 229 [.ref x0, .int v2, .int v4] w) fun v6 w5 =>
    if sk_cond .eq v6 (sj 0) = true then
      sk_D231 d 19 [some (.ref x0), some (.int x1), some (.int x2), some (.int x3), some (.int (x4 + (sj 1)))] [] w5
    else
      sk_D231 d 19 [some (.ref x0), some (.int x1), some (.int x2), some (.int (x3 + (sj 1))), some (.int (x4 + (sj 1)))] [] w5 else none := sk_unf (sk_c d) sk_fields false sk_t231 [4, 19] 2000 rfl
/-- SkylineNesterModel.count(I)I -/
noncomputable abbrev sk_D232 (d : Nat) : sk_K := sk_den (sk_c d) sk_fields false sk_t232
set_option maxRecDepth 100000 in
theorem sk_e232 (d : Nat) (x0 : Nat) (x1 : Int32) (w : sk_W) : sk_c (d + 1) 232 [.ref x0, .int x1] w =
  if Int32.toInt x1 = 0 then
    (sk_getr w x0 11 1).bind fun v1 =>
    (sk_ald w v1 (sj 1)).bind fun v2 =>
    some (some (.int v2), w)
  else if Int32.toInt x1 = 1 then
    (sk_getr w x0 11 1).bind fun v3 =>
    (sk_ald w v3 (sj 2)).bind fun v4 =>
    some (some (.int v4), w)
  else if Int32.toInt x1 = 2 then
    sk_D232 d 66 [some (.ref x0), some (.int x1), some (.int (sj 0)), some (.int (sj 0))] [] w
  else if Int32.toInt x1 = 3 then
    if sk_isO w x0 11 = true then
    sk_ci (sk_c d 185 [.ref x0] w) fun v6 w5 =>
    some (some (.int v6), w5) else none
  else if Int32.toInt x1 = 4 then
    (sk_geti w x0 11 4).bind fun v7 =>
    some (some (.int v7), w)
  else if Int32.toInt x1 = 5 then
    (sk_getr w x0 11 1).bind fun v8 =>
    (sk_ald w v8 (sj 0)).bind fun v9 =>
    some (some (.int v9), w)
  else if Int32.toInt x1 = 6 then
    if sk_isO w x0 11 = true then
    sk_ci (sk_c d 230 [.ref x0] w) fun v11 w10 =>
    some (some (.int v11), w10) else none
  else if Int32.toInt x1 = 7 then
    if sk_isO w x0 11 = true then
    sk_ci (sk_c d 231 [.ref x0] w) fun v13 w12 =>
    some (some (.int v13), w12) else none
  else 
    some (some (.int (sj (-2))), w) := by
  have h : sk_c (d + 1) 232 [.ref x0, .int x1] w = sk_D232 d 0 [some (.ref x0), some (.int x1), none, none] [] w := rfl
  rw [h]
  exact sk_unf (sk_c d) sk_fields false sk_t232 [66] 2000 rfl
set_option maxRecDepth 100000 in
theorem sk_e232_66 (d : Nat) (x0 : Nat) (o1 : Option Value) (x2 : Int32) (x3 : Int32) (w : sk_W) : sk_D232 d 66 [some (.ref x0), o1, some (.int x2), some (.int x3)] [] w =
  (sk_getr w x0 11 1).bind fun v1 =>
  (sk_ald w v1 (sj 1)).bind fun v2 =>
  if sk_cond .ge x3 v2 = true then
    some (some (.int x2), w)
  else
    (sk_getr w x0 11 1).bind fun v3 =>
    (sk_ald w v3 ((sj 77) + x3)).bind fun v4 =>
    if sk_cond .eq v4 (sj 0) = true then
      sk_D232 d 66 [some (.ref x0), o1, some (.int x2), some (.int (x3 + (sj 1)))] [] w
    else
      sk_D232 d 66 [some (.ref x0), o1, some (.int (x2 + (sj 1))), some (.int (x3 + (sj 1)))] [] w := sk_unf (sk_c d) sk_fields false sk_t232 [66] 2000 rfl
/-- SkylineNesterModel.isSheet(I)Z -/
noncomputable abbrev sk_D233 (d : Nat) : sk_K := sk_den (sk_c d) sk_fields true sk_t233
set_option maxRecDepth 100000 in
theorem sk_e233 (d : Nat) (x0 : Int32) (w : sk_W) : sk_c (d + 1) 233 [.int x0] w =
  sk_ci (sk_c d 144 [.int x0, .int (sj 0), .int (sj 3)] w) fun v2 w1 =>
  if v2 = 0 ∨ v2 = 1 then some (some (.int v2), w1) else none := by
  have h : sk_c (d + 1) 233 [.int x0] w = sk_D233 d 0 [some (.int x0)] [] w := rfl
  rw [h]
  exact sk_unf (sk_c d) sk_fields true sk_t233 [] 2000 rfl
/-- SkylineNesterModel.sheet(III)I -/
noncomputable abbrev sk_D234 (d : Nat) : sk_K := sk_den (sk_c d) sk_fields false sk_t234
set_option maxRecDepth 100000 in
theorem sk_e234 (d : Nat) (x0 : Nat) (x1 : Int32) (x2 : Int32) (x3 : Int32) (w : sk_W) : sk_c (d + 1) 234 [.ref x0, .int x1, .int x2, .int x3] w =
  sk_ci (sk_c d 233 [.int x1] w) fun v2 w1 =>
  if sk_cond .eq v2 (sj 0) = true then
    some (some (.int (sj (-2))), w1)
  else
    sk_ci (sk_c d 144 [.int x2, .int (sj (-1)), .int (sj 1)] w1) fun v4 w3 =>
    if sk_cond .eq v4 (sj 0) = true then
      some (some (.int (sj (-2))), w3)
    else
      if sk_cond .eq x2 (sj (-1)) = true then
        if sk_cond .eq x2 (sj (-1)) = true then
          sk_D234 d 42 [some (.ref x0), some (.int x1), some (.int x2), some (.int x3), none] [] w3
        else
          if sk_cond .ge x3 (sj 0) = true then
            sk_D234 d 42 [some (.ref x0), some (.int x1), some (.int x2), some (.int x3), none] [] w3
          else
            some (some (.int (sj (-14))), w3)
      else
        if sk_cond .le x3 (sj 40) = true then
          if sk_cond .eq x2 (sj (-1)) = true then
            sk_D234 d 42 [some (.ref x0), some (.int x1), some (.int x2), some (.int x3), none] [] w3
          else
            if sk_cond .ge x3 (sj 0) = true then
              sk_D234 d 42 [some (.ref x0), some (.int x1), some (.int x2), some (.int x3), none] [] w3
            else
              some (some (.int (sj (-14))), w3)
        else
          some (some (.int (sj (-2))), w3) := by
  have h : sk_c (d + 1) 234 [.ref x0, .int x1, .int x2, .int x3] w = sk_D234 d 0 [some (.ref x0), some (.int x1), some (.int x2), some (.int x3), none] [] w := rfl
  rw [h]
  exact sk_unf (sk_c d) sk_fields false sk_t234 [42, 68] 2000 rfl
set_option maxRecDepth 100000 in
theorem sk_e234_42 (d : Nat) (x0 : Nat) (x1 : Int32) (x2 : Int32) (x3 : Int32) (w : sk_W) : sk_D234 d 42 [some (.ref x0), some (.int x1), some (.int x2), some (.int x3), none] [] w =
  (sk_getr w x0 11 20).bind fun v1 =>
  (sk_ast w v1 x1 x2).bind fun w2 =>
  (sk_getr w2 x0 11 21).bind fun v3 =>
  if sk_cond .ne x2 (sj (-1)) = true then
    (sk_ast w2 v3 x1 x3).bind fun w4 =>
    sk_D234 d 68 [some (.ref x0), some (.int x1), some (.int x2), some (.int x3), some (.int (sj 0))] [] w4
  else
    (sk_ast w2 v3 x1 (sj 0)).bind fun w5 =>
    sk_D234 d 68 [some (.ref x0), some (.int x1), some (.int x2), some (.int x3), some (.int (sj 0))] [] w5 := sk_unf (sk_c d) sk_fields false sk_t234 [42, 68] 2000 rfl
set_option maxRecDepth 100000 in
theorem sk_e234_68 (d : Nat) (x0 : Nat) (x1 : Int32) (o2 : Option Value) (o3 : Option Value) (x4 : Int32) (w : sk_W) : sk_D234 d 68 [some (.ref x0), some (.int x1), o2, o3, some (.int x4)] [] w =
  if sk_cond .ge x4 (sj 40) = true then
    some (some (.int (sj 1)), w)
  else
    (sk_getr w x0 11 22).bind fun v1 =>
    (sk_aldr w v1 x1).bind fun v2 =>
    (sk_ast w v2 x4 (sj 0)).bind fun w3 =>
    sk_D234 d 68 [some (.ref x0), some (.int x1), o2, o3, some (.int (x4 + (sj 1)))] [] w3 := sk_unf (sk_c d) sk_fields false sk_t234 [42, 68] 2000 rfl
/-- SkylineNesterModel.put(III)I -/
noncomputable abbrev sk_D235 (d : Nat) : sk_K := sk_den (sk_c d) sk_fields false sk_t235
set_option maxRecDepth 100000 in
theorem sk_e235 (d : Nat) (x0 : Nat) (x1 : Int32) (x2 : Int32) (x3 : Int32) (w : sk_W) : sk_c (d + 1) 235 [.ref x0, .int x1, .int x2, .int x3] w =
  sk_ci (sk_c d 233 [.int x1] w) fun v2 w1 =>
  if sk_cond .ne v2 (sj 0) = true then
    (sk_getr w1 x0 11 20).bind fun v3 =>
    (sk_ald w1 v3 x1).bind fun v4 =>
    if sk_cond .ge v4 (sj 0) = true then
      (sk_getr w1 x0 11 21).bind fun v5 =>
      (sk_ald w1 v5 x1).bind fun v6 =>
      sk_ci (sk_c d 144 [.int x2, .int (sj 0), .int (v6 - (sj 1))] w1) fun v8 w7 =>
      if sk_cond .ne v8 (sj 0) = true then
        (sk_getr w7 x0 11 22).bind fun v9 =>
        (sk_aldr w7 v9 x1).bind fun v10 =>
        (sk_getr w7 x0 11 20).bind fun v11 =>
        (sk_ald w7 v11 x1).bind fun v12 =>
        if sk_cond .ne v12 (sj 0) = true then
          (sk_ast w7 v10 x2 x3).bind fun w13 =>
          some (some (.int (sj 1)), w13)
        else
          (sk_ast w7 v10 x2 (x3).toInt16.toInt32).bind fun w14 =>
          some (some (.int (sj 1)), w14)
      else
        some (some (.int (sj (-12))), w7)
    else
      some (some (.int (sj (-11))), w1)
  else
    some (some (.int (sj (-2))), w1) := by
  have h : sk_c (d + 1) 235 [.ref x0, .int x1, .int x2, .int x3] w = sk_D235 d 0 [some (.ref x0), some (.int x1), some (.int x2), some (.int x3)] [] w := rfl
  rw [h]
  exact sk_unf (sk_c d) sk_fields false sk_t235 [] 2000 rfl
/-- SkylineNesterModel.copy(IIIII)I -/
noncomputable abbrev sk_D236 (d : Nat) : sk_K := sk_den (sk_c d) sk_fields false sk_t236
set_option maxRecDepth 100000 in
theorem sk_e236 (d : Nat) (x0 : Nat) (x1 : Int32) (x2 : Int32) (x3 : Int32) (x4 : Int32) (x5 : Int32) (w : sk_W) : sk_c (d + 1) 236 [.ref x0, .int x1, .int x2, .int x3, .int x4, .int x5] w =
  sk_ci (sk_c d 233 [.int x1] w) fun v2 w1 =>
  if sk_cond .eq v2 (sj 0) = true then
    some (some (.int (sj (-2))), w1)
  else
    sk_ci (sk_c d 233 [.int x3] w1) fun v4 w3 =>
    if sk_cond .ne v4 (sj 0) = true then
      (sk_getr w3 x0 11 20).bind fun v5 =>
      (sk_ald w3 v5 x1).bind fun v6 =>
      if sk_cond .lt v6 (sj 0) = true then
        some (some (.int (sj (-11))), w3)
      else
        (sk_getr w3 x0 11 20).bind fun v7 =>
        (sk_ald w3 v7 x3).bind fun v8 =>
        if sk_cond .ge v8 (sj 0) = true then
          (sk_getr w3 x0 11 20).bind fun v9 =>
          (sk_ald w3 v9 x1).bind fun v10 =>
          (sk_getr w3 x0 11 20).bind fun v11 =>
          (sk_ald w3 v11 x3).bind fun v12 =>
          if sk_cond .eq v10 v12 = true then
            if sk_cond .lt x5 (sj 0) = true then
              some (some (.int (sj (-12))), w3)
            else
              if sk_cond .lt x2 (sj 0) = true then
                some (some (.int (sj (-12))), w3)
              else
                if sk_cond .lt x4 (sj 0) = true then
                  some (some (.int (sj (-12))), w3)
                else
                  (sk_getr w3 x0 11 21).bind fun v13 =>
                  (sk_ald w3 v13 x1).bind fun v14 =>
                  if sk_cond .gt x2 (v14 - x5) = true then
                    some (some (.int (sj (-12))), w3)
                  else
                    (sk_getr w3 x0 11 21).bind fun v15 =>
                    (sk_ald w3 v15 x3).bind fun v16 =>
                    if sk_cond .le x4 (v16 - x5) = true then
                      (sk_getr w3 x0 11 22).bind fun v17 =>
                      (sk_aldr w3 v17 x1).bind fun v18 =>
                      (sk_getr w3 x0 11 23).bind fun v19 =>
                      (sk_copy w3 v18 x2 v19 (sj 0) x5).bind fun w20 =>
                      (sk_getr w20 x0 11 23).bind fun v21 =>
                      (sk_getr w20 x0 11 22).bind fun v22 =>
                      (sk_aldr w20 v22 x3).bind fun v23 =>
                      (sk_copy w20 v21 (sj 0) v23 x4 x5).bind fun w24 =>
                      some (some (.int x5), w24)
                    else
                      some (some (.int (sj (-12))), w3)
          else
            some (some (.int (sj (-13))), w3)
        else
          some (some (.int (sj (-11))), w3)
    else
      some (some (.int (sj (-2))), w3) := by
  have h : sk_c (d + 1) 236 [.ref x0, .int x1, .int x2, .int x3, .int x4, .int x5] w = sk_D236 d 0 [some (.ref x0), some (.int x1), some (.int x2), some (.int x3), some (.int x4), some (.int x5)] [] w := rfl
  rw [h]
  exact sk_unf (sk_c d) sk_fields false sk_t236 [] 2000 rfl
/-- java/lang/Float.isNaN(F)Z -/
noncomputable abbrev sk_D237 (d : Nat) : sk_K := sk_den (sk_c d) sk_fields true sk_t237
set_option maxRecDepth 100000 in
theorem sk_e237 (d : Nat) (x0 : UInt32) (w : sk_W) : sk_c (d + 1) 237 [.float x0] w =
  if sk_cond .eq (Op.cmpValue (FP.fcmp x0 x0) .l) (sj 0) = true then
    some (some (.int (sj 0)), w)
  else
    some (some (.int (sj 1)), w) := by
  have h : sk_c (d + 1) 237 [.float x0] w = sk_D237 d 0 [some (.float x0)] [] w := rfl
  rw [h]
  exact sk_unf (sk_c d) sk_fields true sk_t237 [] 2000 rfl
/-- java/lang/Float.floatToIntBits(F)I -/
noncomputable abbrev sk_D238 (d : Nat) : sk_K := sk_den (sk_c d) sk_fields false sk_t238
set_option maxRecDepth 100000 in
theorem sk_e238 (d : Nat) (x0 : UInt32) (w : sk_W) : sk_c (d + 1) 238 [.float x0] w =
  sk_ci (sk_c d 237 [.float x0] w) fun v2 w1 =>
  if sk_cond .ne v2 (sj 0) = true then
    some (some (.int (Int32.ofNat 2143289344)), w1)
  else
    some (some (.int (x0).toInt32), w1) := by
  have h : sk_c (d + 1) 238 [.float x0] w = sk_D238 d 0 [some (.float x0)] [] w := rfl
  rw [h]
  exact sk_unf (sk_c d) sk_fields false sk_t238 [] 2000 rfl
/-- java/lang/Math.max(II)I -/
noncomputable abbrev sk_D239 (d : Nat) : sk_K := sk_den (sk_c d) sk_fields false sk_t239
set_option maxRecDepth 100000 in
theorem sk_e239 (d : Nat) (x0 : Int32) (x1 : Int32) (w : sk_W) : sk_c (d + 1) 239 [.int x0, .int x1] w =
  if sk_cond .lt x0 x1 = true then
    some (some (.int x1), w)
  else
    some (some (.int x0), w) := by
  have h : sk_c (d + 1) 239 [.int x0, .int x1] w = sk_D239 d 0 [some (.int x0), some (.int x1)] [] w := rfl
  rw [h]
  exact sk_unf (sk_c d) sk_fields false sk_t239 [] 2000 rfl
/-- java/lang/Math.min(II)I -/
noncomputable abbrev sk_D240 (d : Nat) : sk_K := sk_den (sk_c d) sk_fields false sk_t240
set_option maxRecDepth 100000 in
theorem sk_e240 (d : Nat) (x0 : Int32) (x1 : Int32) (w : sk_W) : sk_c (d + 1) 240 [.int x0, .int x1] w =
  if sk_cond .gt x0 x1 = true then
    some (some (.int x1), w)
  else
    some (some (.int x0), w) := by
  have h : sk_c (d + 1) 240 [.int x0, .int x1] w = sk_D240 d 0 [some (.int x0), some (.int x1)] [] w := rfl
  rw [h]
  exact sk_unf (sk_c d) sk_fields false sk_t240 [] 2000 rfl
/-- java/util/Arrays.rangeCheck(III)V -/
noncomputable abbrev sk_D241 (d : Nat) : sk_K := sk_den (sk_c d) sk_fields false sk_t241
set_option maxRecDepth 100000 in
theorem sk_e241 (d : Nat) (x0 : Int32) (x1 : Int32) (x2 : Int32) (w : sk_W) : sk_c (d + 1) 241 [.int x0, .int x1, .int x2] w =
  if sk_cond .le x1 x2 = true then
    if sk_cond .ge x1 (sj 0) = true then
      if sk_cond .le x2 x0 = true then
        some (none, w)
      else
        none
    else
      none
  else
    none := by
  have h : sk_c (d + 1) 241 [.int x0, .int x1, .int x2] w = sk_D241 d 0 [some (.int x0), some (.int x1), some (.int x2)] [] w := rfl
  rw [h]
  exact sk_unf (sk_c d) sk_fields false sk_t241 [] 2000 rfl
/-- java/util/Arrays.fill([II)V -/
noncomputable abbrev sk_D242 (d : Nat) : sk_K := sk_den (sk_c d) sk_fields false sk_t242
set_option maxRecDepth 100000 in
theorem sk_e242 (d : Nat) (x0 : Nat) (x1 : Int32) (w : sk_W) : sk_c (d + 1) 242 [.ref x0, .int x1] w =
  (sk_len w x0).bind fun v1 =>
  sk_D242 d 5 [some (.ref x0), some (.int x1), some (.int (sj 0)), some (.int v1)] [] w := by
  have h : sk_c (d + 1) 242 [.ref x0, .int x1] w = sk_D242 d 0 [some (.ref x0), some (.int x1), none, none] [] w := rfl
  rw [h]
  exact sk_unf (sk_c d) sk_fields false sk_t242 [5] 2000 rfl
set_option maxRecDepth 100000 in
theorem sk_e242_5 (d : Nat) (x0 : Nat) (x1 : Int32) (x2 : Int32) (x3 : Int32) (w : sk_W) : sk_D242 d 5 [some (.ref x0), some (.int x1), some (.int x2), some (.int x3)] [] w =
  if sk_cond .ge x2 x3 = true then
    some (none, w)
  else
    (sk_ast w x0 x2 x1).bind fun w1 =>
    sk_D242 d 5 [some (.ref x0), some (.int x1), some (.int (x2 + (sj 1))), some (.int x3)] [] w1 := sk_unf (sk_c d) sk_fields false sk_t242 [5] 2000 rfl
/-- java/util/Arrays.fill([IIII)V -/
noncomputable abbrev sk_D243 (d : Nat) : sk_K := sk_den (sk_c d) sk_fields false sk_t243
set_option maxRecDepth 100000 in
theorem sk_e243 (d : Nat) (x0 : Nat) (x1 : Int32) (x2 : Int32) (x3 : Int32) (w : sk_W) : sk_c (d + 1) 243 [.ref x0, .int x1, .int x2, .int x3] w =
  (sk_len w x0).bind fun v1 =>
  sk_cv (sk_c d 241 [.int v1, .int x1, .int x2] w) fun w2 =>
  sk_D243 d 10 [some (.ref x0), some (.int x1), some (.int x2), some (.int x3), some (.int x1)] [] w2 := by
  have h : sk_c (d + 1) 243 [.ref x0, .int x1, .int x2, .int x3] w = sk_D243 d 0 [some (.ref x0), some (.int x1), some (.int x2), some (.int x3), none] [] w := rfl
  rw [h]
  exact sk_unf (sk_c d) sk_fields false sk_t243 [10] 2000 rfl
set_option maxRecDepth 100000 in
theorem sk_e243_10 (d : Nat) (x0 : Nat) (o1 : Option Value) (x2 : Int32) (x3 : Int32) (x4 : Int32) (w : sk_W) : sk_D243 d 10 [some (.ref x0), o1, some (.int x2), some (.int x3), some (.int x4)] [] w =
  if sk_cond .ge x4 x2 = true then
    some (none, w)
  else
    (sk_ast w x0 x4 x3).bind fun w1 =>
    sk_D243 d 10 [some (.ref x0), o1, some (.int x2), some (.int x3), some (.int (x4 + (sj 1)))] [] w1 := sk_unf (sk_c d) sk_fields false sk_t243 [10] 2000 rfl
/-- SkylineNesterLaw.law([I)Z -/
noncomputable abbrev sk_D244 (d : Nat) : sk_K := sk_den (sk_c d) sk_fields true sk_t244
set_option maxRecDepth 100000 in
theorem sk_e244 (d : Nat) (x0 : Nat) (w : sk_W) : sk_D244 d 0 [some (.ref x0), none, none, none] [] w =
  if sk_isO (w ++ [.inr (.inr (10, sk_fields 10))]) (List.length w) 10 = true then
  sk_cv (sk_c d 101 [.ref (List.length w)] (w ++ [.inr (.inr (10, sk_fields 10))])) fun w1 =>
  if sk_isO (w1 ++ [.inr (.inr (11, sk_fields 11))]) (List.length w1) 11 = true then
  sk_cv (sk_c d 145 [.ref (List.length w1)] (w1 ++ [.inr (.inr (11, sk_fields 11))])) fun w2 =>
  sk_D244 d 18 [some (.ref x0), some (.ref (List.length w)), some (.ref (List.length w1)), some (.int (sj 0))] [] w2 else none else none := sk_unf (sk_c d) sk_fields true sk_t244 [18] 2000 rfl
set_option maxRecDepth 100000 in
theorem sk_e244_18 (d : Nat) (x0 : Nat) (x1 : Nat) (x2 : Nat) (x3 : Int32) (w : sk_W) : sk_D244 d 18 [some (.ref x0), some (.ref x1), some (.ref x2), some (.int x3)] [] w =
  (sk_len w x0).bind fun v1 =>
  if sk_cond .gt x3 (v1 - (sj 7)) = true then
    some (some (.int (sj 1)), w)
  else
    (sk_ald w x0 x3).bind fun v2 =>
    if Int32.toInt (v2 &&& (sj 31)) = 0 then
      (sk_ald w x0 (x3 + (sj 1))).bind fun v3 =>
      (sk_ald w x0 (x3 + (sj 2))).bind fun v4 =>
      (sk_ald w x0 (x3 + (sj 3))).bind fun v5 =>
      (sk_ald w x0 (x3 + (sj 4))).bind fun v6 =>
      (sk_ald w x0 (x3 + (sj 5))).bind fun v7 =>
      (sk_ald w x0 (x3 + (sj 6))).bind fun v8 =>
      if sk_isO w x1 10 = true then
      sk_ci (sk_c d 102 [.ref x1, .int v3, .int v4, .int v5, .int v6, .int v7, .int v8] w) fun v10 w9 =>
      (sk_ald w9 x0 (x3 + (sj 1))).bind fun v11 =>
      (sk_ald w9 x0 (x3 + (sj 2))).bind fun v12 =>
      (sk_ald w9 x0 (x3 + (sj 3))).bind fun v13 =>
      (sk_ald w9 x0 (x3 + (sj 4))).bind fun v14 =>
      (sk_ald w9 x0 (x3 + (sj 5))).bind fun v15 =>
      (sk_ald w9 x0 (x3 + (sj 6))).bind fun v16 =>
      if sk_isO w9 x2 11 = true then
      sk_ci (sk_c d 158 [.ref x2, .int v11, .int v12, .int v13, .int v14, .int v15, .int v16] w9) fun v18 w17 =>
      if sk_cond .eq v10 v18 = true then
        sk_D244 d 18 [some (.ref x0), some (.ref x1), some (.ref x2), some (.int (x3 + (sj 7)))] [] w17
      else
        some (some (.int (sj 0)), w17) else none else none
    else if Int32.toInt (v2 &&& (sj 31)) = 1 then
      (sk_ald w x0 (x3 + (sj 1))).bind fun v19 =>
      if sk_isO w x1 10 = true then
      sk_ci (sk_c d 103 [.ref x1, .int v19] w) fun v21 w20 =>
      (sk_ald w20 x0 (x3 + (sj 1))).bind fun v22 =>
      if sk_isO w20 x2 11 = true then
      sk_ci (sk_c d 159 [.ref x2, .int v22] w20) fun v24 w23 =>
      if sk_cond .eq v21 v24 = true then
        sk_D244 d 18 [some (.ref x0), some (.ref x1), some (.ref x2), some (.int (x3 + (sj 7)))] [] w23
      else
        some (some (.int (sj 0)), w23) else none else none
    else if Int32.toInt (v2 &&& (sj 31)) = 2 then
      if sk_isO w x1 10 = true then
      sk_ci (sk_c d 104 [.ref x1] w) fun v26 w25 =>
      if sk_isO w25 x2 11 = true then
      sk_ci (sk_c d 164 [.ref x2] w25) fun v28 w27 =>
      if sk_cond .eq v26 v28 = true then
        sk_D244 d 18 [some (.ref x0), some (.ref x1), some (.ref x2), some (.int (x3 + (sj 7)))] [] w27
      else
        some (some (.int (sj 0)), w27) else none else none
    else if Int32.toInt (v2 &&& (sj 31)) = 3 then
      (sk_ald w x0 (x3 + (sj 1))).bind fun v29 =>
      (sk_ald w x0 (x3 + (sj 2))).bind fun v30 =>
      if sk_isO w x1 10 = true then
      sk_ci (sk_c d 105 [.ref x1, .int v29, .int v30] w) fun v32 w31 =>
      (sk_ald w31 x0 (x3 + (sj 1))).bind fun v33 =>
      (sk_ald w31 x0 (x3 + (sj 2))).bind fun v34 =>
      if sk_isO w31 x2 11 = true then
      sk_ci (sk_c d 165 [.ref x2, .int v33, .int v34] w31) fun v36 w35 =>
      if sk_cond .eq v32 v36 = true then
        sk_D244 d 18 [some (.ref x0), some (.ref x1), some (.ref x2), some (.int (x3 + (sj 7)))] [] w35
      else
        some (some (.int (sj 0)), w35) else none else none
    else if Int32.toInt (v2 &&& (sj 31)) = 4 then
      (sk_ald w x0 (x3 + (sj 1))).bind fun v37 =>
      (sk_ald w x0 (x3 + (sj 2))).bind fun v38 =>
      if sk_isO w x1 10 = true then
      sk_ci (sk_c d 106 [.ref x1, .int v37, .int v38] w) fun v40 w39 =>
      (sk_ald w39 x0 (x3 + (sj 1))).bind fun v41 =>
      (sk_ald w39 x0 (x3 + (sj 2))).bind fun v42 =>
      if sk_isO w39 x2 11 = true then
      sk_ci (sk_c d 166 [.ref x2, .int v41, .int v42] w39) fun v44 w43 =>
      if sk_cond .eq v40 v44 = true then
        sk_D244 d 18 [some (.ref x0), some (.ref x1), some (.ref x2), some (.int (x3 + (sj 7)))] [] w43
      else
        some (some (.int (sj 0)), w43) else none else none
    else if Int32.toInt (v2 &&& (sj 31)) = 5 then
      (sk_ald w x0 (x3 + (sj 1))).bind fun v45 =>
      (sk_ald w x0 (x3 + (sj 2))).bind fun v46 =>
      (sk_ald w x0 (x3 + (sj 3))).bind fun v47 =>
      if sk_isO w x1 10 = true then
      sk_ci (sk_c d 107 [.ref x1, .int v45, .int v46, .int v47] w) fun v49 w48 =>
      (sk_ald w48 x0 (x3 + (sj 1))).bind fun v50 =>
      (sk_ald w48 x0 (x3 + (sj 2))).bind fun v51 =>
      (sk_ald w48 x0 (x3 + (sj 3))).bind fun v52 =>
      if sk_isO w48 x2 11 = true then
      sk_ci (sk_c d 169 [.ref x2, .int v50, .int v51, .int v52] w48) fun v54 w53 =>
      if sk_cond .eq v49 v54 = true then
        sk_D244 d 18 [some (.ref x0), some (.ref x1), some (.ref x2), some (.int (x3 + (sj 7)))] [] w53
      else
        some (some (.int (sj 0)), w53) else none else none
    else if Int32.toInt (v2 &&& (sj 31)) = 6 then
      (sk_ald w x0 (x3 + (sj 1))).bind fun v55 =>
      if sk_isO w x1 10 = true then
      sk_ci (sk_c d 108 [.ref x1, .int v55] w) fun v57 w56 =>
      (sk_ald w56 x0 (x3 + (sj 1))).bind fun v58 =>
      if sk_isO w56 x2 11 = true then
      sk_ci (sk_c d 170 [.ref x2, .int v58] w56) fun v60 w59 =>
      if sk_cond .eq v57 v60 = true then
        sk_D244 d 18 [some (.ref x0), some (.ref x1), some (.ref x2), some (.int (x3 + (sj 7)))] [] w59
      else
        some (some (.int (sj 0)), w59) else none else none
    else if Int32.toInt (v2 &&& (sj 31)) = 7 then
      (sk_ald w x0 (x3 + (sj 1))).bind fun v61 =>
      (sk_ald w x0 (x3 + (sj 2))).bind fun v62 =>
      if sk_isO w x1 10 = true then
      sk_ci (sk_c d 109 [.ref x1, .int v61, .int v62] w) fun v64 w63 =>
      (sk_ald w63 x0 (x3 + (sj 1))).bind fun v65 =>
      (sk_ald w63 x0 (x3 + (sj 2))).bind fun v66 =>
      if sk_isO w63 x2 11 = true then
      sk_ci (sk_c d 172 [.ref x2, .int v65, .int v66] w63) fun v68 w67 =>
      if sk_cond .eq v64 v68 = true then
        sk_D244 d 18 [some (.ref x0), some (.ref x1), some (.ref x2), some (.int (x3 + (sj 7)))] [] w67
      else
        some (some (.int (sj 0)), w67) else none else none
    else if Int32.toInt (v2 &&& (sj 31)) = 8 then
      (sk_ald w x0 (x3 + (sj 1))).bind fun v69 =>
      (sk_ald w x0 (x3 + (sj 2))).bind fun v70 =>
      if sk_isO w x1 10 = true then
      sk_ci (sk_c d 110 [.ref x1, .int v69, .int v70] w) fun v72 w71 =>
      (sk_ald w71 x0 (x3 + (sj 1))).bind fun v73 =>
      (sk_ald w71 x0 (x3 + (sj 2))).bind fun v74 =>
      if sk_isO w71 x2 11 = true then
      sk_ci (sk_c d 173 [.ref x2, .int v73, .int v74] w71) fun v76 w75 =>
      if sk_cond .eq v72 v76 = true then
        sk_D244 d 18 [some (.ref x0), some (.ref x1), some (.ref x2), some (.int (x3 + (sj 7)))] [] w75
      else
        some (some (.int (sj 0)), w75) else none else none
    else if Int32.toInt (v2 &&& (sj 31)) = 9 then
      (sk_ald w x0 (x3 + (sj 1))).bind fun v77 =>
      (sk_ald w x0 (x3 + (sj 2))).bind fun v78 =>
      if sk_isO w x1 10 = true then
      sk_ci (sk_c d 111 [.ref x1, .int v77, .int v78] w) fun v80 w79 =>
      (sk_ald w79 x0 (x3 + (sj 1))).bind fun v81 =>
      (sk_ald w79 x0 (x3 + (sj 2))).bind fun v82 =>
      if sk_isO w79 x2 11 = true then
      sk_ci (sk_c d 186 [.ref x2, .int v81, .int v82] w79) fun v84 w83 =>
      if sk_cond .eq v80 v84 = true then
        sk_D244 d 18 [some (.ref x0), some (.ref x1), some (.ref x2), some (.int (x3 + (sj 7)))] [] w83
      else
        some (some (.int (sj 0)), w83) else none else none
    else if Int32.toInt (v2 &&& (sj 31)) = 10 then
      (sk_ald w x0 (x3 + (sj 1))).bind fun v85 =>
      if sk_isO w x1 10 = true then
      sk_ci (sk_c d 112 [.ref x1, .int v85] w) fun v87 w86 =>
      (sk_ald w86 x0 (x3 + (sj 1))).bind fun v88 =>
      if sk_isO w86 x2 11 = true then
      sk_ci (sk_c d 187 [.ref x2, .int v88] w86) fun v90 w89 =>
      if sk_cond .eq v87 v90 = true then
        sk_D244 d 18 [some (.ref x0), some (.ref x1), some (.ref x2), some (.int (x3 + (sj 7)))] [] w89
      else
        some (some (.int (sj 0)), w89) else none else none
    else if Int32.toInt (v2 &&& (sj 31)) = 11 then
      if sk_isO w x1 10 = true then
      sk_ci (sk_c d 113 [.ref x1] w) fun v92 w91 =>
      if sk_isO w91 x2 11 = true then
      sk_ci (sk_c d 188 [.ref x2] w91) fun v94 w93 =>
      if sk_cond .eq v92 v94 = true then
        sk_D244 d 18 [some (.ref x0), some (.ref x1), some (.ref x2), some (.int (x3 + (sj 7)))] [] w93
      else
        some (some (.int (sj 0)), w93) else none else none
    else if Int32.toInt (v2 &&& (sj 31)) = 12 then
      (sk_ald w x0 (x3 + (sj 1))).bind fun v95 =>
      (sk_ald w x0 (x3 + (sj 2))).bind fun v96 =>
      if sk_isO w x1 10 = true then
      sk_ci (sk_c d 114 [.ref x1, .int v95, .int v96] w) fun v98 w97 =>
      (sk_ald w97 x0 (x3 + (sj 1))).bind fun v99 =>
      (sk_ald w97 x0 (x3 + (sj 2))).bind fun v100 =>
      if sk_isO w97 x2 11 = true then
      sk_ci (sk_c d 189 [.ref x2, .int v99, .int v100] w97) fun v102 w101 =>
      if sk_cond .eq v98 v102 = true then
        sk_D244 d 18 [some (.ref x0), some (.ref x1), some (.ref x2), some (.int (x3 + (sj 7)))] [] w101
      else
        some (some (.int (sj 0)), w101) else none else none
    else if Int32.toInt (v2 &&& (sj 31)) = 13 then
      (sk_ald w x0 (x3 + (sj 1))).bind fun v103 =>
      (sk_ald w x0 (x3 + (sj 2))).bind fun v104 =>
      if sk_isO w x1 10 = true then
      sk_ci (sk_c d 115 [.ref x1, .int v103, .int v104] w) fun v106 w105 =>
      (sk_ald w105 x0 (x3 + (sj 1))).bind fun v107 =>
      (sk_ald w105 x0 (x3 + (sj 2))).bind fun v108 =>
      if sk_isO w105 x2 11 = true then
      sk_ci (sk_c d 190 [.ref x2, .int v107, .int v108] w105) fun v110 w109 =>
      if sk_cond .eq v106 v110 = true then
        sk_D244 d 18 [some (.ref x0), some (.ref x1), some (.ref x2), some (.int (x3 + (sj 7)))] [] w109
      else
        some (some (.int (sj 0)), w109) else none else none
    else if Int32.toInt (v2 &&& (sj 31)) = 14 then
      (sk_ald w x0 (x3 + (sj 1))).bind fun v111 =>
      if sk_isO w x1 10 = true then
      sk_ci (sk_c d 116 [.ref x1, .int v111] w) fun v113 w112 =>
      (sk_ald w112 x0 (x3 + (sj 1))).bind fun v114 =>
      if sk_isO w112 x2 11 = true then
      sk_ci (sk_c d 196 [.ref x2, .int v114] w112) fun v116 w115 =>
      if sk_cond .eq v113 v116 = true then
        sk_D244 d 18 [some (.ref x0), some (.ref x1), some (.ref x2), some (.int (x3 + (sj 7)))] [] w115
      else
        some (some (.int (sj 0)), w115) else none else none
    else if Int32.toInt (v2 &&& (sj 31)) = 15 then
      (sk_ald w x0 (x3 + (sj 1))).bind fun v117 =>
      if sk_isO w x1 10 = true then
      sk_ci (sk_c d 117 [.ref x1, .int v117] w) fun v119 w118 =>
      (sk_ald w118 x0 (x3 + (sj 1))).bind fun v120 =>
      if sk_isO w118 x2 11 = true then
      sk_ci (sk_c d 200 [.ref x2, .int v120] w118) fun v122 w121 =>
      if sk_cond .eq v119 v122 = true then
        sk_D244 d 18 [some (.ref x0), some (.ref x1), some (.ref x2), some (.int (x3 + (sj 7)))] [] w121
      else
        some (some (.int (sj 0)), w121) else none else none
    else if Int32.toInt (v2 &&& (sj 31)) = 16 then
      (sk_ald w x0 (x3 + (sj 1))).bind fun v123 =>
      if sk_isO w x1 10 = true then
      sk_ci (sk_c d 118 [.ref x1, .int v123] w) fun v125 w124 =>
      (sk_ald w124 x0 (x3 + (sj 1))).bind fun v126 =>
      if sk_isO w124 x2 11 = true then
      sk_ci (sk_c d 203 [.ref x2, .int v126] w124) fun v128 w127 =>
      if sk_cond .eq v125 v128 = true then
        sk_D244 d 18 [some (.ref x0), some (.ref x1), some (.ref x2), some (.int (x3 + (sj 7)))] [] w127
      else
        some (some (.int (sj 0)), w127) else none else none
    else if Int32.toInt (v2 &&& (sj 31)) = 17 then
      if sk_isO w x1 10 = true then
      sk_ci (sk_c d 119 [.ref x1] w) fun v130 w129 =>
      if sk_isO w129 x2 11 = true then
      sk_ci (sk_c d 211 [.ref x2] w129) fun v132 w131 =>
      if sk_cond .eq v130 v132 = true then
        sk_D244 d 18 [some (.ref x0), some (.ref x1), some (.ref x2), some (.int (x3 + (sj 7)))] [] w131
      else
        some (some (.int (sj 0)), w131) else none else none
    else if Int32.toInt (v2 &&& (sj 31)) = 18 then
      (sk_ald w x0 (x3 + (sj 1))).bind fun v133 =>
      if sk_isO w x1 10 = true then
      sk_ci (sk_c d 120 [.ref x1, .int v133] w) fun v135 w134 =>
      (sk_ald w134 x0 (x3 + (sj 1))).bind fun v136 =>
      if sk_isO w134 x2 11 = true then
      sk_ci (sk_c d 213 [.ref x2, .int v136] w134) fun v138 w137 =>
      if sk_cond .eq v135 v138 = true then
        sk_D244 d 18 [some (.ref x0), some (.ref x1), some (.ref x2), some (.int (x3 + (sj 7)))] [] w137
      else
        some (some (.int (sj 0)), w137) else none else none
    else if Int32.toInt (v2 &&& (sj 31)) = 19 then
      (sk_ald w x0 (x3 + (sj 1))).bind fun v139 =>
      (sk_ald w x0 (x3 + (sj 2))).bind fun v140 =>
      if sk_isO w x1 10 = true then
      sk_ci (sk_c d 121 [.ref x1, .int v139, .int v140] w) fun v142 w141 =>
      (sk_ald w141 x0 (x3 + (sj 1))).bind fun v143 =>
      (sk_ald w141 x0 (x3 + (sj 2))).bind fun v144 =>
      if sk_isO w141 x2 11 = true then
      sk_ci (sk_c d 215 [.ref x2, .int v143, .int v144] w141) fun v146 w145 =>
      if sk_cond .eq v142 v146 = true then
        sk_D244 d 18 [some (.ref x0), some (.ref x1), some (.ref x2), some (.int (x3 + (sj 7)))] [] w145
      else
        some (some (.int (sj 0)), w145) else none else none
    else if Int32.toInt (v2 &&& (sj 31)) = 20 then
      (sk_ald w x0 (x3 + (sj 1))).bind fun v147 =>
      (sk_ald w x0 (x3 + (sj 2))).bind fun v148 =>
      (sk_ald w x0 (x3 + (sj 3))).bind fun v149 =>
      (sk_ald w x0 (x3 + (sj 4))).bind fun v150 =>
      if sk_isO w x1 10 = true then
      sk_ci (sk_c d 122 [.ref x1, .int v147, .int v148, .int v149, .int v150] w) fun v152 w151 =>
      (sk_ald w151 x0 (x3 + (sj 1))).bind fun v153 =>
      (sk_ald w151 x0 (x3 + (sj 2))).bind fun v154 =>
      (sk_ald w151 x0 (x3 + (sj 3))).bind fun v155 =>
      (sk_ald w151 x0 (x3 + (sj 4))).bind fun v156 =>
      if sk_isO w151 x2 11 = true then
      sk_ci (sk_c d 216 [.ref x2, .int v153, .int v154, .int v155, .int v156] w151) fun v158 w157 =>
      if sk_cond .eq v152 v158 = true then
        sk_D244 d 18 [some (.ref x0), some (.ref x1), some (.ref x2), some (.int (x3 + (sj 7)))] [] w157
      else
        some (some (.int (sj 0)), w157) else none else none
    else if Int32.toInt (v2 &&& (sj 31)) = 21 then
      (sk_ald w x0 (x3 + (sj 1))).bind fun v159 =>
      (sk_ald w x0 (x3 + (sj 2))).bind fun v160 =>
      if sk_isO w x1 10 = true then
      sk_ci (sk_c d 123 [.ref x1, .int v159, .int v160] w) fun v162 w161 =>
      (sk_ald w161 x0 (x3 + (sj 1))).bind fun v163 =>
      (sk_ald w161 x0 (x3 + (sj 2))).bind fun v164 =>
      if sk_isO w161 x2 11 = true then
      sk_ci (sk_c d 219 [.ref x2, .int v163, .int v164] w161) fun v166 w165 =>
      if sk_cond .eq v162 v166 = true then
        sk_D244 d 18 [some (.ref x0), some (.ref x1), some (.ref x2), some (.int (x3 + (sj 7)))] [] w165
      else
        some (some (.int (sj 0)), w165) else none else none
    else if Int32.toInt (v2 &&& (sj 31)) = 22 then
      (sk_ald w x0 (x3 + (sj 1))).bind fun v167 =>
      (sk_ald w x0 (x3 + (sj 2))).bind fun v168 =>
      (sk_ald w x0 (x3 + (sj 3))).bind fun v169 =>
      if sk_isO w x1 10 = true then
      sk_ci (sk_c d 124 [.ref x1, .int v167, .int v168, .int v169] w) fun v171 w170 =>
      (sk_ald w170 x0 (x3 + (sj 1))).bind fun v172 =>
      (sk_ald w170 x0 (x3 + (sj 2))).bind fun v173 =>
      (sk_ald w170 x0 (x3 + (sj 3))).bind fun v174 =>
      if sk_isO w170 x2 11 = true then
      sk_ci (sk_c d 222 [.ref x2, .int v172, .int v173, .int v174] w170) fun v176 w175 =>
      if sk_cond .eq v171 v176 = true then
        sk_D244 d 18 [some (.ref x0), some (.ref x1), some (.ref x2), some (.int (x3 + (sj 7)))] [] w175
      else
        some (some (.int (sj 0)), w175) else none else none
    else if Int32.toInt (v2 &&& (sj 31)) = 23 then
      (sk_ald w x0 (x3 + (sj 1))).bind fun v177 =>
      (sk_ald w x0 (x3 + (sj 2))).bind fun v178 =>
      (sk_ald w x0 (x3 + (sj 3))).bind fun v179 =>
      if sk_isO w x1 10 = true then
      sk_ci (sk_c d 125 [.ref x1, .int v177, .int v178, .int v179] w) fun v181 w180 =>
      (sk_ald w180 x0 (x3 + (sj 1))).bind fun v182 =>
      (sk_ald w180 x0 (x3 + (sj 2))).bind fun v183 =>
      (sk_ald w180 x0 (x3 + (sj 3))).bind fun v184 =>
      if sk_isO w180 x2 11 = true then
      sk_ci (sk_c d 224 [.ref x2, .int v182, .int v183, .int v184] w180) fun v186 w185 =>
      if sk_cond .eq v181 v186 = true then
        sk_D244 d 18 [some (.ref x0), some (.ref x1), some (.ref x2), some (.int (x3 + (sj 7)))] [] w185
      else
        some (some (.int (sj 0)), w185) else none else none
    else if Int32.toInt (v2 &&& (sj 31)) = 24 then
      (sk_ald w x0 (x3 + (sj 1))).bind fun v187 =>
      (sk_ald w x0 (x3 + (sj 2))).bind fun v188 =>
      (sk_ald w x0 (x3 + (sj 3))).bind fun v189 =>
      (sk_ald w x0 (x3 + (sj 4))).bind fun v190 =>
      (sk_ald w x0 (x3 + (sj 5))).bind fun v191 =>
      if sk_isO w x1 10 = true then
      sk_ci (sk_c d 126 [.ref x1, .int v187, .int v188, .int v189, .int v190, .int v191] w) fun v193 w192 =>
      (sk_ald w192 x0 (x3 + (sj 1))).bind fun v194 =>
      (sk_ald w192 x0 (x3 + (sj 2))).bind fun v195 =>
      (sk_ald w192 x0 (x3 + (sj 3))).bind fun v196 =>
      (sk_ald w192 x0 (x3 + (sj 4))).bind fun v197 =>
      (sk_ald w192 x0 (x3 + (sj 5))).bind fun v198 =>
      if sk_isO w192 x2 11 = true then
      sk_ci (sk_c d 225 [.ref x2, .int v194, .int v195, .int v196, .int v197, .int v198] w192) fun v200 w199 =>
      if sk_cond .eq v193 v200 = true then
        sk_D244 d 18 [some (.ref x0), some (.ref x1), some (.ref x2), some (.int (x3 + (sj 7)))] [] w199
      else
        some (some (.int (sj 0)), w199) else none else none
    else if Int32.toInt (v2 &&& (sj 31)) = 25 then
      (sk_ald w x0 (x3 + (sj 1))).bind fun v201 =>
      (sk_ald w x0 (x3 + (sj 2))).bind fun v202 =>
      if sk_isO w x1 10 = true then
      sk_ci (sk_c d 127 [.ref x1, .int v201, .int v202] w) fun v204 w203 =>
      (sk_ald w203 x0 (x3 + (sj 1))).bind fun v205 =>
      (sk_ald w203 x0 (x3 + (sj 2))).bind fun v206 =>
      if sk_isO w203 x2 11 = true then
      sk_ci (sk_c d 226 [.ref x2, .int v205, .int v206] w203) fun v208 w207 =>
      if sk_cond .eq v204 v208 = true then
        sk_D244 d 18 [some (.ref x0), some (.ref x1), some (.ref x2), some (.int (x3 + (sj 7)))] [] w207
      else
        some (some (.int (sj 0)), w207) else none else none
    else if Int32.toInt (v2 &&& (sj 31)) = 26 then
      if sk_isO w x1 10 = true then
      sk_ci (sk_c d 128 [.ref x1] w) fun v210 w209 =>
      if sk_isO w209 x2 11 = true then
      sk_ci (sk_c d 227 [.ref x2] w209) fun v212 w211 =>
      if sk_cond .eq v210 v212 = true then
        sk_D244 d 18 [some (.ref x0), some (.ref x1), some (.ref x2), some (.int (x3 + (sj 7)))] [] w211
      else
        some (some (.int (sj 0)), w211) else none else none
    else if Int32.toInt (v2 &&& (sj 31)) = 27 then
      if sk_isO w x1 10 = true then
      sk_ci (sk_c d 129 [.ref x1] w) fun v214 w213 =>
      if sk_isO w213 x2 11 = true then
      sk_ci (sk_c d 228 [.ref x2] w213) fun v216 w215 =>
      if sk_cond .eq v214 v216 = true then
        sk_D244 d 18 [some (.ref x0), some (.ref x1), some (.ref x2), some (.int (x3 + (sj 7)))] [] w215
      else
        some (some (.int (sj 0)), w215) else none else none
    else if Int32.toInt (v2 &&& (sj 31)) = 28 then
      (sk_ald w x0 (x3 + (sj 1))).bind fun v217 =>
      if sk_isO w x1 10 = true then
      sk_ci (sk_c d 130 [.ref x1, .int v217] w) fun v219 w218 =>
      (sk_ald w218 x0 (x3 + (sj 1))).bind fun v220 =>
      if sk_isO w218 x2 11 = true then
      sk_ci (sk_c d 232 [.ref x2, .int v220] w218) fun v222 w221 =>
      if sk_cond .eq v219 v222 = true then
        sk_D244 d 18 [some (.ref x0), some (.ref x1), some (.ref x2), some (.int (x3 + (sj 7)))] [] w221
      else
        some (some (.int (sj 0)), w221) else none else none
    else if Int32.toInt (v2 &&& (sj 31)) = 29 then
      (sk_ald w x0 (x3 + (sj 1))).bind fun v223 =>
      (sk_ald w x0 (x3 + (sj 2))).bind fun v224 =>
      (sk_ald w x0 (x3 + (sj 3))).bind fun v225 =>
      if sk_isO w x1 10 = true then
      sk_ci (sk_c d 131 [.ref x1, .int v223, .int v224, .int v225] w) fun v227 w226 =>
      (sk_ald w226 x0 (x3 + (sj 1))).bind fun v228 =>
      (sk_ald w226 x0 (x3 + (sj 2))).bind fun v229 =>
      (sk_ald w226 x0 (x3 + (sj 3))).bind fun v230 =>
      if sk_isO w226 x2 11 = true then
      sk_ci (sk_c d 234 [.ref x2, .int v228, .int v229, .int v230] w226) fun v232 w231 =>
      if sk_cond .eq v227 v232 = true then
        sk_D244 d 18 [some (.ref x0), some (.ref x1), some (.ref x2), some (.int (x3 + (sj 7)))] [] w231
      else
        some (some (.int (sj 0)), w231) else none else none
    else if Int32.toInt (v2 &&& (sj 31)) = 30 then
      (sk_ald w x0 (x3 + (sj 1))).bind fun v233 =>
      (sk_ald w x0 (x3 + (sj 2))).bind fun v234 =>
      (sk_ald w x0 (x3 + (sj 3))).bind fun v235 =>
      if sk_isO w x1 10 = true then
      sk_ci (sk_c d 132 [.ref x1, .int v233, .int v234, .int v235] w) fun v237 w236 =>
      (sk_ald w236 x0 (x3 + (sj 1))).bind fun v238 =>
      (sk_ald w236 x0 (x3 + (sj 2))).bind fun v239 =>
      (sk_ald w236 x0 (x3 + (sj 3))).bind fun v240 =>
      if sk_isO w236 x2 11 = true then
      sk_ci (sk_c d 235 [.ref x2, .int v238, .int v239, .int v240] w236) fun v242 w241 =>
      if sk_cond .eq v237 v242 = true then
        sk_D244 d 18 [some (.ref x0), some (.ref x1), some (.ref x2), some (.int (x3 + (sj 7)))] [] w241
      else
        some (some (.int (sj 0)), w241) else none else none
    else if Int32.toInt (v2 &&& (sj 31)) = 31 then
      (sk_ald w x0 (x3 + (sj 1))).bind fun v243 =>
      (sk_ald w x0 (x3 + (sj 2))).bind fun v244 =>
      (sk_ald w x0 (x3 + (sj 3))).bind fun v245 =>
      (sk_ald w x0 (x3 + (sj 4))).bind fun v246 =>
      (sk_ald w x0 (x3 + (sj 5))).bind fun v247 =>
      if sk_isO w x1 10 = true then
      sk_ci (sk_c d 133 [.ref x1, .int v243, .int v244, .int v245, .int v246, .int v247] w) fun v249 w248 =>
      (sk_ald w248 x0 (x3 + (sj 1))).bind fun v250 =>
      (sk_ald w248 x0 (x3 + (sj 2))).bind fun v251 =>
      (sk_ald w248 x0 (x3 + (sj 3))).bind fun v252 =>
      (sk_ald w248 x0 (x3 + (sj 4))).bind fun v253 =>
      (sk_ald w248 x0 (x3 + (sj 5))).bind fun v254 =>
      if sk_isO w248 x2 11 = true then
      sk_ci (sk_c d 236 [.ref x2, .int v250, .int v251, .int v252, .int v253, .int v254] w248) fun v256 w255 =>
      if sk_cond .eq v249 v256 = true then
        sk_D244 d 18 [some (.ref x0), some (.ref x1), some (.ref x2), some (.int (x3 + (sj 7)))] [] w255
      else
        some (some (.int (sj 0)), w255) else none else none
    else 
      sk_D244 d 18 [some (.ref x0), some (.ref x1), some (.ref x2), some (.int (x3 + (sj 7)))] [] w := sk_unf (sk_c d) sk_fields true sk_t244 [18] 2000 rfl
