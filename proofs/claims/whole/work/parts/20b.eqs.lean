/-! ===== what each method's run comes to (written by program; each row is found by rfl) ===== -/
/-- SkylineNester$Spot.<init>()V -/
noncomputable abbrev sk_D82 (d : Nat) : sk_K := sk_den (sk_c d) sk_fields false sk_t82
set_option maxRecDepth 100000 in
theorem sk_e82 (d : Nat) (x0 : Nat) (w : sk_W) : sk_c (d + 1) 82 [.ref x0] w =
  some (none, w) := by
  have h : sk_c (d + 1) 82 [.ref x0] w = sk_D82 d 0 [some (.ref x0)] [] w := rfl
  rw [h]
  exact sk_unf (sk_c d) sk_fields false sk_t82 [] 2000 rfl
/-- SkylineNester$Spot.take(IIZII)V -/
noncomputable abbrev sk_D83 (d : Nat) : sk_K := sk_den (sk_c d) sk_fields false sk_t83
set_option maxRecDepth 100000 in
theorem sk_e83 (d : Nat) (x0 : Nat) (x1 : Int32) (x2 : Int32) (x3 : Int32) (x4 : Int32) (x5 : Int32) (w : sk_W) : sk_c (d + 1) 83 [.ref x0, .int x1, .int x2, .int x3, .int x4, .int x5] w =
  (sk_put w x0 7 0 (.int (sj 1))).bind fun w1 =>
  (sk_put w1 x0 7 1 (.int x1)).bind fun w2 =>
  (sk_put w2 x0 7 2 (.int x2)).bind fun w3 =>
  if x3 = 0 ∨ x3 = 1 then
  (sk_put w3 x0 7 3 (.int x3)).bind fun w4 =>
  (sk_put w4 x0 7 4 (.int x4)).bind fun w5 =>
  (sk_put w5 x0 7 5 (.int x5)).bind fun w6 =>
  some (none, w6) else none := by
  have h : sk_c (d + 1) 83 [.ref x0, .int x1, .int x2, .int x3, .int x4, .int x5] w = sk_D83 d 0 [some (.ref x0), some (.int x1), some (.int x2), some (.int x3), some (.int x4), some (.int x5)] [] w := rfl
  rw [h]
  exact sk_unf (sk_c d) sk_fields false sk_t83 [] 2000 rfl
/-- SkylineNester$Tape.<init>()V -/
noncomputable abbrev sk_D84 (d : Nat) : sk_K := sk_den (sk_c d) sk_fields false sk_t84
set_option maxRecDepth 100000 in
theorem sk_e84 (d : Nat) (x0 : Nat) (w : sk_W) : sk_c (d + 1) 84 [.ref x0] w =
  (sk_put (w ++ [.inl (60, fun _ => 0)]) x0 8 0 (.ref (List.length w))).bind fun w1 =>
  (sk_put w1 x0 8 1 (.int (sj 0))).bind fun w2 =>
  (sk_put (w2 ++ [.inr (.inl (0, 10, fun _ => none))]) x0 8 2 (.ref (List.length w2))).bind fun w3 =>
  sk_D84 d 28 [some (.ref x0), some (.int (sj 0))] [] w3 := by
  have h : sk_c (d + 1) 84 [.ref x0] w = sk_D84 d 0 [some (.ref x0), none] [] w := rfl
  rw [h]
  exact sk_unf (sk_c d) sk_fields false sk_t84 [28] 2000 rfl
set_option maxRecDepth 100000 in
theorem sk_e84_28 (d : Nat) (x0 : Nat) (x1 : Int32) (w : sk_W) : sk_D84 d 28 [some (.ref x0), some (.int x1)] [] w =
  if sk_cond .ge x1 (sj 10) = true then
    some (none, w)
  else
    (sk_getr w x0 8 2).bind fun v1 =>
    if sk_isO (w ++ [.inr (.inr (2, sk_fields 2))]) (List.length w) 2 = true then
    sk_cv (sk_c d 24 [.ref (List.length w)] (w ++ [.inr (.inr (2, sk_fields 2))])) fun w2 =>
    (sk_astr w2 v1 0 2 x1 (List.length w)).bind fun w3 =>
    sk_D84 d 28 [some (.ref x0), some (.int (x1 + (sj 1)))] [] w3 else none := sk_unf (sk_c d) sk_fields false sk_t84 [28] 2000 rfl
/-- SkylineNester$Tape.append(I)V -/
noncomputable abbrev sk_D85 (d : Nat) : sk_K := sk_den (sk_c d) sk_fields false sk_t85
set_option maxRecDepth 100000 in
theorem sk_e85 (d : Nat) (x0 : Nat) (x1 : Int32) (w : sk_W) : sk_c (d + 1) 85 [.ref x0, .int x1] w =
  (sk_geti w x0 8 1).bind fun v1 =>
  if sk_cond .lt v1 (sj 60) = true then
    (sk_getr w x0 8 0).bind fun v2 =>
    (sk_geti w x0 8 1).bind fun v3 =>
    (sk_ast w v2 v3 x1).bind fun w4 =>
    (sk_geti w4 x0 8 1).bind fun v5 =>
    (sk_put w4 x0 8 1 (.int (v5 + (sj 1)))).bind fun w6 =>
    some (none, w6)
  else
    some (none, w) := by
  have h : sk_c (d + 1) 85 [.ref x0, .int x1] w = sk_D85 d 0 [some (.ref x0), some (.int x1)] [] w := rfl
  rw [h]
  exact sk_unf (sk_c d) sk_fields false sk_t85 [] 2000 rfl
/-- SkylineNester$Tape.read(I)I -/
noncomputable abbrev sk_D86 (d : Nat) : sk_K := sk_den (sk_c d) sk_fields false sk_t86
set_option maxRecDepth 100000 in
theorem sk_e86 (d : Nat) (x0 : Nat) (x1 : Int32) (w : sk_W) : sk_c (d + 1) 86 [.ref x0, .int x1] w =
  (sk_put w x0 8 4 (.int (sj 0))).bind fun w1 =>
  (sk_put w1 x0 8 3 (.int (sj 0))).bind fun w2 =>
  sk_D86 d 12 [some (.ref x0), some (.int x1), some (.int (sj 0))] [] w2 := by
  have h : sk_c (d + 1) 86 [.ref x0, .int x1] w = sk_D86 d 0 [some (.ref x0), some (.int x1), none] [] w := rfl
  rw [h]
  exact sk_unf (sk_c d) sk_fields false sk_t86 [12] 2000 rfl
set_option maxRecDepth 100000 in
theorem sk_e86_12 (d : Nat) (x0 : Nat) (x1 : Int32) (x2 : Int32) (w : sk_W) : sk_D86 d 12 [some (.ref x0), some (.int x1), some (.int x2)] [] w =
  if sk_cond .ge x2 (sj 60) = true then
    (sk_geti w x0 8 3).bind fun v1 =>
    some (some (.int v1), w)
  else
    if sk_isO w x0 8 = true then
    sk_cv (sk_c d 88 [.ref x0] w) fun w2 =>
    if sk_cond .le x2 (sj 0) = true then
      if sk_isO w2 x0 8 = true then
      sk_ci (sk_c d 89 [.ref x0, .int x1] w2) fun v4 w3 =>
      if sk_cond .ne v4 (sj 0) = true then
        sk_D86 d 12 [some (.ref x0), some (.int x1), some (.int (x2 + (sj 1)))] [] w3
      else
        (sk_geti w3 x0 8 4).bind fun v5 =>
        some (some (.int ((sj (-100)) - v5)), w3) else none
    else
      (sk_geti w2 x0 8 4).bind fun v6 =>
      (sk_geti w2 x0 8 1).bind fun v7 =>
      if sk_cond .lt v6 v7 = true then
        if sk_isO w2 x0 8 = true then
        sk_ci (sk_c d 89 [.ref x0, .int x1] w2) fun v9 w8 =>
        if sk_cond .ne v9 (sj 0) = true then
          sk_D86 d 12 [some (.ref x0), some (.int x1), some (.int (x2 + (sj 1)))] [] w8
        else
          (sk_geti w8 x0 8 4).bind fun v10 =>
          some (some (.int ((sj (-100)) - v10)), w8) else none
      else
        (sk_geti w2 x0 8 3).bind fun v11 =>
        some (some (.int v11), w2) else none := sk_unf (sk_c d) sk_fields false sk_t86 [12] 2000 rfl
/-- SkylineNester$Tape.look()I -/
noncomputable abbrev sk_D87 (d : Nat) : sk_K := sk_den (sk_c d) sk_fields false sk_t87
set_option maxRecDepth 100000 in
theorem sk_e87 (d : Nat) (x0 : Nat) (w : sk_W) : sk_c (d + 1) 87 [.ref x0] w =
  (sk_geti w x0 8 4).bind fun v1 =>
  (sk_geti w x0 8 1).bind fun v2 =>
  if sk_cond .ge v1 v2 = true then
    some (some (.int (sj (-1))), w)
  else
    (sk_getr w x0 8 0).bind fun v3 =>
    (sk_geti w x0 8 4).bind fun v4 =>
    (sk_ald w v3 v4).bind fun v5 =>
    some (some (.int v5), w) := by
  have h : sk_c (d + 1) 87 [.ref x0] w = sk_D87 d 0 [some (.ref x0)] [] w := rfl
  rw [h]
  exact sk_unf (sk_c d) sk_fields false sk_t87 [] 2000 rfl
/-- SkylineNester$Tape.skipBlanks()V -/
noncomputable abbrev sk_D88 (d : Nat) : sk_K := sk_den (sk_c d) sk_fields false sk_t88
theorem sk_e88 (d : Nat) (x0 : Nat) (w : sk_W) : sk_c (d + 1) 88 [.ref x0] w = sk_D88 d 0 [some (.ref x0)] [] w := rfl
set_option maxRecDepth 100000 in
theorem sk_e88_0 (d : Nat) (x0 : Nat) (w : sk_W) : sk_D88 d 0 [some (.ref x0)] [] w =
  (sk_geti w x0 8 4).bind fun v1 =>
  (sk_geti w x0 8 1).bind fun v2 =>
  if sk_cond .ge v1 v2 = true then
    some (none, w)
  else
    (sk_getr w x0 8 0).bind fun v3 =>
    (sk_geti w x0 8 4).bind fun v4 =>
    (sk_ald w v3 v4).bind fun v5 =>
    if sk_cond .eq v5 (sj 32) = true then
      (sk_geti w x0 8 4).bind fun v6 =>
      (sk_put w x0 8 4 (.int (v6 + (sj 1)))).bind fun w7 =>
      sk_D88 d 0 [some (.ref x0)] [] w7
    else
      (sk_getr w x0 8 0).bind fun v8 =>
      (sk_geti w x0 8 4).bind fun v9 =>
      (sk_ald w v8 v9).bind fun v10 =>
      if sk_cond .ne v10 (sj 10) = true then
        some (none, w)
      else
        (sk_geti w x0 8 4).bind fun v11 =>
        (sk_put w x0 8 4 (.int (v11 + (sj 1)))).bind fun w12 =>
        sk_D88 d 0 [some (.ref x0)] [] w12 := sk_unf (sk_c d) sk_fields false sk_t88 [0] 2000 rfl
/-- SkylineNester$Tape.readItem(I)Z -/
noncomputable abbrev sk_D89 (d : Nat) : sk_K := sk_den (sk_c d) sk_fields true sk_t89
set_option maxRecDepth 100000 in
theorem sk_e89 (d : Nat) (x0 : Nat) (x1 : Int32) (w : sk_W) : sk_c (d + 1) 89 [.ref x0, .int x1] w =
  if sk_isO w x0 8 = true then
  sk_ci (sk_c d 87 [.ref x0] w) fun v2 w1 =>
  sk_ci (sk_c d 90 [.int v2] w1) fun v4 w3 =>
  if sk_cond .ne v4 (sj (-1)) = true then
    (sk_geti w3 x0 8 4).bind fun v5 =>
    (sk_put w3 x0 8 4 (.int (v5 + (sj 1)))).bind fun w6 =>
    if sk_isO w6 x0 8 = true then
    sk_ci (sk_c d 92 [.ref x0, .int x1] w6) fun v8 w7 =>
    if sk_cond .ne v8 (sj 0) = true then
      if sk_isO w7 x0 8 = true then
      sk_ci (sk_c d 87 [.ref x0] w7) fun v10 w9 =>
      if sk_cond .eq v10 (sj 120) = true then
        (sk_geti w9 x0 8 4).bind fun v11 =>
        (sk_put w9 x0 8 4 (.int (v11 + (sj 1)))).bind fun w12 =>
        if sk_isO w12 x0 8 = true then
        sk_ci (sk_c d 93 [.ref x0] w12) fun v14 w13 =>
        if sk_cond .ne v14 (sj 0) = true then
          if sk_isO w13 x0 8 = true then
          sk_ci (sk_c d 94 [.ref x0, .int (sj 58)] w13) fun v16 w15 =>
          if sk_cond .ne v16 (sj 0) = true then
            if sk_isO w15 x0 8 = true then
            sk_ci (sk_c d 94 [.ref x0, .int (sj 42)] w15) fun v18 w17 =>
            if sk_cond .ne v18 (sj 0) = true then
              sk_D89 d 104 [some (.ref x0), some (.int x1), some (.int v4), some (.int v8), some (.int v14), some (.int v16), some (.int v18), some (.int (sj 0))] [] w17
            else
              some (some (.int (sj 0)), w17) else none
          else
            some (some (.int (sj 0)), w15) else none
        else
          some (some (.int (sj 0)), w13) else none
      else
        some (some (.int (sj 0)), w9) else none
    else
      some (some (.int (sj 0)), w7) else none
  else
    some (some (.int (sj 0)), w3) else none := by
  have h : sk_c (d + 1) 89 [.ref x0, .int x1] w = sk_D89 d 0 [some (.ref x0), some (.int x1), none, none, none, none, none, none] [] w := rfl
  rw [h]
  exact sk_unf (sk_c d) sk_fields true sk_t89 [104] 2000 rfl
set_option maxRecDepth 100000 in
theorem sk_e89_104 (d : Nat) (x0 : Nat) (o1 : Option Value) (x2 : Int32) (x3 : Int32) (x4 : Int32) (x5 : Int32) (x6 : Int32) (x7 : Int32) (w : sk_W) : sk_D89 d 104 [some (.ref x0), o1, some (.int x2), some (.int x3), some (.int x4), some (.int x5), some (.int x6), some (.int x7)] [] w =
  if sk_cond .ge x7 x6 = true then
    some (some (.int (sj 1)), w)
  else
    (sk_geti w x0 8 3).bind fun v1 =>
    if sk_cond .ge v1 (sj 10) = true then
      (sk_geti w x0 8 3).bind fun v2 =>
      (sk_put w x0 8 3 (.int (v2 + (sj 1)))).bind fun w3 =>
      sk_D89 d 104 [some (.ref x0), o1, some (.int x2), some (.int x3), some (.int x4), some (.int x5), some (.int x6), some (.int (x7 + (sj 1)))] [] w3
    else
      (sk_getr w x0 8 2).bind fun v4 =>
      (sk_geti w x0 8 3).bind fun v5 =>
      (sk_aldr w v4 v5).bind fun v6 =>
      if sk_isO w v6 2 = true then
      sk_cv (sk_c d 25 [.ref v6, .int x2, .int x3, .int x4, .int x5] w) fun w7 =>
      (sk_geti w7 x0 8 3).bind fun v8 =>
      (sk_put w7 x0 8 3 (.int (v8 + (sj 1)))).bind fun w9 =>
      sk_D89 d 104 [some (.ref x0), o1, some (.int x2), some (.int x3), some (.int x4), some (.int x5), some (.int x6), some (.int (x7 + (sj 1)))] [] w9 else none := sk_unf (sk_c d) sk_fields true sk_t89 [104] 2000 rfl
/-- SkylineNester$Tape.kindOf(I)I -/
noncomputable abbrev sk_D90 (d : Nat) : sk_K := sk_den (sk_c d) sk_fields false sk_t90
set_option maxRecDepth 100000 in
theorem sk_e90 (d : Nat) (x0 : Int32) (w : sk_W) : sk_c (d + 1) 90 [.int x0] w =
  if Int32.toInt x0 = 99 then
    some (some (.int (sj 3)), w)
  else if Int32.toInt x0 = 100 then
    some (some (.int (sj (-1))), w)
  else if Int32.toInt x0 = 101 then
    some (some (.int (sj (-1))), w)
  else if Int32.toInt x0 = 102 then
    some (some (.int (sj (-1))), w)
  else if Int32.toInt x0 = 103 then
    some (some (.int (sj 2)), w)
  else if Int32.toInt x0 = 104 then
    some (some (.int (sj 5)), w)
  else if Int32.toInt x0 = 105 then
    some (some (.int (sj (-1))), w)
  else if Int32.toInt x0 = 106 then
    some (some (.int (sj (-1))), w)
  else if Int32.toInt x0 = 107 then
    some (some (.int (sj (-1))), w)
  else if Int32.toInt x0 = 108 then
    some (some (.int (sj (-1))), w)
  else if Int32.toInt x0 = 109 then
    some (some (.int (sj (-1))), w)
  else if Int32.toInt x0 = 110 then
    some (some (.int (sj (-1))), w)
  else if Int32.toInt x0 = 111 then
    some (some (.int (sj (-1))), w)
  else if Int32.toInt x0 = 112 then
    some (some (.int (sj 0)), w)
  else if Int32.toInt x0 = 113 then
    some (some (.int (sj (-1))), w)
  else if Int32.toInt x0 = 114 then
    some (some (.int (sj (-1))), w)
  else if Int32.toInt x0 = 115 then
    some (some (.int (sj 4)), w)
  else if Int32.toInt x0 = 116 then
    some (some (.int (sj 1)), w)
  else 
    some (some (.int (sj (-1))), w) := by
  have h : sk_c (d + 1) 90 [.int x0] w = sk_D90 d 0 [some (.int x0)] [] w := rfl
  rw [h]
  exact sk_unf (sk_c d) sk_fields false sk_t90 [] 2000 rfl
/-- SkylineNester$Tape.isDigit()Z -/
noncomputable abbrev sk_D91 (d : Nat) : sk_K := sk_den (sk_c d) sk_fields true sk_t91
set_option maxRecDepth 100000 in
theorem sk_e91 (d : Nat) (x0 : Nat) (w : sk_W) : sk_c (d + 1) 91 [.ref x0] w =
  if sk_isO w x0 8 = true then
  sk_ci (sk_c d 87 [.ref x0] w) fun v2 w1 =>
  if sk_cond .lt v2 (sj 48) = true then
    some (some (.int (sj 0)), w1)
  else
    if sk_isO w1 x0 8 = true then
    sk_ci (sk_c d 87 [.ref x0] w1) fun v4 w3 =>
    if sk_cond .gt v4 (sj 57) = true then
      some (some (.int (sj 0)), w3)
    else
      some (some (.int (sj 1)), w3) else none else none := by
  have h : sk_c (d + 1) 91 [.ref x0] w = sk_D91 d 0 [some (.ref x0)] [] w := rfl
  rw [h]
  exact sk_unf (sk_c d) sk_fields true sk_t91 [] 2000 rfl
/-- SkylineNester$Tape.readWidth(I)I -/
noncomputable abbrev sk_D92 (d : Nat) : sk_K := sk_den (sk_c d) sk_fields false sk_t92
set_option maxRecDepth 100000 in
theorem sk_e92 (d : Nat) (x0 : Nat) (x1 : Int32) (w : sk_W) : sk_c (d + 1) 92 [.ref x0, .int x1] w =
  (sk_geti w x0 8 4).bind fun v1 =>
  sk_D92 d 10 [some (.ref x0), some (.int x1), some (.int v1), some (.int (sj 0)), some (.int (sj 0))] [] w := by
  have h : sk_c (d + 1) 92 [.ref x0, .int x1] w = sk_D92 d 0 [some (.ref x0), some (.int x1), none, none, none] [] w := rfl
  rw [h]
  exact sk_unf (sk_c d) sk_fields false sk_t92 [10, 57] 2000 rfl
set_option maxRecDepth 100000 in
theorem sk_e92_10 (d : Nat) (x0 : Nat) (x1 : Int32) (x2 : Int32) (x3 : Int32) (x4 : Int32) (w : sk_W) : sk_D92 d 10 [some (.ref x0), some (.int x1), some (.int x2), some (.int x3), some (.int x4)] [] w =
  if sk_cond .ge x4 (sj 2) = true then
    sk_D92 d 57 [some (.ref x0), some (.int x1), some (.int x2), some (.int x3), some (.int x4)] [] w
  else
    if sk_isO w x0 8 = true then
    sk_ci (sk_c d 91 [.ref x0] w) fun v2 w1 =>
    if sk_cond .eq v2 (sj 0) = true then
      sk_D92 d 57 [some (.ref x0), some (.int x1), some (.int x2), some (.int x3), some (.int x4)] [] w1
    else
      (sk_getr w1 x0 8 0).bind fun v3 =>
      (sk_geti w1 x0 8 4).bind fun v4 =>
      (sk_ald w1 v3 v4).bind fun v5 =>
      (sk_geti w1 x0 8 4).bind fun v6 =>
      (sk_put w1 x0 8 4 (.int (v6 + (sj 1)))).bind fun w7 =>
      sk_D92 d 10 [some (.ref x0), some (.int x1), some (.int x2), some (.int ((((sj 10) * x3) + v5) - (sj 48))), some (.int (x4 + (sj 1)))] [] w7 else none := sk_unf (sk_c d) sk_fields false sk_t92 [10, 57] 2000 rfl
set_option maxRecDepth 100000 in
theorem sk_e92_57 (d : Nat) (x0 : Nat) (x1 : Int32) (x2 : Int32) (x3 : Int32) (o4 : Option Value) (w : sk_W) : sk_D92 d 57 [some (.ref x0), some (.int x1), some (.int x2), some (.int x3), o4] [] w =
  if sk_cond .lt x3 (sj 1) = true then
    (sk_put w x0 8 4 (.int x2)).bind fun w1 =>
    some (some (.int (sj 0)), w1)
  else
    if sk_cond .gt x3 x1 = true then
      (sk_put w x0 8 4 (.int x2)).bind fun w2 =>
      some (some (.int (sj 0)), w2)
    else
      some (some (.int x3), w) := sk_unf (sk_c d) sk_fields false sk_t92 [10, 57] 2000 rfl
/-- SkylineNester$Tape.readFigure()I -/
noncomputable abbrev sk_D93 (d : Nat) : sk_K := sk_den (sk_c d) sk_fields false sk_t93
set_option maxRecDepth 100000 in
theorem sk_e93 (d : Nat) (x0 : Nat) (w : sk_W) : sk_c (d + 1) 93 [.ref x0] w =
  if sk_isO w x0 8 = true then
  sk_ci (sk_c d 91 [.ref x0] w) fun v2 w1 =>
  if sk_cond .eq v2 (sj 0) = true then
    some (some (.int (sj 0)), w1)
  else
    if sk_isO w1 x0 8 = true then
    sk_ci (sk_c d 87 [.ref x0] w1) fun v4 w3 =>
    if sk_cond .ne v4 (sj 48) = true then
      if sk_isO w3 x0 8 = true then
      sk_ci (sk_c d 87 [.ref x0] w3) fun v6 w5 =>
      (sk_geti w5 x0 8 4).bind fun v7 =>
      (sk_put w5 x0 8 4 (.int (v7 + (sj 1)))).bind fun w8 =>
      some (some (.int (v6 - (sj 48))), w8) else none
    else
      some (some (.int (sj 0)), w3) else none else none := by
  have h : sk_c (d + 1) 93 [.ref x0] w = sk_D93 d 0 [some (.ref x0), none] [] w := rfl
  rw [h]
  exact sk_unf (sk_c d) sk_fields false sk_t93 [] 2000 rfl
/-- SkylineNester$Tape.readMarked(C)I -/
noncomputable abbrev sk_D94 (d : Nat) : sk_K := sk_den (sk_c d) sk_fields false sk_t94
set_option maxRecDepth 100000 in
theorem sk_e94 (d : Nat) (x0 : Nat) (x1 : Int32) (w : sk_W) : sk_c (d + 1) 94 [.ref x0, .int x1] w =
  if sk_isO w x0 8 = true then
  sk_ci (sk_c d 87 [.ref x0] w) fun v2 w1 =>
  if sk_cond .eq v2 x1 = true then
    (sk_geti w1 x0 8 4).bind fun v3 =>
    (sk_put w1 x0 8 4 (.int (v3 + (sj 1)))).bind fun w4 =>
    if sk_isO w4 x0 8 = true then
    sk_ci (sk_c d 93 [.ref x0] w4) fun v6 w5 =>
    some (some (.int v6), w5) else none
  else
    some (some (.int (sj 1)), w1) else none := by
  have h : sk_c (d + 1) 94 [.ref x0, .int x1] w = sk_D94 d 0 [some (.ref x0), some (.int x1)] [] w := rfl
  rw [h]
  exact sk_unf (sk_c d) sk_fields false sk_t94 [] 2000 rfl
/-- SkylineNester$Waste.<init>()V -/
noncomputable abbrev sk_D95 (d : Nat) : sk_K := sk_den (sk_c d) sk_fields false sk_t95
set_option maxRecDepth 100000 in
theorem sk_e95 (d : Nat) (x0 : Nat) (w : sk_W) : sk_c (d + 1) 95 [.ref x0] w =
  (sk_put (w ++ [.inl (64, fun _ => 0)]) x0 9 0 (.ref (List.length w))).bind fun w1 =>
  (sk_put (w1 ++ [.inl (64, fun _ => 0)]) x0 9 1 (.ref (List.length w1))).bind fun w2 =>
  (sk_put (w2 ++ [.inl (64, fun _ => 0)]) x0 9 2 (.ref (List.length w2))).bind fun w3 =>
  (sk_put (w3 ++ [.inl (64, fun _ => 0)]) x0 9 3 (.ref (List.length w3))).bind fun w4 =>
  (sk_put w4 x0 9 4 (.int (sj 0))).bind fun w5 =>
  some (none, w5) := by
  have h : sk_c (d + 1) 95 [.ref x0] w = sk_D95 d 0 [some (.ref x0)] [] w := rfl
  rw [h]
  exact sk_unf (sk_c d) sk_fields false sk_t95 [] 2000 rfl
/-- SkylineNester$Waste.becomeLike(LSkylineNester$Waste;)V -/
noncomputable abbrev sk_D96 (d : Nat) : sk_K := sk_den (sk_c d) sk_fields false sk_t96
set_option maxRecDepth 100000 in
theorem sk_e96 (d : Nat) (x0 : Nat) (x1 : Nat) (w : sk_W) : sk_c (d + 1) 96 [.ref x0, .ref x1] w =
  (sk_getr w x1 9 0).bind fun v1 =>
  (sk_getr w x0 9 0).bind fun v2 =>
  (sk_geti w x1 9 4).bind fun v3 =>
  (sk_copy w v1 (sj 0) v2 (sj 0) v3).bind fun w4 =>
  (sk_getr w4 x1 9 1).bind fun v5 =>
  (sk_getr w4 x0 9 1).bind fun v6 =>
  (sk_geti w4 x1 9 4).bind fun v7 =>
  (sk_copy w4 v5 (sj 0) v6 (sj 0) v7).bind fun w8 =>
  (sk_getr w8 x1 9 2).bind fun v9 =>
  (sk_getr w8 x0 9 2).bind fun v10 =>
  (sk_geti w8 x1 9 4).bind fun v11 =>
  (sk_copy w8 v9 (sj 0) v10 (sj 0) v11).bind fun w12 =>
  (sk_getr w12 x1 9 3).bind fun v13 =>
  (sk_getr w12 x0 9 3).bind fun v14 =>
  (sk_geti w12 x1 9 4).bind fun v15 =>
  (sk_copy w12 v13 (sj 0) v14 (sj 0) v15).bind fun w16 =>
  (sk_geti w16 x1 9 4).bind fun v17 =>
  (sk_put w16 x0 9 4 (.int v17)).bind fun w18 =>
  some (none, w18) := by
  have h : sk_c (d + 1) 96 [.ref x0, .ref x1] w = sk_D96 d 0 [some (.ref x0), some (.ref x1)] [] w := rfl
  rw [h]
  exact sk_unf (sk_c d) sk_fields false sk_t96 [] 2000 rfl
/-- SkylineNester$Waste.add(IIII)V -/
noncomputable abbrev sk_D97 (d : Nat) : sk_K := sk_den (sk_c d) sk_fields false sk_t97
set_option maxRecDepth 100000 in
theorem sk_e97 (d : Nat) (x0 : Nat) (x1 : Int32) (x2 : Int32) (x3 : Int32) (x4 : Int32) (w : sk_W) : sk_c (d + 1) 97 [.ref x0, .int x1, .int x2, .int x3, .int x4] w =
  if sk_cond .le x3 (sj 0) = true then
    some (none, w)
  else
    if sk_cond .le x4 (sj 0) = true then
      some (none, w)
    else
      (sk_geti w x0 9 4).bind fun v1 =>
      if sk_cond .lt v1 (sj 64) = true then
        (sk_geti w x0 9 4).bind fun v2 =>
        sk_D97 d 25 [some (.ref x0), some (.int x1), some (.int x2), some (.int x3), some (.int x4), some (.int v2)] [] w
      else
        some (none, w) := by
  have h : sk_c (d + 1) 97 [.ref x0, .int x1, .int x2, .int x3, .int x4] w = sk_D97 d 0 [some (.ref x0), some (.int x1), some (.int x2), some (.int x3), some (.int x4), none] [] w := rfl
  rw [h]
  exact sk_unf (sk_c d) sk_fields false sk_t97 [25, 113] 2000 rfl
set_option maxRecDepth 100000 in
theorem sk_e97_25 (d : Nat) (x0 : Nat) (x1 : Int32) (x2 : Int32) (x3 : Int32) (x4 : Int32) (x5 : Int32) (w : sk_W) : sk_D97 d 25 [some (.ref x0), some (.int x1), some (.int x2), some (.int x3), some (.int x4), some (.int x5)] [] w =
  if sk_cond .le x5 (sj 0) = true then
    sk_D97 d 113 [some (.ref x0), some (.int x1), some (.int x2), some (.int x3), some (.int x4), some (.int x5)] [] w
  else
    if sk_isO w x0 9 = true then
    sk_ci (sk_c d 100 [.ref x0, .int (x5 - (sj 1)), .int x1, .int x2] w) fun v2 w1 =>
    if sk_cond .eq v2 (sj 0) = true then
      sk_D97 d 113 [some (.ref x0), some (.int x1), some (.int x2), some (.int x3), some (.int x4), some (.int x5)] [] w1
    else
      (sk_getr w1 x0 9 0).bind fun v3 =>
      (sk_getr w1 x0 9 0).bind fun v4 =>
      (sk_ald w1 v4 (x5 - (sj 1))).bind fun v5 =>
      (sk_ast w1 v3 x5 v5).bind fun w6 =>
      (sk_getr w6 x0 9 1).bind fun v7 =>
      (sk_getr w6 x0 9 1).bind fun v8 =>
      (sk_ald w6 v8 (x5 - (sj 1))).bind fun v9 =>
      (sk_ast w6 v7 x5 v9).bind fun w10 =>
      (sk_getr w10 x0 9 2).bind fun v11 =>
      (sk_getr w10 x0 9 2).bind fun v12 =>
      (sk_ald w10 v12 (x5 - (sj 1))).bind fun v13 =>
      (sk_ast w10 v11 x5 v13).bind fun w14 =>
      (sk_getr w14 x0 9 3).bind fun v15 =>
      (sk_getr w14 x0 9 3).bind fun v16 =>
      (sk_ald w14 v16 (x5 - (sj 1))).bind fun v17 =>
      (sk_ast w14 v15 x5 v17).bind fun w18 =>
      sk_D97 d 25 [some (.ref x0), some (.int x1), some (.int x2), some (.int x3), some (.int x4), some (.int (x5 + (sj (-1))))] [] w18 else none := sk_unf (sk_c d) sk_fields false sk_t97 [25, 113] 2000 rfl
set_option maxRecDepth 100000 in
theorem sk_e97_113 (d : Nat) (x0 : Nat) (x1 : Int32) (x2 : Int32) (x3 : Int32) (x4 : Int32) (x5 : Int32) (w : sk_W) : sk_D97 d 113 [some (.ref x0), some (.int x1), some (.int x2), some (.int x3), some (.int x4), some (.int x5)] [] w =
  (sk_getr w x0 9 0).bind fun v1 =>
  (sk_ast w v1 x5 x1).bind fun w2 =>
  (sk_getr w2 x0 9 1).bind fun v3 =>
  (sk_ast w2 v3 x5 x2).bind fun w4 =>
  (sk_getr w4 x0 9 2).bind fun v5 =>
  (sk_ast w4 v5 x5 x3).bind fun w6 =>
  (sk_getr w6 x0 9 3).bind fun v7 =>
  (sk_ast w6 v7 x5 x4).bind fun w8 =>
  (sk_geti w8 x0 9 4).bind fun v9 =>
  (sk_put w8 x0 9 4 (.int (v9 + (sj 1)))).bind fun w10 =>
  some (none, w10) := sk_unf (sk_c d) sk_fields false sk_t97 [25, 113] 2000 rfl
/-- SkylineNester$Waste.takeCorner(III)V -/
noncomputable abbrev sk_D98 (d : Nat) : sk_K := sk_den (sk_c d) sk_fields false sk_t98
set_option maxRecDepth 100000 in
theorem sk_e98 (d : Nat) (x0 : Nat) (x1 : Int32) (x2 : Int32) (x3 : Int32) (w : sk_W) : sk_c (d + 1) 98 [.ref x0, .int x1, .int x2, .int x3] w =
  if sk_cond .lt x1 (sj 0) = true then
    some (none, w)
  else
    (sk_geti w x0 9 4).bind fun v1 =>
    if sk_cond .lt x1 v1 = true then
      (sk_getr w x0 9 0).bind fun v2 =>
      (sk_ald w v2 x1).bind fun v3 =>
      (sk_getr w x0 9 1).bind fun v4 =>
      (sk_ald w v4 x1).bind fun v5 =>
      (sk_getr w x0 9 2).bind fun v6 =>
      (sk_ald w v6 x1).bind fun v7 =>
      (sk_getr w x0 9 3).bind fun v8 =>
      (sk_ald w v8 x1).bind fun v9 =>
      if sk_isO w x0 9 = true then
      sk_cv (sk_c d 99 [.ref x0, .int x1] w) fun w10 =>
      if sk_isO w10 x0 9 = true then
      sk_cv (sk_c d 97 [.ref x0, .int (v3 + x2), .int v5, .int (v7 - x2), .int v9] w10) fun w11 =>
      if sk_isO w11 x0 9 = true then
      sk_cv (sk_c d 97 [.ref x0, .int v3, .int (v5 + x3), .int x2, .int (v9 - x3)] w11) fun w12 =>
      some (none, w12) else none else none else none
    else
      some (none, w) := by
  have h : sk_c (d + 1) 98 [.ref x0, .int x1, .int x2, .int x3] w = sk_D98 d 0 [some (.ref x0), some (.int x1), some (.int x2), some (.int x3), none, none, none, none] [] w := rfl
  rw [h]
  exact sk_unf (sk_c d) sk_fields false sk_t98 [] 2000 rfl
/-- SkylineNester$Waste.drop(I)V -/
noncomputable abbrev sk_D99 (d : Nat) : sk_K := sk_den (sk_c d) sk_fields false sk_t99
set_option maxRecDepth 100000 in
theorem sk_e99 (d : Nat) (x0 : Nat) (x1 : Int32) (w : sk_W) : sk_c (d + 1) 99 [.ref x0, .int x1] w =
  (sk_geti w x0 9 4).bind fun v1 =>
  (sk_put w x0 9 4 (.int (v1 - (sj 1)))).bind fun w2 =>
  sk_D99 d 12 [some (.ref x0), some (.int x1), some (.int x1)] [] w2 := by
  have h : sk_c (d + 1) 99 [.ref x0, .int x1] w = sk_D99 d 0 [some (.ref x0), some (.int x1), none] [] w := rfl
  rw [h]
  exact sk_unf (sk_c d) sk_fields false sk_t99 [12] 2000 rfl
set_option maxRecDepth 100000 in
theorem sk_e99_12 (d : Nat) (x0 : Nat) (o1 : Option Value) (x2 : Int32) (w : sk_W) : sk_D99 d 12 [some (.ref x0), o1, some (.int x2)] [] w =
  (sk_geti w x0 9 4).bind fun v1 =>
  if sk_cond .ge x2 v1 = true then
    some (none, w)
  else
    (sk_getr w x0 9 0).bind fun v2 =>
    (sk_getr w x0 9 0).bind fun v3 =>
    (sk_ald w v3 (x2 + (sj 1))).bind fun v4 =>
    (sk_ast w v2 x2 v4).bind fun w5 =>
    (sk_getr w5 x0 9 1).bind fun v6 =>
    (sk_getr w5 x0 9 1).bind fun v7 =>
    (sk_ald w5 v7 (x2 + (sj 1))).bind fun v8 =>
    (sk_ast w5 v6 x2 v8).bind fun w9 =>
    (sk_getr w9 x0 9 2).bind fun v10 =>
    (sk_getr w9 x0 9 2).bind fun v11 =>
    (sk_ald w9 v11 (x2 + (sj 1))).bind fun v12 =>
    (sk_ast w9 v10 x2 v12).bind fun w13 =>
    (sk_getr w13 x0 9 3).bind fun v14 =>
    (sk_getr w13 x0 9 3).bind fun v15 =>
    (sk_ald w13 v15 (x2 + (sj 1))).bind fun v16 =>
    (sk_ast w13 v14 x2 v16).bind fun w17 =>
    sk_D99 d 12 [some (.ref x0), o1, some (.int (x2 + (sj 1)))] [] w17 := sk_unf (sk_c d) sk_fields false sk_t99 [12] 2000 rfl
/-- SkylineNester$Waste.isBehind(III)Z -/
noncomputable abbrev sk_D100 (d : Nat) : sk_K := sk_den (sk_c d) sk_fields true sk_t100
set_option maxRecDepth 100000 in
theorem sk_e100 (d : Nat) (x0 : Nat) (x1 : Int32) (x2 : Int32) (x3 : Int32) (w : sk_W) : sk_c (d + 1) 100 [.ref x0, .int x1, .int x2, .int x3] w =
  (sk_getr w x0 9 1).bind fun v1 =>
  (sk_ald w v1 x1).bind fun v2 =>
  if sk_cond .gt v2 x3 = true then
    some (some (.int (sj 1)), w)
  else
    (sk_getr w x0 9 1).bind fun v3 =>
    (sk_ald w v3 x1).bind fun v4 =>
    if sk_cond .ne v4 x3 = true then
      some (some (.int (sj 0)), w)
    else
      (sk_getr w x0 9 0).bind fun v5 =>
      (sk_ald w v5 x1).bind fun v6 =>
      if sk_cond .le v6 x2 = true then
        some (some (.int (sj 0)), w)
      else
        some (some (.int (sj 1)), w) := by
  have h : sk_c (d + 1) 100 [.ref x0, .int x1, .int x2, .int x3] w = sk_D100 d 0 [some (.ref x0), some (.int x1), some (.int x2), some (.int x3)] [] w := rfl
  rw [h]
  exact sk_unf (sk_c d) sk_fields true sk_t100 [] 2000 rfl
/-- SkylineNester.<init>()V -/
noncomputable abbrev sk_D101 (d : Nat) : sk_K := sk_den (sk_c d) sk_fields false sk_t101
set_option maxRecDepth 100000 in
theorem sk_e101 (d : Nat) (x0 : Nat) (w : sk_W) : sk_c (d + 1) 101 [.ref x0] w =
  if sk_isO (w ++ [.inr (.inr (8, sk_fields 8))]) (List.length w) 8 = true then
  sk_cv (sk_c d 84 [.ref (List.length w)] (w ++ [.inr (.inr (8, sk_fields 8))])) fun w1 =>
  (sk_put w1 x0 10 0 (.ref (List.length w))).bind fun w2 =>
  if sk_isO (w2 ++ [.inr (.inr (3, sk_fields 3))]) (List.length w2) 3 = true then
  sk_cv (sk_c d 35 [.ref (List.length w2)] (w2 ++ [.inr (.inr (3, sk_fields 3))])) fun w3 =>
  (sk_put w3 x0 10 1 (.ref (List.length w2))).bind fun w4 =>
  if sk_isO (w4 ++ [.inr (.inr (3, sk_fields 3))]) (List.length w4) 3 = true then
  sk_cv (sk_c d 35 [.ref (List.length w4)] (w4 ++ [.inr (.inr (3, sk_fields 3))])) fun w5 =>
  (sk_put w5 x0 10 2 (.ref (List.length w4))).bind fun w6 =>
  if sk_isO (w6 ++ [.inr (.inr (3, sk_fields 3))]) (List.length w6) 3 = true then
  sk_cv (sk_c d 35 [.ref (List.length w6)] (w6 ++ [.inr (.inr (3, sk_fields 3))])) fun w7 =>
  (sk_put w7 x0 10 3 (.ref (List.length w6))).bind fun w8 =>
  if sk_isO (w8 ++ [.inr (.inr (1, sk_fields 1))]) (List.length w8) 1 = true then
  sk_cv (sk_c d 17 [.ref (List.length w8)] (w8 ++ [.inr (.inr (1, sk_fields 1))])) fun w9 =>
  (sk_put w9 x0 10 4 (.ref (List.length w8))).bind fun w10 =>
  if sk_isO (w10 ++ [.inr (.inr (5, sk_fields 5))]) (List.length w10) 5 = true then
  sk_cv (sk_c d 68 [.ref (List.length w10)] (w10 ++ [.inr (.inr (5, sk_fields 5))])) fun w11 =>
  (sk_put w11 x0 10 5 (.ref (List.length w10))).bind fun w12 =>
  if sk_isO (w12 ++ [.inr (.inr (0, sk_fields 0))]) (List.length w12) 0 = true then
  sk_cv (sk_c d 10 [.ref (List.length w12)] (w12 ++ [.inr (.inr (0, sk_fields 0))])) fun w13 =>
  (sk_put w13 x0 10 6 (.ref (List.length w12))).bind fun w14 =>
  (sk_put (w14 ++ [.inr (.inl (1, 4, fun _ => none))]) x0 10 7 (.ref (List.length w14))).bind fun w15 =>
  (sk_put (w15 ++ [.inr (.inl (2, 4, fun _ => none))]) x0 10 8 (.ref (List.length w15))).bind fun w16 =>
  (sk_put w16 x0 10 9 (.int (sj 0))).bind fun w17 =>
  sk_D101 d 104 [some (.ref x0), some (.int (sj 0))] [] w17 else none else none else none else none else none else none else none := by
  have h : sk_c (d + 1) 101 [.ref x0] w = sk_D101 d 0 [some (.ref x0), none] [] w := rfl
  rw [h]
  exact sk_unf (sk_c d) sk_fields false sk_t101 [104] 2000 rfl
set_option maxRecDepth 100000 in
theorem sk_e101_104 (d : Nat) (x0 : Nat) (x1 : Int32) (w : sk_W) : sk_D101 d 104 [some (.ref x0), some (.int x1)] [] w =
  if sk_cond .ge x1 (sj 4) = true then
    some (none, w)
  else
    (sk_getr w x0 10 7).bind fun v1 =>
    if sk_isO (w ++ [.inr (.inr (4, sk_fields 4))]) (List.length w) 4 = true then
    sk_cv (sk_c d 62 [.ref (List.length w)] (w ++ [.inr (.inr (4, sk_fields 4))])) fun w2 =>
    (sk_astr w2 v1 1 4 x1 (List.length w)).bind fun w3 =>
    (sk_getr w3 x0 10 8).bind fun v4 =>
    if sk_isO (w3 ++ [.inr (.inr (6, sk_fields 6))]) (List.length w3) 6 = true then
    sk_cv (sk_c d 78 [.ref (List.length w3)] (w3 ++ [.inr (.inr (6, sk_fields 6))])) fun w5 =>
    (sk_astr w5 v4 2 6 x1 (List.length w3)).bind fun w6 =>
    sk_D101 d 104 [some (.ref x0), some (.int (x1 + (sj 1)))] [] w6 else none else none := sk_unf (sk_c d) sk_fields false sk_t101 [104] 2000 rfl
/-- SkylineNester.feed(IIIIII)I -/
noncomputable abbrev sk_D102 (d : Nat) : sk_K := sk_den (sk_c d) sk_fields false sk_t102
set_option maxRecDepth 100000 in
theorem sk_e102 (d : Nat) (x0 : Nat) (x1 : Int32) (x2 : Int32) (x3 : Int32) (x4 : Int32) (x5 : Int32) (x6 : Int32) (w : sk_W) : sk_c (d + 1) 102 [.ref x0, .int x1, .int x2, .int x3, .int x4, .int x5, .int x6] w =
  if sk_cond .lt x1 (sj 1) = true then
    some (some (.int (sj (-2))), w)
  else
    if sk_cond .le x1 (sj 5) = true then
      sk_ci (sk_c d 134 [.int x2] w) fun v2 w1 =>
      if sk_cond .eq v2 (sj 0) = true then
        some (some (.int (sj (-2))), w1)
      else
        sk_ci (sk_c d 134 [.int x3] w1) fun v4 w3 =>
        if sk_cond .eq v4 (sj 0) = true then
          some (some (.int (sj (-2))), w3)
        else
          sk_ci (sk_c d 134 [.int x4] w3) fun v6 w5 =>
          if sk_cond .eq v6 (sj 0) = true then
            some (some (.int (sj (-2))), w5)
          else
            sk_ci (sk_c d 134 [.int x5] w5) fun v8 w7 =>
            if sk_cond .eq v8 (sj 0) = true then
              some (some (.int (sj (-2))), w7)
            else
              sk_ci (sk_c d 134 [.int x6] w7) fun v10 w9 =>
              if sk_cond .ne v10 (sj 0) = true then
                (sk_getr w9 x0 10 0).bind fun v11 =>
                (sk_geti w9 v11 8 1).bind fun v12 =>
                if sk_cond .le (v12 + x1) (sj 60) = true then
                  (sk_getr w9 x0 10 0).bind fun v13 =>
                  if sk_isO w9 v13 8 = true then
                  sk_cv (sk_c d 85 [.ref v13, .int x2] w9) fun w14 =>
                  if sk_cond .le x1 (sj 1) = true then
                    sk_D102 d 92 [some (.ref x0), some (.int x1), some (.int x2), some (.int x3), some (.int x4), some (.int x5), some (.int x6)] [] w14
                  else
                    (sk_getr w14 x0 10 0).bind fun v15 =>
                    if sk_isO w14 v15 8 = true then
                    sk_cv (sk_c d 85 [.ref v15, .int x3] w14) fun w16 =>
                    sk_D102 d 92 [some (.ref x0), some (.int x1), some (.int x2), some (.int x3), some (.int x4), some (.int x5), some (.int x6)] [] w16 else none else none
                else
                  some (some (.int (sj (-4))), w9)
              else
                some (some (.int (sj (-2))), w9)
    else
      some (some (.int (sj (-2))), w) := by
  have h : sk_c (d + 1) 102 [.ref x0, .int x1, .int x2, .int x3, .int x4, .int x5, .int x6] w = sk_D102 d 0 [some (.ref x0), some (.int x1), some (.int x2), some (.int x3), some (.int x4), some (.int x5), some (.int x6)] [] w := rfl
  rw [h]
  exact sk_unf (sk_c d) sk_fields false sk_t102 [92, 120] 2000 rfl
set_option maxRecDepth 100000 in
theorem sk_e102_92 (d : Nat) (x0 : Nat) (x1 : Int32) (o2 : Option Value) (o3 : Option Value) (x4 : Int32) (x5 : Int32) (x6 : Int32) (w : sk_W) : sk_D102 d 92 [some (.ref x0), some (.int x1), o2, o3, some (.int x4), some (.int x5), some (.int x6)] [] w =
  if sk_cond .le x1 (sj 2) = true then
    if sk_cond .le x1 (sj 3) = true then
      sk_D102 d 120 [some (.ref x0), some (.int x1), o2, o3, some (.int x4), some (.int x5), some (.int x6)] [] w
    else
      (sk_getr w x0 10 0).bind fun v1 =>
      if sk_isO w v1 8 = true then
      sk_cv (sk_c d 85 [.ref v1, .int x5] w) fun w2 =>
      sk_D102 d 120 [some (.ref x0), some (.int x1), o2, o3, some (.int x4), some (.int x5), some (.int x6)] [] w2 else none
  else
    (sk_getr w x0 10 0).bind fun v3 =>
    if sk_isO w v3 8 = true then
    sk_cv (sk_c d 85 [.ref v3, .int x4] w) fun w4 =>
    if sk_cond .le x1 (sj 3) = true then
      sk_D102 d 120 [some (.ref x0), some (.int x1), o2, o3, some (.int x4), some (.int x5), some (.int x6)] [] w4
    else
      (sk_getr w4 x0 10 0).bind fun v5 =>
      if sk_isO w4 v5 8 = true then
      sk_cv (sk_c d 85 [.ref v5, .int x5] w4) fun w6 =>
      sk_D102 d 120 [some (.ref x0), some (.int x1), o2, o3, some (.int x4), some (.int x5), some (.int x6)] [] w6 else none else none := sk_unf (sk_c d) sk_fields false sk_t102 [92, 120] 2000 rfl
set_option maxRecDepth 100000 in
theorem sk_e102_120 (d : Nat) (x0 : Nat) (x1 : Int32) (o2 : Option Value) (o3 : Option Value) (o4 : Option Value) (o5 : Option Value) (x6 : Int32) (w : sk_W) : sk_D102 d 120 [some (.ref x0), some (.int x1), o2, o3, o4, o5, some (.int x6)] [] w =
  if sk_cond .le x1 (sj 4) = true then
    (sk_getr w x0 10 0).bind fun v1 =>
    (sk_geti w v1 8 1).bind fun v2 =>
    some (some (.int v2), w)
  else
    (sk_getr w x0 10 0).bind fun v3 =>
    if sk_isO w v3 8 = true then
    sk_cv (sk_c d 85 [.ref v3, .int x6] w) fun w4 =>
    (sk_getr w4 x0 10 0).bind fun v5 =>
    (sk_geti w4 v5 8 1).bind fun v6 =>
    some (some (.int v6), w4) else none := sk_unf (sk_c d) sk_fields false sk_t102 [92, 120] 2000 rfl
/-- SkylineNester.strip(I)I -/
noncomputable abbrev sk_D103 (d : Nat) : sk_K := sk_den (sk_c d) sk_fields false sk_t103
set_option maxRecDepth 100000 in
theorem sk_e103 (d : Nat) (x0 : Nat) (x1 : Int32) (w : sk_W) : sk_c (d + 1) 103 [.ref x0, .int x1] w =
  if sk_cond .lt x1 (sj 1) = true then
    some (some (.int (sj (-2))), w)
  else
    if sk_cond .le x1 (sj 20) = true then
      (sk_getr w x0 10 1).bind fun v1 =>
      (sk_geti w v1 3 4).bind fun v2 =>
      (sk_getr w x0 10 1).bind fun v3 =>
      if sk_isO w v3 3 = true then
      sk_cv (sk_c d 37 [.ref v3, .int x1] w) fun w4 =>
      if sk_isO w4 x0 10 = true then
      sk_cv (sk_c d 140 [.ref x0] w4) fun w5 =>
      some (some (.int v2), w5) else none else none
    else
      some (some (.int (sj (-2))), w) := by
  have h : sk_c (d + 1) 103 [.ref x0, .int x1] w = sk_D103 d 0 [some (.ref x0), some (.int x1), none] [] w := rfl
  rw [h]
  exact sk_unf (sk_c d) sk_fields false sk_t103 [] 2000 rfl
/-- SkylineNester.parts()I -/
noncomputable abbrev sk_D104 (d : Nat) : sk_K := sk_den (sk_c d) sk_fields false sk_t104
set_option maxRecDepth 100000 in
theorem sk_e104 (d : Nat) (x0 : Nat) (w : sk_W) : sk_c (d + 1) 104 [.ref x0] w =
  (sk_getr w x0 10 0).bind fun v1 =>
  (sk_getr w x0 10 1).bind fun v2 =>
  (sk_geti w v2 3 4).bind fun v3 =>
  if sk_isO w v1 8 = true then
  sk_ci (sk_c d 86 [.ref v1, .int v3] w) fun v5 w4 =>
  (sk_getr w4 x0 10 0).bind fun v6 =>
  (sk_put w4 v6 8 1 (.int (sj 0))).bind fun w7 =>
  if sk_cond .ge v5 (sj 0) = true then
    (sk_getr w7 x0 10 1).bind fun v8 =>
    (sk_geti w7 v8 3 5).bind fun v9 =>
    if sk_cond .le (v9 + v5) (sj 10) = true then
      sk_D104 d 48 [some (.ref x0), some (.int v5), some (.int (sj 0))] [] w7
    else
      some (some (.int (sj (-4))), w7)
  else
    some (some (.int v5), w7) else none := by
  have h : sk_c (d + 1) 104 [.ref x0] w = sk_D104 d 0 [some (.ref x0), none, none] [] w := rfl
  rw [h]
  exact sk_unf (sk_c d) sk_fields false sk_t104 [48] 2000 rfl
set_option maxRecDepth 100000 in
theorem sk_e104_48 (d : Nat) (x0 : Nat) (x1 : Int32) (x2 : Int32) (w : sk_W) : sk_D104 d 48 [some (.ref x0), some (.int x1), some (.int x2)] [] w =
  if sk_cond .ge x2 x1 = true then
    (sk_getr w x0 10 1).bind fun v1 =>
    (sk_geti w v1 3 5).bind fun v2 =>
    some (some (.int v2), w)
  else
    (sk_getr w x0 10 1).bind fun v3 =>
    (sk_getr w v3 3 0).bind fun v4 =>
    (sk_getr w x0 10 1).bind fun v5 =>
    (sk_geti w v5 3 5).bind fun v6 =>
    (sk_aldr w v4 v6).bind fun v7 =>
    (sk_getr w x0 10 0).bind fun v8 =>
    (sk_getr w v8 8 2).bind fun v9 =>
    (sk_aldr w v9 x2).bind fun v10 =>
    if sk_isO w v7 2 = true then
    sk_cv (sk_c d 26 [.ref v7, .ref v10] w) fun w11 =>
    (sk_getr w11 x0 10 1).bind fun v12 =>
    (sk_geti w11 v12 3 5).bind fun v13 =>
    (sk_put w11 v12 3 5 (.int (v13 + (sj 1)))).bind fun w14 =>
    sk_D104 d 48 [some (.ref x0), some (.int x1), some (.int (x2 + (sj 1)))] [] w14 else none := sk_unf (sk_c d) sk_fields false sk_t104 [48] 2000 rfl
/-- SkylineNester.told(II)I -/
noncomputable abbrev sk_D105 (d : Nat) : sk_K := sk_den (sk_c d) sk_fields false sk_t105
set_option maxRecDepth 100000 in
theorem sk_e105 (d : Nat) (x0 : Nat) (x1 : Int32) (x2 : Int32) (w : sk_W) : sk_c (d + 1) 105 [.ref x0, .int x1, .int x2] w =
  (sk_getr w x0 10 1).bind fun v1 =>
  if sk_isO w v1 3 = true then
  sk_ci (sk_c d 39 [.ref v1, .int x1] w) fun v3 w2 =>
  if sk_cond .ne v3 (sj 0) = true then
    (sk_getr w2 x0 10 1).bind fun v4 =>
    (sk_getr w2 v4 3 0).bind fun v5 =>
    (sk_aldr w2 v5 x1).bind fun v6 =>
    if Int32.toInt x2 = 0 then
      (sk_geti w2 v6 2 0).bind fun v7 =>
      some (some (.int v7), w2)
    else if Int32.toInt x2 = 1 then
      (sk_geti w2 v6 2 1).bind fun v8 =>
      some (some (.int v8), w2)
    else if Int32.toInt x2 = 2 then
      (sk_geti w2 v6 2 2).bind fun v9 =>
      some (some (.int v9), w2)
    else if Int32.toInt x2 = 3 then
      (sk_geti w2 v6 2 3).bind fun v10 =>
      some (some (.int v10), w2)
    else if Int32.toInt x2 = 4 then
      if sk_isO w2 v6 2 = true then
      sk_ci (sk_c d 27 [.ref v6] w2) fun v12 w11 =>
      if sk_cond .eq v12 (sj 0) = true then
        some (some (.int (sj (-1))), w11)
      else
        (sk_geti w11 v6 2 5).bind fun v13 =>
        some (some (.int v13), w11) else none
    else if Int32.toInt x2 = 5 then
      if sk_isO w2 v6 2 = true then
      sk_ci (sk_c d 27 [.ref v6] w2) fun v15 w14 =>
      if sk_cond .eq v15 (sj 0) = true then
        some (some (.int (sj (-1))), w14)
      else
        (sk_geti w14 v6 2 6).bind fun v16 =>
        some (some (.int v16), w14) else none
    else if Int32.toInt x2 = 6 then
      if sk_isO w2 v6 2 = true then
      sk_ci (sk_c d 27 [.ref v6] w2) fun v18 w17 =>
      if sk_cond .eq v18 (sj 0) = true then
        some (some (.int (sj (-1))), w17)
      else
        (sk_geti w17 v6 2 7).bind fun v19 =>
        if sk_cond .eq v19 (sj 0) = true then
          some (some (.int (sj 0)), w17)
        else
          some (some (.int (sj 1)), w17) else none
    else if Int32.toInt x2 = 7 then
      (sk_geti w2 v6 2 4).bind fun v20 =>
      some (some (.int v20), w2)
    else 
      some (some (.int (sj (-2))), w2)
  else
    some (some (.int (sj (-2))), w2) else none := by
  have h : sk_c (d + 1) 105 [.ref x0, .int x1, .int x2] w = sk_D105 d 0 [some (.ref x0), some (.int x1), some (.int x2), none] [] w := rfl
  rw [h]
  exact sk_unf (sk_c d) sk_fields false sk_t105 [] 2000 rfl
/-- SkylineNester.taken(II)I -/
noncomputable abbrev sk_D106 (d : Nat) : sk_K := sk_den (sk_c d) sk_fields false sk_t106
set_option maxRecDepth 100000 in
theorem sk_e106 (d : Nat) (x0 : Nat) (x1 : Int32) (x2 : Int32) (w : sk_W) : sk_c (d + 1) 106 [.ref x0, .int x1, .int x2] w =
  (sk_getr w x0 10 1).bind fun v1 =>
  if sk_isO w v1 3 = true then
  sk_ci (sk_c d 39 [.ref v1, .int x1] w) fun v3 w2 =>
  if sk_cond .eq v3 (sj 0) = true then
    some (some (.int (sj (-2))), w2)
  else
    sk_ci (sk_c d 135 [.int x2] w2) fun v5 w4 =>
    if sk_cond .ne v5 (sj 0) = true then
      (sk_getr w4 x0 10 1).bind fun v6 =>
      (sk_getr w4 v6 3 0).bind fun v7 =>
      (sk_aldr w4 v7 x1).bind fun v8 =>
      (sk_geti w4 v8 2 0).bind fun v9 =>
      sk_ci (sk_c d 1 [.int v9, .int x2] w4) fun v11 w10 =>
      if sk_cond .eq v11 (sj 0) = true then
        some (some (.int (sj (-13))), w10)
      else
        (sk_geti w10 v8 2 1).bind fun v12 =>
        if sk_isO w10 v8 2 = true then
        sk_ci (sk_c d 32 [.ref v8, .int (sj 0)] w10) fun v14 w13 =>
        some (some (.int (v12 * v14)), w13) else none
    else
      some (some (.int (sj (-2))), w4) else none := by
  have h : sk_c (d + 1) 106 [.ref x0, .int x1, .int x2] w = sk_D106 d 0 [some (.ref x0), some (.int x1), some (.int x2), none] [] w := rfl
  rw [h]
  exact sk_unf (sk_c d) sk_fields false sk_t106 [] 2000 rfl
/-- SkylineNester.fix(III)I -/
noncomputable abbrev sk_D107 (d : Nat) : sk_K := sk_den (sk_c d) sk_fields false sk_t107
set_option maxRecDepth 100000 in
theorem sk_e107 (d : Nat) (x0 : Nat) (x1 : Int32) (x2 : Int32) (x3 : Int32) (w : sk_W) : sk_c (d + 1) 107 [.ref x0, .int x1, .int x2, .int x3] w =
  (sk_getr w x0 10 1).bind fun v1 =>
  if sk_isO w v1 3 = true then
  sk_ci (sk_c d 39 [.ref v1, .int x1] w) fun v3 w2 =>
  if sk_cond .eq v3 (sj 0) = true then
    some (some (.int (sj (-2))), w2)
  else
    if sk_cond .lt x2 (sj (-1)) = true then
      some (some (.int (sj (-2))), w2)
    else
      if sk_cond .lt x2 (sj 20) = true then
        if sk_cond .eq x2 (sj (-1)) = true then
          sk_D107 d 43 [some (.ref x0), some (.int x1), some (.int x2), some (.int x3), none, none] [] w2
        else
          if sk_cond .lt x3 (sj 0) = true then
            some (some (.int (sj (-2))), w2)
          else
            if sk_cond .le x3 (sj 60) = true then
              sk_D107 d 43 [some (.ref x0), some (.int x1), some (.int x2), some (.int x3), none, none] [] w2
            else
              some (some (.int (sj (-2))), w2)
      else
        some (some (.int (sj (-2))), w2) else none := by
  have h : sk_c (d + 1) 107 [.ref x0, .int x1, .int x2, .int x3] w = sk_D107 d 0 [some (.ref x0), some (.int x1), some (.int x2), some (.int x3), none, none] [] w := rfl
  rw [h]
  exact sk_unf (sk_c d) sk_fields false sk_t107 [43, 68, 103] 2000 rfl
set_option maxRecDepth 100000 in
theorem sk_e107_43 (d : Nat) (x0 : Nat) (x1 : Int32) (x2 : Int32) (x3 : Int32) (w : sk_W) : sk_D107 d 43 [some (.ref x0), some (.int x1), some (.int x2), some (.int x3), none, none] [] w =
  (sk_getr w x0 10 1).bind fun v1 =>
  (sk_getr w v1 3 0).bind fun v2 =>
  (sk_aldr w v2 x1).bind fun v3 =>
  (sk_geti w v3 2 4).bind fun v4 =>
  if sk_cond .ne v4 (sj 1) = true then
    sk_D107 d 68 [some (.ref x0), some (.int x1), some (.int x2), some (.int x3), some (.ref v3), none] [.int (sj 0)] w
  else
    sk_D107 d 68 [some (.ref x0), some (.int x1), some (.int x2), some (.int x3), some (.ref v3), none] [.int (sj 1)] w := sk_unf (sk_c d) sk_fields false sk_t107 [43, 68, 103] 2000 rfl
set_option maxRecDepth 100000 in
theorem sk_e107_68 (d : Nat) (x0 : Nat) (x1 : Int32) (x2 : Int32) (x3 : Int32) (x4 : Nat) (s0 : Int32) (w : sk_W) : sk_D107 d 68 [some (.ref x0), some (.int x1), some (.int x2), some (.int x3), some (.ref x4), none] [.int s0] w =
  (sk_getr w x0 10 1).bind fun v1 =>
  if sk_isO w v1 3 = true then
  sk_ci (sk_c d 41 [.ref v1] w) fun v3 w2 =>
  if sk_cond .ne v3 (sj 0) = true then
    some (some (.int (sj (-3))), w2)
  else
    (sk_getr w2 x0 10 1).bind fun v4 =>
    if sk_isO w2 v4 3 = true then
    sk_ci (sk_c d 40 [.ref v4, .int x1] w2) fun v6 w5 =>
    if sk_cond .ne v6 (sj 0) = true then
      some (some (.int (sj (-3))), w5)
    else
      if sk_cond .ne x2 (sj (-1)) = true then
        sk_D107 d 103 [some (.ref x0), some (.int x1), some (.int x2), some (.int x3), some (.ref x4), some (.int s0)] [.int (sj 0), .int s0] w5
      else
        sk_D107 d 103 [some (.ref x0), some (.int x1), some (.int x2), some (.int x3), some (.ref x4), some (.int s0)] [.int (sj 1), .int s0] w5 else none else none := sk_unf (sk_c d) sk_fields false sk_t107 [43, 68, 103] 2000 rfl
set_option maxRecDepth 100000 in
theorem sk_e107_103 (d : Nat) (x0 : Nat) (o1 : Option Value) (x2 : Int32) (x3 : Int32) (x4 : Nat) (o5 : Option Value) (s0 : Int32) (s1 : Int32) (w : sk_W) : sk_D107 d 103 [some (.ref x0), o1, some (.int x2), some (.int x3), some (.ref x4), o5] [.int s1, .int s0] w =
  if sk_cond .eq s0 s1 = true then
    if sk_cond .ne x2 (sj (-1)) = true then
      (sk_geti w x4 2 1).bind fun v1 =>
      (sk_getr w x0 10 1).bind fun v2 =>
      (sk_geti w v2 3 4).bind fun v3 =>
      if sk_cond .le (x2 + v1) v3 = true then
        (sk_getr w x0 10 1).bind fun v4 =>
        (sk_geti w x4 2 1).bind fun v5 =>
        if sk_isO w x4 2 = true then
        sk_ci (sk_c d 32 [.ref x4, .int (sj 0)] w) fun v7 w6 =>
        if sk_isO w6 v4 3 = true then
        sk_ci (sk_c d 51 [.ref v4, .int x2, .int x3, .int v5, .int v7] w6) fun v9 w8 =>
        if sk_cond .eq v9 (sj (-1)) = true then
          if sk_isO w8 x4 2 = true then
          sk_cv (sk_c d 29 [.ref x4, .int x2, .int x3, .int (sj 0), .int (sj 1)] w8) fun w10 =>
          some (some (.int (sj 1)), w10) else none
        else
          some (some (.int (sj (-15))), w8) else none else none
      else
        some (some (.int (sj (-12))), w)
    else
      (sk_put w x4 2 4 (.int (sj 0))).bind fun w11 =>
      some (some (.int (sj 1)), w11)
  else
    some (some (.int (sj (-3))), w) := sk_unf (sk_c d) sk_fields false sk_t107 [43, 68, 103] 2000 rfl
/-- SkylineNester.order(I)I -/
noncomputable abbrev sk_D108 (d : Nat) : sk_K := sk_den (sk_c d) sk_fields false sk_t108
set_option maxRecDepth 100000 in
theorem sk_e108 (d : Nat) (x0 : Nat) (x1 : Int32) (w : sk_W) : sk_c (d + 1) 108 [.ref x0, .int x1] w =
  if sk_cond .eq x1 (sj (-1)) = true then
    sk_D108 d 15 [some (.ref x0), some (.int x1), none] [] w
  else
    sk_ci (sk_c d 136 [.int x1] w) fun v2 w1 =>
    if sk_cond .ne v2 (sj 0) = true then
      sk_D108 d 15 [some (.ref x0), some (.int x1), none] [] w1
    else
      some (some (.int (sj (-2))), w1) := by
  have h : sk_c (d + 1) 108 [.ref x0, .int x1] w = sk_D108 d 0 [some (.ref x0), some (.int x1), none] [] w := rfl
  rw [h]
  exact sk_unf (sk_c d) sk_fields false sk_t108 [15] 2000 rfl
set_option maxRecDepth 100000 in
theorem sk_e108_15 (d : Nat) (x0 : Nat) (x1 : Int32) (w : sk_W) : sk_D108 d 15 [some (.ref x0), some (.int x1), none] [] w =
  if sk_cond .ne x1 (sj (-1)) = true then
    (sk_getr w x0 10 7).bind fun v1 =>
    (sk_aldr w v1 x1).bind fun v2 =>
    if sk_isO w v2 4 = true then
    sk_ci (sk_c d 63 [.ref v2] w) fun v4 w3 =>
    if sk_cond .eq v4 (sj 0) = true then
      (sk_getr w3 x0 10 1).bind fun v5 =>
      if sk_isO w3 v5 3 = true then
      sk_ci (sk_c d 45 [.ref v5, .ref v2] w3) fun v7 w6 =>
      if sk_cond .ne v7 (sj 0) = true then
        (sk_getr w6 x0 10 1).bind fun v8 =>
        if sk_isO w6 v8 3 = true then
        sk_cv (sk_c d 46 [.ref v8, .ref v2] w6) fun w9 =>
        (sk_getr w9 x0 10 1).bind fun v10 =>
        (sk_geti w9 v10 3 6).bind fun v11 =>
        some (some (.int v11), w9) else none
      else
        some (some (.int (sj (-3))), w6) else none
    else
      some (some (.int (sj (-11))), w3) else none
  else
    (sk_getr w x0 10 1).bind fun v12 =>
    if sk_isO w v12 3 = true then
    sk_cv (sk_c d 44 [.ref v12] w) fun w13 =>
    (sk_getr w13 x0 10 1).bind fun v14 =>
    (sk_geti w13 v14 3 6).bind fun v15 =>
    some (some (.int v15), w13) else none := sk_unf (sk_c d) sk_fields false sk_t108 [15] 2000 rfl
/-- SkylineNester.swap(II)I -/
noncomputable abbrev sk_D109 (d : Nat) : sk_K := sk_den (sk_c d) sk_fields false sk_t109
set_option maxRecDepth 100000 in
theorem sk_e109 (d : Nat) (x0 : Nat) (x1 : Int32) (x2 : Int32) (w : sk_W) : sk_c (d + 1) 109 [.ref x0, .int x1, .int x2] w =
  if sk_cond .lt x1 (sj 0) = true then
    some (some (.int (sj (-12))), w)
  else
    (sk_getr w x0 10 1).bind fun v1 =>
    (sk_geti w v1 3 6).bind fun v2 =>
    if sk_cond .ge x1 v2 = true then
      some (some (.int (sj (-12))), w)
    else
      if sk_cond .lt x2 (sj 0) = true then
        some (some (.int (sj (-12))), w)
      else
        (sk_getr w x0 10 1).bind fun v3 =>
        (sk_geti w v3 3 6).bind fun v4 =>
        if sk_cond .lt x2 v4 = true then
          (sk_getr w x0 10 1).bind fun v5 =>
          if sk_isO w v5 3 = true then
          sk_cv (sk_c d 47 [.ref v5, .int x1, .int x2] w) fun w6 =>
          (sk_getr w6 x0 10 1).bind fun v7 =>
          (sk_getr w6 v7 3 1).bind fun v8 =>
          (sk_ald w6 v8 x1).bind fun v9 =>
          some (some (.int v9), w6) else none
        else
          some (some (.int (sj (-12))), w) := by
  have h : sk_c (d + 1) 109 [.ref x0, .int x1, .int x2] w = sk_D109 d 0 [some (.ref x0), some (.int x1), some (.int x2)] [] w := rfl
  rw [h]
  exact sk_unf (sk_c d) sk_fields false sk_t109 [] 2000 rfl
/-- SkylineNester.rule(II)I -/
noncomputable abbrev sk_D110 (d : Nat) : sk_K := sk_den (sk_c d) sk_fields false sk_t110
set_option maxRecDepth 100000 in
theorem sk_e110 (d : Nat) (x0 : Nat) (x1 : Int32) (x2 : Int32) (w : sk_W) : sk_c (d + 1) 110 [.ref x0, .int x1, .int x2] w =
  if sk_cond .lt x1 (sj 0) = true then
    some (some (.int (sj (-2))), w)
  else
    if sk_cond .ge x1 (sj 4) = true then
      some (some (.int (sj (-2))), w)
    else
      if sk_cond .lt x2 (sj 0) = true then
        some (some (.int (sj (-2))), w)
      else
        if sk_cond .le x2 (sj 1) = true then
          (sk_getr w x0 10 1).bind fun v1 =>
          (sk_geti w v1 3 7).bind fun v2 =>
          (sk_getr w x0 10 1).bind fun v3 =>
          (sk_geti w v3 3 8).bind fun v4 =>
          if sk_cond .eq v4 (sj 0) = true then
            sk_D110 d 45 [some (.ref x0), some (.int x1), some (.int x2), none] [.int (sj 0), .int ((sj 2) * v2)] w
          else
            sk_D110 d 45 [some (.ref x0), some (.int x1), some (.int x2), none] [.int (sj 1), .int ((sj 2) * v2)] w
        else
          some (some (.int (sj (-2))), w) := by
  have h : sk_c (d + 1) 110 [.ref x0, .int x1, .int x2] w = sk_D110 d 0 [some (.ref x0), some (.int x1), some (.int x2), none] [] w := rfl
  rw [h]
  exact sk_unf (sk_c d) sk_fields false sk_t110 [45] 2000 rfl
set_option maxRecDepth 100000 in
theorem sk_e110_45 (d : Nat) (x0 : Nat) (x1 : Int32) (x2 : Int32) (s0 : Int32) (s1 : Int32) (w : sk_W) : sk_D110 d 45 [some (.ref x0), some (.int x1), some (.int x2), none] [.int s1, .int s0] w =
  (sk_getr w x0 10 1).bind fun v1 =>
  (sk_put w v1 3 7 (.int x1)).bind fun w2 =>
  (sk_getr w2 x0 10 1).bind fun v3 =>
  if sk_cond .ne x2 (sj 1) = true then
    (sk_put w2 v3 3 8 (.int (sj 0))).bind fun w4 =>
    some (some (.int (s0 + s1)), w4)
  else
    (sk_put w2 v3 3 8 (.int (sj 1))).bind fun w5 =>
    some (some (.int (s0 + s1)), w5) := sk_unf (sk_c d) sk_fields false sk_t110 [45] 2000 rfl
/-- SkylineNester.place(II)I -/
noncomputable abbrev sk_D111 (d : Nat) : sk_K := sk_den (sk_c d) sk_fields false sk_t111
set_option maxRecDepth 100000 in
theorem sk_e111 (d : Nat) (x0 : Nat) (x1 : Int32) (x2 : Int32) (w : sk_W) : sk_c (d + 1) 111 [.ref x0, .int x1, .int x2] w =
  (sk_getr w x0 10 1).bind fun v1 =>
  if sk_isO w v1 3 = true then
  sk_ci (sk_c d 39 [.ref v1, .int x1] w) fun v3 w2 =>
  if sk_cond .eq v3 (sj 0) = true then
    some (some (.int (sj (-2))), w2)
  else
    if sk_cond .lt x2 (sj 0) = true then
      some (some (.int (sj (-2))), w2)
    else
      if sk_cond .le x2 (sj 3) = true then
        (sk_getr w2 x0 10 1).bind fun v4 =>
        (sk_getr w2 v4 3 0).bind fun v5 =>
        (sk_aldr w2 v5 x1).bind fun v6 =>
        if sk_isO w2 v6 2 = true then
        sk_ci (sk_c d 27 [.ref v6] w2) fun v8 w7 =>
        if sk_cond .eq v8 (sj 0) = true then
          (sk_getr w7 x0 10 4).bind fun v9 =>
          (sk_getr w7 x0 10 1).bind fun v10 =>
          if sk_isO w7 v9 1 = true then
          sk_cv (sk_c d 20 [.ref v9, .ref v10, .ref v6] w7) fun w11 =>
          (sk_getr w11 x0 10 4).bind fun v12 =>
          (sk_getr w11 v12 1 0).bind fun v13 =>
          (sk_geti w11 v13 7 0).bind fun v14 =>
          if sk_cond .ne v14 (sj 0) = true then
            if Int32.toInt x2 = 0 then
              (sk_geti w11 v13 7 1).bind fun v15 =>
              some (some (.int v15), w11)
            else if Int32.toInt x2 = 1 then
              (sk_geti w11 v13 7 2).bind fun v16 =>
              some (some (.int v16), w11)
            else if Int32.toInt x2 = 2 then
              (sk_geti w11 v13 7 3).bind fun v17 =>
              if sk_cond .eq v17 (sj 0) = true then
                some (some (.int (sj 0)), w11)
              else
                some (some (.int (sj 1)), w11)
            else 
              (sk_geti w11 v13 7 4).bind fun v18 =>
              if sk_cond .eq v18 (sj (-1)) = true then
                some (some (.int (sj 0)), w11)
              else
                some (some (.int (sj 1)), w11)
          else
            some (some (.int (sj (-1))), w11) else none
        else
          some (some (.int (sj (-3))), w7) else none
      else
        some (some (.int (sj (-2))), w2) else none := by
  have h : sk_c (d + 1) 111 [.ref x0, .int x1, .int x2] w = sk_D111 d 0 [some (.ref x0), some (.int x1), some (.int x2), none, none] [] w := rfl
  rw [h]
  exact sk_unf (sk_c d) sk_fields false sk_t111 [] 2000 rfl
/-- SkylineNester.lay(I)I -/
noncomputable abbrev sk_D112 (d : Nat) : sk_K := sk_den (sk_c d) sk_fields false sk_t112
set_option maxRecDepth 100000 in
theorem sk_e112 (d : Nat) (x0 : Nat) (x1 : Int32) (w : sk_W) : sk_c (d + 1) 112 [.ref x0, .int x1] w =
  if sk_cond .ne x1 (sj (-1)) = true then
    (sk_getr w x0 10 1).bind fun v1 =>
    if sk_isO w v1 3 = true then
    sk_ci (sk_c d 39 [.ref v1, .int x1] w) fun v3 w2 =>
    if sk_cond .ne v3 (sj 0) = true then
      (sk_getr w2 x0 10 1).bind fun v4 =>
      (sk_getr w2 v4 3 0).bind fun v5 =>
      (sk_aldr w2 v5 x1).bind fun v6 =>
      if sk_isO w2 v6 2 = true then
      sk_ci (sk_c d 27 [.ref v6] w2) fun v8 w7 =>
      if sk_cond .eq v8 (sj 0) = true then
        (sk_getr w7 x0 10 4).bind fun v9 =>
        (sk_getr w7 x0 10 1).bind fun v10 =>
        if sk_isO w7 v9 1 = true then
        sk_ci (sk_c d 19 [.ref v9, .ref v10, .ref v6] w7) fun v12 w11 =>
        if sk_cond .eq v12 (sj 0) = true then
          some (some (.int (sj (-1))), w11)
        else
          (sk_geti w11 v6 2 6).bind fun v13 =>
          some (some (.int v13), w11) else none
      else
        some (some (.int (sj (-3))), w7) else none
    else
      some (some (.int (sj (-2))), w2) else none
  else
    (sk_getr w x0 10 1).bind fun v14 =>
    if sk_isO w v14 3 = true then
    sk_cv (sk_c d 38 [.ref v14] w) fun w15 =>
    some (some (.int (sj 0)), w15) else none := by
  have h : sk_c (d + 1) 112 [.ref x0, .int x1] w = sk_D112 d 0 [some (.ref x0), some (.int x1), none] [] w := rfl
  rw [h]
  exact sk_unf (sk_c d) sk_fields false sk_t112 [] 2000 rfl
/-- SkylineNester.run()I -/
noncomputable abbrev sk_D113 (d : Nat) : sk_K := sk_den (sk_c d) sk_fields false sk_t113
set_option maxRecDepth 100000 in
theorem sk_e113 (d : Nat) (x0 : Nat) (w : sk_W) : sk_c (d + 1) 113 [.ref x0] w =
  (sk_getr w x0 10 4).bind fun v1 =>
  (sk_getr w x0 10 1).bind fun v2 =>
  if sk_isO w v1 1 = true then
  sk_ci (sk_c d 18 [.ref v1, .ref v2] w) fun v4 w3 =>
  some (some (.int v4), w3) else none := by
  have h : sk_c (d + 1) 113 [.ref x0] w = sk_D113 d 0 [some (.ref x0)] [] w := rfl
  rw [h]
  exact sk_unf (sk_c d) sk_fields false sk_t113 [] 2000 rfl
/-- SkylineNester.sky(II)I -/
noncomputable abbrev sk_D114 (d : Nat) : sk_K := sk_den (sk_c d) sk_fields false sk_t114
set_option maxRecDepth 100000 in
theorem sk_e114 (d : Nat) (x0 : Nat) (x1 : Int32) (x2 : Int32) (w : sk_W) : sk_c (d + 1) 114 [.ref x0, .int x1, .int x2] w =
  if sk_cond .lt x2 (sj 0) = true then
    some (some (.int (sj (-2))), w)
  else
    if sk_cond .le x2 (sj 2) = true then
      if sk_cond .ne x1 (sj (-1)) = true then
        if sk_cond .ge x1 (sj 0) = true then
          (sk_getr w x0 10 1).bind fun v1 =>
          if sk_isO w v1 3 = true then
          sk_ci (sk_c d 49 [.ref v1, .int x1] w) fun v3 w2 =>
          sk_D114 d 41 [some (.ref x0), some (.int x1), some (.int x2), none] [.int v3] w2 else none
        else
          sk_D114 d 41 [some (.ref x0), some (.int x1), some (.int x2), none] [.int (sj (-1))] w
      else
        (sk_getr w x0 10 1).bind fun v4 =>
        if sk_isO w v4 3 = true then
        sk_ci (sk_c d 48 [.ref v4] w) fun v6 w5 =>
        some (some (.int v6), w5) else none
    else
      some (some (.int (sj (-2))), w) := by
  have h : sk_c (d + 1) 114 [.ref x0, .int x1, .int x2] w = sk_D114 d 0 [some (.ref x0), some (.int x1), some (.int x2), none] [] w := rfl
  rw [h]
  exact sk_unf (sk_c d) sk_fields false sk_t114 [41] 2000 rfl
set_option maxRecDepth 100000 in
theorem sk_e114_41 (d : Nat) (x0 : Nat) (o1 : Option Value) (x2 : Int32) (s0 : Int32) (w : sk_W) : sk_D114 d 41 [some (.ref x0), o1, some (.int x2), none] [.int s0] w =
  if sk_cond .ne s0 (sj (-1)) = true then
    if sk_cond .ne x2 (sj 0) = true then
      if sk_cond .ne x2 (sj 1) = true then
        (sk_getr w x0 10 1).bind fun v1 =>
        (sk_getr w v1 3 2).bind fun v2 =>
        (sk_ald w v2 s0).bind fun v3 =>
        some (some (.int v3), w)
      else
        (sk_getr w x0 10 1).bind fun v4 =>
        if sk_isO w v4 3 = true then
        sk_ci (sk_c d 50 [.ref v4, .int s0] w) fun v6 w5 =>
        some (some (.int (v6 - s0)), w5) else none
    else
      some (some (.int s0), w)
  else
    some (some (.int (sj (-12))), w) := sk_unf (sk_c d) sk_fields false sk_t114 [41] 2000 rfl
/-- SkylineNester.waste(II)I -/
noncomputable abbrev sk_D115 (d : Nat) : sk_K := sk_den (sk_c d) sk_fields false sk_t115
set_option maxRecDepth 100000 in
theorem sk_e115 (d : Nat) (x0 : Nat) (x1 : Int32) (x2 : Int32) (w : sk_W) : sk_c (d + 1) 115 [.ref x0, .int x1, .int x2] w =
  if sk_cond .lt x2 (sj 0) = true then
    some (some (.int (sj (-2))), w)
  else
    if sk_cond .le x2 (sj 3) = true then
      (sk_getr w x0 10 1).bind fun v1 =>
      (sk_getr w v1 3 3).bind fun v2 =>
      if sk_cond .ne x1 (sj (-1)) = true then
        if sk_cond .lt x1 (sj 0) = true then
          some (some (.int (sj (-12))), w)
        else
          (sk_geti w v2 9 4).bind fun v3 =>
          if sk_cond .lt x1 v3 = true then
            if Int32.toInt x2 = 0 then
              (sk_getr w v2 9 0).bind fun v4 =>
              (sk_ald w v4 x1).bind fun v5 =>
              some (some (.int v5), w)
            else if Int32.toInt x2 = 1 then
              (sk_getr w v2 9 1).bind fun v6 =>
              (sk_ald w v6 x1).bind fun v7 =>
              some (some (.int v7), w)
            else if Int32.toInt x2 = 2 then
              (sk_getr w v2 9 2).bind fun v8 =>
              (sk_ald w v8 x1).bind fun v9 =>
              some (some (.int v9), w)
            else 
              (sk_getr w v2 9 3).bind fun v10 =>
              (sk_ald w v10 x1).bind fun v11 =>
              some (some (.int v11), w)
          else
            some (some (.int (sj (-12))), w)
      else
        (sk_geti w v2 9 4).bind fun v12 =>
        some (some (.int v12), w)
    else
      some (some (.int (sj (-2))), w) := by
  have h : sk_c (d + 1) 115 [.ref x0, .int x1, .int x2] w = sk_D115 d 0 [some (.ref x0), some (.int x1), some (.int x2), none] [] w := rfl
  rw [h]
  exact sk_unf (sk_c d) sk_fields false sk_t115 [] 2000 rfl
/-- SkylineNester.bound(I)I -/
noncomputable abbrev sk_D116 (d : Nat) : sk_K := sk_den (sk_c d) sk_fields false sk_t116
set_option maxRecDepth 100000 in
theorem sk_e116 (d : Nat) (x0 : Nat) (x1 : Int32) (w : sk_W) : sk_c (d + 1) 116 [.ref x0, .int x1] w =
  if sk_cond .lt x1 (sj 0) = true then
    some (some (.int (sj (-2))), w)
  else
    if sk_cond .lt x1 (sj 9) = true then
      (sk_getr w x0 10 1).bind fun v1 =>
      sk_ci (sk_c d 3 [.ref v1, .int x1] w) fun v3 w2 =>
      some (some (.int v3), w2)
    else
      some (some (.int (sj (-2))), w) := by
  have h : sk_c (d + 1) 116 [.ref x0, .int x1] w = sk_D116 d 0 [some (.ref x0), some (.int x1)] [] w := rfl
  rw [h]
  exact sk_unf (sk_c d) sk_fields false sk_t116 [] 2000 rfl
/-- SkylineNester.best(I)I -/
noncomputable abbrev sk_D117 (d : Nat) : sk_K := sk_den (sk_c d) sk_fields false sk_t117
set_option maxRecDepth 100000 in
theorem sk_e117 (d : Nat) (x0 : Nat) (x1 : Int32) (w : sk_W) : sk_c (d + 1) 117 [.ref x0, .int x1] w =
  (sk_getr w x0 10 1).bind fun v1 =>
  (sk_geti w v1 3 6).bind fun v2 =>
  if sk_cond .le v2 (sj 5) = true then
    if sk_cond .lt x1 (sj (-1)) = true then
      some (some (.int (sj (-12))), w)
    else
      (sk_getr w x0 10 1).bind fun v3 =>
      (sk_geti w v3 3 6).bind fun v4 =>
      if sk_cond .lt x1 v4 = true then
        (sk_getr w x0 10 3).bind fun v5 =>
        (sk_getr w x0 10 1).bind fun v6 =>
        if sk_isO w v5 3 = true then
        sk_cv (sk_c d 36 [.ref v5, .ref v6] w) fun w7 =>
        (sk_getr w7 x0 10 5).bind fun v8 =>
        (sk_getr w7 x0 10 3).bind fun v9 =>
        (sk_getr w7 x0 10 4).bind fun v10 =>
        if sk_isO w7 v8 5 = true then
        sk_cv (sk_c d 69 [.ref v8, .ref v9, .ref v10] w7) fun w11 =>
        (sk_getr w11 x0 10 5).bind fun v12 =>
        (sk_geti w11 v12 5 1).bind fun v13 =>
        if sk_cond .ne v13 (sj (-1)) = true then
          if sk_cond .ne x1 (sj (-1)) = true then
            (sk_getr w11 x0 10 5).bind fun v14 =>
            (sk_getr w11 v14 5 0).bind fun v15 =>
            (sk_ald w11 v15 x1).bind fun v16 =>
            some (some (.int v16), w11)
          else
            (sk_getr w11 x0 10 5).bind fun v17 =>
            (sk_geti w11 v17 5 1).bind fun v18 =>
            some (some (.int v18), w11)
        else
          some (some (.int (sj (-1))), w11) else none else none
      else
        some (some (.int (sj (-12))), w)
  else
    some (some (.int (sj (-3))), w) := by
  have h : sk_c (d + 1) 117 [.ref x0, .int x1] w = sk_D117 d 0 [some (.ref x0), some (.int x1)] [] w := rfl
  rw [h]
  exact sk_unf (sk_c d) sk_fields false sk_t117 [] 2000 rfl
/-- SkylineNester.layouts(I)I -/
noncomputable abbrev sk_D118 (d : Nat) : sk_K := sk_den (sk_c d) sk_fields false sk_t118
set_option maxRecDepth 100000 in
theorem sk_e118 (d : Nat) (x0 : Nat) (x1 : Int32) (w : sk_W) : sk_c (d + 1) 118 [.ref x0, .int x1] w =
  if sk_cond .lt x1 (sj 0) = true then
    some (some (.int (sj (-2))), w)
  else
    if sk_cond .le x1 (sj 1) = true then
      (sk_getr w x0 10 1).bind fun v1 =>
      (sk_geti w v1 3 6).bind fun v2 =>
      if sk_cond .le v2 (sj 5) = true then
        (sk_getr w x0 10 3).bind fun v3 =>
        (sk_getr w x0 10 1).bind fun v4 =>
        if sk_isO w v3 3 = true then
        sk_cv (sk_c d 36 [.ref v3, .ref v4] w) fun w5 =>
        (sk_getr w5 x0 10 5).bind fun v6 =>
        (sk_getr w5 x0 10 3).bind fun v7 =>
        (sk_getr w5 x0 10 4).bind fun v8 =>
        if sk_isO w5 v6 5 = true then
        sk_cv (sk_c d 70 [.ref v6, .ref v7, .ref v8] w5) fun w9 =>
        if sk_cond .ne x1 (sj 0) = true then
          (sk_getr w9 x0 10 5).bind fun v10 =>
          if sk_isO w9 v10 5 = true then
          sk_ci (sk_c d 71 [.ref v10] w9) fun v12 w11 =>
          some (some (.int v12), w11) else none
        else
          (sk_getr w9 x0 10 5).bind fun v13 =>
          (sk_geti w9 v13 5 2).bind fun v14 =>
          some (some (.int v14), w9) else none else none
      else
        some (some (.int (sj (-3))), w)
    else
      some (some (.int (sj (-2))), w) := by
  have h : sk_c (d + 1) 118 [.ref x0, .int x1] w = sk_D118 d 0 [some (.ref x0), some (.int x1)] [] w := rfl
  rw [h]
  exact sk_unf (sk_c d) sk_fields false sk_t118 [] 2000 rfl
/-- SkylineNester.stages()I -/
noncomputable abbrev sk_D119 (d : Nat) : sk_K := sk_den (sk_c d) sk_fields false sk_t119
set_option maxRecDepth 100000 in
theorem sk_e119 (d : Nat) (x0 : Nat) (w : sk_W) : sk_c (d + 1) 119 [.ref x0] w =
  (sk_getr w x0 10 6).bind fun v1 =>
  (sk_getr w x0 10 1).bind fun v2 =>
  if sk_isO w v1 0 = true then
  sk_cv (sk_c d 11 [.ref v1, .ref v2] w) fun w3 =>
  (sk_getr w3 x0 10 6).bind fun v4 =>
  if sk_isO w3 v4 0 = true then
  sk_ci (sk_c d 12 [.ref v4] w3) fun v6 w5 =>
  some (some (.int v6), w5) else none else none := by
  have h : sk_c (d + 1) 119 [.ref x0] w = sk_D119 d 0 [some (.ref x0)] [] w := rfl
  rw [h]
  exact sk_unf (sk_c d) sk_fields false sk_t119 [] 2000 rfl
/-- SkylineNester.centre(I)I -/
noncomputable abbrev sk_D120 (d : Nat) : sk_K := sk_den (sk_c d) sk_fields false sk_t120
set_option maxRecDepth 100000 in
theorem sk_e120 (d : Nat) (x0 : Nat) (x1 : Int32) (w : sk_W) : sk_c (d + 1) 120 [.ref x0, .int x1] w =
  if sk_cond .lt x1 (sj 0) = true then
    some (some (.int (sj (-2))), w)
  else
    if sk_cond .le x1 (sj 2) = true then
      (sk_getr w x0 10 1).bind fun v1 =>
      if sk_isO w v1 3 = true then
      sk_ci (sk_c d 42 [.ref v1] w) fun v3 w2 =>
      if sk_cond .ne v3 (sj 0) = true then
        if sk_cond .ne x1 (sj 2) = true then
          (sk_getr w2 x0 10 1).bind fun v4 =>
          if sk_cond .ne x1 (sj 1) = true then
            if sk_isO w2 v4 3 = true then
            sk_cf (sk_c d 58 [.ref v4, .int (sj 0)] w2) fun v6 w5 =>
            sk_ci (sk_c d 139 [.float v6] w5) fun v8 w7 =>
            some (some (.int v8), w7) else none
          else
            if sk_isO w2 v4 3 = true then
            sk_cf (sk_c d 58 [.ref v4, .int (sj 1)] w2) fun v10 w9 =>
            sk_ci (sk_c d 139 [.float v10] w9) fun v12 w11 =>
            some (some (.int v12), w11) else none
        else
          (sk_getr w2 x0 10 1).bind fun v13 =>
          if sk_isO w2 v13 3 = true then
          sk_cf (sk_c d 59 [.ref v13] w2) fun v15 w14 =>
          sk_ci (sk_c d 139 [.float v15] w14) fun v17 w16 =>
          some (some (.int v17), w16) else none
      else
        some (some (.int (sj (-3))), w2) else none
    else
      some (some (.int (sj (-2))), w) := by
  have h : sk_c (d + 1) 120 [.ref x0, .int x1] w = sk_D120 d 0 [some (.ref x0), some (.int x1)] [] w := rfl
  rw [h]
  exact sk_unf (sk_c d) sk_fields false sk_t120 [] 2000 rfl
/-- SkylineNester.drawn(II)I -/
noncomputable abbrev sk_D121 (d : Nat) : sk_K := sk_den (sk_c d) sk_fields false sk_t121
set_option maxRecDepth 100000 in
theorem sk_e121 (d : Nat) (x0 : Nat) (x1 : Int32) (x2 : Int32) (w : sk_W) : sk_c (d + 1) 121 [.ref x0, .int x1, .int x2] w =
  if sk_cond .lt x2 (sj 0) = true then
    some (some (.int (sj (-2))), w)
  else
    if sk_cond .le x2 (sj 20) = true then
      if sk_isO w x0 10 = true then
      sk_ci (sk_c d 141 [.ref x0, .int x1, .int x2] w) fun v2 w1 =>
      some (some (.int v2), w1) else none
    else
      some (some (.int (sj (-2))), w) := by
  have h : sk_c (d + 1) 121 [.ref x0, .int x1, .int x2] w = sk_D121 d 0 [some (.ref x0), some (.int x1), some (.int x2)] [] w := rfl
  rw [h]
  exact sk_unf (sk_c d) sk_fields false sk_t121 [] 2000 rfl
/-- SkylineNester.chance(IIII)I -/
noncomputable abbrev sk_D122 (d : Nat) : sk_K := sk_den (sk_c d) sk_fields false sk_t122
set_option maxRecDepth 100000 in
theorem sk_e122 (d : Nat) (x0 : Nat) (x1 : Int32) (x2 : Int32) (x3 : Int32) (x4 : Int32) (w : sk_W) : sk_c (d + 1) 122 [.ref x0, .int x1, .int x2, .int x3, .int x4] w =
  if sk_cond .lt x2 (sj 1) = true then
    some (some (.int (sj (-2))), w)
  else
    if sk_cond .gt x2 (sj 8) = true then
      some (some (.int (sj (-2))), w)
    else
      if sk_cond .lt x3 (sj 0) = true then
        some (some (.int (sj (-2))), w)
      else
        if sk_cond .lt x4 (sj 0) = true then
          some (some (.int (sj (-2))), w)
        else
          if sk_cond .le x4 (sj 1) = true then
            sk_D122 d 35 [some (.ref x0), some (.int x1), some (.int x2), some (.int x3), some (.int x4), some (.int (sj 0)), some (.int (sj 0))] [] w
          else
            some (some (.int (sj (-2))), w) := by
  have h : sk_c (d + 1) 122 [.ref x0, .int x1, .int x2, .int x3, .int x4] w = sk_D122 d 0 [some (.ref x0), some (.int x1), some (.int x2), some (.int x3), some (.int x4), none, none] [] w := rfl
  rw [h]
  exact sk_unf (sk_c d) sk_fields false sk_t122 [35] 2000 rfl
set_option maxRecDepth 100000 in
theorem sk_e122_35 (d : Nat) (x0 : Nat) (x1 : Int32) (x2 : Int32) (x3 : Int32) (x4 : Int32) (x5 : Int32) (x6 : Int32) (w : sk_W) : sk_D122 d 35 [some (.ref x0), some (.int x1), some (.int x2), some (.int x3), some (.int x4), some (.int x5), some (.int x6)] [] w =
  if sk_cond .ge x6 x2 = true then
    sk_ci (sk_c d 138 [.int x5, .int x2] w) fun v2 w1 =>
    if sk_cond .ne x4 (sj 0) = true then
      if v2 = 0 then none else
      some (some (.int (x2 / v2)), w1)
    else
      if v2 = 0 then none else
      some (some (.int (x5 / v2)), w1)
  else
    if sk_isO w x0 10 = true then
    sk_ci (sk_c d 141 [.ref x0, .int (x1 + x6), .int (sj 6)] w) fun v4 w3 =>
    if sk_cond .gt v4 x3 = true then
      sk_D122 d 35 [some (.ref x0), some (.int x1), some (.int x2), some (.int x3), some (.int x4), some (.int x5), some (.int (x6 + (sj 1)))] [] w3
    else
      sk_D122 d 35 [some (.ref x0), some (.int x1), some (.int x2), some (.int x3), some (.int x4), some (.int (x5 + (sj 1))), some (.int (x6 + (sj 1)))] [] w3 else none := sk_unf (sk_c d) sk_fields false sk_t122 [35] 2000 rfl
/-- SkylineNester.tells(II)I -/
noncomputable abbrev sk_D123 (d : Nat) : sk_K := sk_den (sk_c d) sk_fields false sk_t123
set_option maxRecDepth 100000 in
theorem sk_e123 (d : Nat) (x0 : Nat) (x1 : Int32) (x2 : Int32) (w : sk_W) : sk_c (d + 1) 123 [.ref x0, .int x1, .int x2] w =
  sk_ci (sk_c d 136 [.int x1] w) fun v2 w1 =>
  if sk_cond .eq v2 (sj 0) = true then
    some (some (.int (sj (-2))), w1)
  else
    if sk_cond .lt x2 (sj 0) = true then
      some (some (.int (sj (-2))), w1)
    else
      if sk_cond .le x2 (sj 2) = true then
        (sk_getr w1 x0 10 8).bind fun v3 =>
        (sk_aldr w1 v3 x1).bind fun v4 =>
        if sk_isO w1 v4 6 = true then
        sk_ci (sk_c d 79 [.ref v4] w1) fun v6 w5 =>
        if sk_cond .eq v6 (sj 0) = true then
          (sk_geti w5 v4 6 2).bind fun v7 =>
          if sk_cond .le v7 (sj 20) = true then
            if sk_cond .ne x2 (sj 0) = true then
              (sk_getr w5 x0 10 3).bind fun v8 =>
              (sk_getr w5 x0 10 1).bind fun v9 =>
              if sk_isO w5 v8 3 = true then
              sk_cv (sk_c d 36 [.ref v8, .ref v9] w5) fun w10 =>
              if sk_cond .ne x2 (sj 1) = true then
                if sk_isO w10 x0 10 = true then
                sk_ci (sk_c d 143 [.ref x0, .ref v4] w10) fun v12 w11 =>
                some (some (.int v12), w11) else none
              else
                if sk_isO w10 x0 10 = true then
                sk_ci (sk_c d 142 [.ref x0, .ref v4] w10) fun v14 w13 =>
                some (some (.int v14), w13) else none else none
            else
              (sk_getr w5 x0 10 1).bind fun v15 =>
              if sk_isO w5 v4 6 = true then
              sk_ci (sk_c d 81 [.ref v4, .ref v15] w5) fun v17 w16 =>
              some (some (.int v17), w16) else none
          else
            some (some (.int (sj (-2))), w5)
        else
          some (some (.int (sj (-11))), w5) else none
      else
        some (some (.int (sj (-2))), w1) := by
  have h : sk_c (d + 1) 123 [.ref x0, .int x1, .int x2] w = sk_D123 d 0 [some (.ref x0), some (.int x1), some (.int x2), none] [] w := rfl
  rw [h]
  exact sk_unf (sk_c d) sk_fields false sk_t123 [] 2000 rfl
/-- SkylineNester.rack(III)I -/
noncomputable abbrev sk_D124 (d : Nat) : sk_K := sk_den (sk_c d) sk_fields false sk_t124
set_option maxRecDepth 100000 in
theorem sk_e124 (d : Nat) (x0 : Nat) (x1 : Int32) (x2 : Int32) (x3 : Int32) (w : sk_W) : sk_c (d + 1) 124 [.ref x0, .int x1, .int x2, .int x3] w =
  sk_ci (sk_c d 136 [.int x1] w) fun v2 w1 =>
  if sk_cond .eq v2 (sj 0) = true then
    some (some (.int (sj (-2))), w1)
  else
    sk_ci (sk_c d 135 [.int x2] w1) fun v4 w3 =>
    if sk_cond .eq v4 (sj 0) = true then
      some (some (.int (sj (-2))), w3)
    else
      if sk_cond .le x3 (sj 10) = true then
        if sk_cond .ge x3 (sj 0) = true then
          (sk_getr w3 x0 10 7).bind fun v5 =>
          (sk_aldr w3 v5 x1).bind fun v6 =>
          if sk_isO w3 v6 4 = true then
          sk_cv (sk_c d 64 [.ref v6, .int x2, .int x3] w3) fun w7 =>
          some (some (.int (sj 1)), w7) else none
        else
          some (some (.int (sj (-14))), w3)
      else
        some (some (.int (sj (-2))), w3) := by
  have h : sk_c (d + 1) 124 [.ref x0, .int x1, .int x2, .int x3] w = sk_D124 d 0 [some (.ref x0), some (.int x1), some (.int x2), some (.int x3)] [] w := rfl
  rw [h]
  exact sk_unf (sk_c d) sk_fields false sk_t124 [] 2000 rfl
/-- SkylineNester.puts(III)I -/
noncomputable abbrev sk_D125 (d : Nat) : sk_K := sk_den (sk_c d) sk_fields false sk_t125
set_option maxRecDepth 100000 in
theorem sk_e125 (d : Nat) (x0 : Nat) (x1 : Int32) (x2 : Int32) (x3 : Int32) (w : sk_W) : sk_c (d + 1) 125 [.ref x0, .int x1, .int x2, .int x3] w =
  sk_ci (sk_c d 136 [.int x1] w) fun v2 w1 =>
  if sk_cond .eq v2 (sj 0) = true then
    some (some (.int (sj (-2))), w1)
  else
    if sk_cond .eq x3 (sj (-1)) = true then
      sk_D125 d 26 [some (.ref x0), some (.int x1), some (.int x2), some (.int x3), none] [] w1
    else
      (sk_getr w1 x0 10 1).bind fun v3 =>
      if sk_isO w1 v3 3 = true then
      sk_ci (sk_c d 39 [.ref v3, .int x3] w1) fun v5 w4 =>
      if sk_cond .ne v5 (sj 0) = true then
        sk_D125 d 26 [some (.ref x0), some (.int x1), some (.int x2), some (.int x3), none] [] w4
      else
        some (some (.int (sj (-2))), w4) else none := by
  have h : sk_c (d + 1) 125 [.ref x0, .int x1, .int x2, .int x3] w = sk_D125 d 0 [some (.ref x0), some (.int x1), some (.int x2), some (.int x3), none] [] w := rfl
  rw [h]
  exact sk_unf (sk_c d) sk_fields false sk_t125 [26] 2000 rfl
set_option maxRecDepth 100000 in
theorem sk_e125_26 (d : Nat) (x0 : Nat) (x1 : Int32) (x2 : Int32) (x3 : Int32) (w : sk_W) : sk_D125 d 26 [some (.ref x0), some (.int x1), some (.int x2), some (.int x3), none] [] w =
  (sk_getr w x0 10 7).bind fun v1 =>
  (sk_aldr w v1 x1).bind fun v2 =>
  if sk_isO w v2 4 = true then
  sk_ci (sk_c d 63 [.ref v2] w) fun v4 w3 =>
  if sk_cond .eq v4 (sj 0) = true then
    if sk_cond .lt x2 (sj 0) = true then
      some (some (.int (sj (-12))), w3)
    else
      (sk_geti w3 v2 4 2).bind fun v5 =>
      if sk_cond .lt x2 v5 = true then
        (sk_getr w3 x0 10 1).bind fun v6 =>
        if sk_isO w3 v2 4 = true then
        sk_ci (sk_c d 66 [.ref v2, .ref v6, .int x3] w3) fun v8 w7 =>
        if sk_cond .ne v8 (sj 0) = true then
          (sk_getr w7 v2 4 0).bind fun v9 =>
          (sk_ast w7 v9 x2 x3).bind fun w10 =>
          some (some (.int (sj 1)), w10)
        else
          some (some (.int (sj (-16))), w7) else none
      else
        some (some (.int (sj (-12))), w3)
  else
    some (some (.int (sj (-11))), w3) else none := sk_unf (sk_c d) sk_fields false sk_t125 [26] 2000 rfl
/-- SkylineNester.moved(IIIII)I -/
noncomputable abbrev sk_D126 (d : Nat) : sk_K := sk_den (sk_c d) sk_fields false sk_t126
set_option maxRecDepth 100000 in
theorem sk_e126 (d : Nat) (x0 : Nat) (x1 : Int32) (x2 : Int32) (x3 : Int32) (x4 : Int32) (x5 : Int32) (w : sk_W) : sk_c (d + 1) 126 [.ref x0, .int x1, .int x2, .int x3, .int x4, .int x5] w =
  sk_ci (sk_c d 136 [.int x1] w) fun v2 w1 =>
  if sk_cond .eq v2 (sj 0) = true then
    some (some (.int (sj (-2))), w1)
  else
    sk_ci (sk_c d 136 [.int x3] w1) fun v4 w3 =>
    if sk_cond .ne v4 (sj 0) = true then
      (sk_getr w3 x0 10 7).bind fun v5 =>
      (sk_aldr w3 v5 x1).bind fun v6 =>
      (sk_getr w3 x0 10 7).bind fun v7 =>
      (sk_aldr w3 v7 x3).bind fun v8 =>
      if sk_isO w3 v6 4 = true then
      sk_ci (sk_c d 63 [.ref v6] w3) fun v10 w9 =>
      if sk_cond .ne v10 (sj 0) = true then
        some (some (.int (sj (-11))), w9)
      else
        if sk_isO w9 v8 4 = true then
        sk_ci (sk_c d 63 [.ref v8] w9) fun v12 w11 =>
        if sk_cond .eq v12 (sj 0) = true then
          (sk_geti w11 v6 4 2).bind fun v13 =>
          sk_ci (sk_c d 137 [.int x2, .int x5, .int v13] w11) fun v15 w14 =>
          if sk_cond .eq v15 (sj 0) = true then
            some (some (.int (sj (-12))), w14)
          else
            (sk_geti w14 v8 4 2).bind fun v16 =>
            sk_ci (sk_c d 137 [.int x4, .int x5, .int v16] w14) fun v18 w17 =>
            if sk_cond .ne v18 (sj 0) = true then
              sk_D126 d 87 [some (.ref x0), some (.int x1), some (.int x2), some (.int x3), some (.int x4), some (.int x5), some (.ref v6), some (.ref v8), some (.int (sj 0))] [] w17
            else
              some (some (.int (sj (-12))), w17)
        else
          some (some (.int (sj (-11))), w11) else none else none
    else
      some (some (.int (sj (-2))), w3) := by
  have h : sk_c (d + 1) 126 [.ref x0, .int x1, .int x2, .int x3, .int x4, .int x5] w = sk_D126 d 0 [some (.ref x0), some (.int x1), some (.int x2), some (.int x3), some (.int x4), some (.int x5), none, none, none] [] w := rfl
  rw [h]
  exact sk_unf (sk_c d) sk_fields false sk_t126 [87] 2000 rfl
set_option maxRecDepth 100000 in
theorem sk_e126_87 (d : Nat) (x0 : Nat) (o1 : Option Value) (x2 : Int32) (o3 : Option Value) (x4 : Int32) (x5 : Int32) (x6 : Nat) (x7 : Nat) (x8 : Int32) (w : sk_W) : sk_D126 d 87 [some (.ref x0), o1, some (.int x2), o3, some (.int x4), some (.int x5), some (.ref x6), some (.ref x7), some (.int x8)] [] w =
  if sk_cond .ge x8 x5 = true then
    (sk_getr w x6 4 0).bind fun v1 =>
    (sk_getr w x7 4 0).bind fun v2 =>
    (sk_copy w v1 x2 v2 x4 x8).bind fun w3 =>
    some (some (.int x8), w3)
  else
    (sk_getr w x0 10 1).bind fun v4 =>
    (sk_getr w x6 4 0).bind fun v5 =>
    (sk_ald w v5 (x2 + x8)).bind fun v6 =>
    if sk_isO w x7 4 = true then
    sk_ci (sk_c d 66 [.ref x7, .ref v4, .int v6] w) fun v8 w7 =>
    if sk_cond .eq v8 (sj 0) = true then
      (sk_getr w7 x6 4 0).bind fun v9 =>
      (sk_getr w7 x7 4 0).bind fun v10 =>
      (sk_copy w7 v9 x2 v10 x4 x8).bind fun w11 =>
      some (some (.int x8), w11)
    else
      sk_D126 d 87 [some (.ref x0), o1, some (.int x2), o3, some (.int x4), some (.int x5), some (.ref x6), some (.ref x7), some (.int (x8 + (sj 1)))] [] w7 else none := sk_unf (sk_c d) sk_fields false sk_t126 [87] 2000 rfl
/-- SkylineNester.laid(II)I -/
noncomputable abbrev sk_D127 (d : Nat) : sk_K := sk_den (sk_c d) sk_fields false sk_t127
set_option maxRecDepth 100000 in
theorem sk_e127 (d : Nat) (x0 : Nat) (x1 : Int32) (x2 : Int32) (w : sk_W) : sk_c (d + 1) 127 [.ref x0, .int x1, .int x2] w =
  sk_ci (sk_c d 136 [.int x1] w) fun v2 w1 =>
  if sk_cond .ne v2 (sj 0) = true then
    (sk_getr w1 x0 10 7).bind fun v3 =>
    (sk_aldr w1 v3 x1).bind fun v4 =>
    if sk_isO w1 v4 4 = true then
    sk_ci (sk_c d 63 [.ref v4] w1) fun v6 w5 =>
    if sk_cond .eq v6 (sj 0) = true then
      if sk_cond .lt x2 (sj 0) = true then
        some (some (.int (sj (-12))), w5)
      else
        (sk_geti w5 v4 4 2).bind fun v7 =>
        if sk_cond .lt x2 v7 = true then
          (sk_getr w5 v4 4 0).bind fun v8 =>
          (sk_ald w5 v8 x2).bind fun v9 =>
          some (some (.int v9), w5)
        else
          some (some (.int (sj (-12))), w5)
    else
      some (some (.int (sj (-11))), w5) else none
  else
    some (some (.int (sj (-2))), w1) := by
  have h : sk_c (d + 1) 127 [.ref x0, .int x1, .int x2] w = sk_D127 d 0 [some (.ref x0), some (.int x1), some (.int x2), none] [] w := rfl
  rw [h]
  exact sk_unf (sk_c d) sk_fields false sk_t127 [] 2000 rfl
/-- SkylineNester.image()I -/
noncomputable abbrev sk_D128 (d : Nat) : sk_K := sk_den (sk_c d) sk_fields false sk_t128
set_option maxRecDepth 100000 in
theorem sk_e128 (d : Nat) (x0 : Nat) (w : sk_W) : sk_c (d + 1) 128 [.ref x0] w =
  (sk_getr w x0 10 2).bind fun v1 =>
  (sk_getr w x0 10 1).bind fun v2 =>
  if sk_isO w v1 3 = true then
  sk_cv (sk_c d 36 [.ref v1, .ref v2] w) fun w3 =>
  (sk_put w3 x0 10 9 (.int (sj 1))).bind fun w4 =>
  (sk_getr w4 x0 10 1).bind fun v5 =>
  (sk_geti w4 v5 3 5).bind fun v6 =>
  some (some (.int v6), w4) else none := by
  have h : sk_c (d + 1) 128 [.ref x0] w = sk_D128 d 0 [some (.ref x0)] [] w := rfl
  rw [h]
  exact sk_unf (sk_c d) sk_fields false sk_t128 [] 2000 rfl
/-- SkylineNester.back()I -/
noncomputable abbrev sk_D129 (d : Nat) : sk_K := sk_den (sk_c d) sk_fields false sk_t129
set_option maxRecDepth 100000 in
theorem sk_e129 (d : Nat) (x0 : Nat) (w : sk_W) : sk_c (d + 1) 129 [.ref x0] w =
  (sk_geti w x0 10 9).bind fun v1 =>
  if sk_cond .ne v1 (sj 0) = true then
    (sk_getr w x0 10 1).bind fun v2 =>
    (sk_getr w x0 10 2).bind fun v3 =>
    if sk_isO w v2 3 = true then
    sk_cv (sk_c d 36 [.ref v2, .ref v3] w) fun w4 =>
    if sk_isO w4 x0 10 = true then
    sk_cv (sk_c d 140 [.ref x0] w4) fun w5 =>
    (sk_getr w5 x0 10 1).bind fun v6 =>
    (sk_geti w5 v6 3 5).bind fun v7 =>
    some (some (.int v7), w5) else none else none
  else
    some (some (.int (sj (-3))), w) := by
  have h : sk_c (d + 1) 129 [.ref x0] w = sk_D129 d 0 [some (.ref x0)] [] w := rfl
  rw [h]
  exact sk_unf (sk_c d) sk_fields false sk_t129 [] 2000 rfl
/-- SkylineNester.count(I)I -/
noncomputable abbrev sk_D130 (d : Nat) : sk_K := sk_den (sk_c d) sk_fields false sk_t130
set_option maxRecDepth 100000 in
theorem sk_e130 (d : Nat) (x0 : Nat) (x1 : Int32) (w : sk_W) : sk_c (d + 1) 130 [.ref x0, .int x1] w =
  if Int32.toInt x1 = 0 then
    (sk_getr w x0 10 1).bind fun v1 =>
    (sk_geti w v1 3 5).bind fun v2 =>
    some (some (.int v2), w)
  else if Int32.toInt x1 = 1 then
    (sk_getr w x0 10 1).bind fun v3 =>
    (sk_geti w v3 3 6).bind fun v4 =>
    some (some (.int v4), w)
  else if Int32.toInt x1 = 2 then
    (sk_getr w x0 10 1).bind fun v5 =>
    if sk_isO w v5 3 = true then
    sk_ci (sk_c d 42 [.ref v5] w) fun v7 w6 =>
    some (some (.int v7), w6) else none
  else if Int32.toInt x1 = 3 then
    (sk_getr w x0 10 1).bind fun v8 =>
    if sk_isO w v8 3 = true then
    sk_ci (sk_c d 43 [.ref v8] w) fun v10 w9 =>
    some (some (.int v10), w9) else none
  else if Int32.toInt x1 = 4 then
    (sk_getr w x0 10 0).bind fun v11 =>
    (sk_geti w v11 8 1).bind fun v12 =>
    some (some (.int v12), w)
  else if Int32.toInt x1 = 5 then
    (sk_getr w x0 10 1).bind fun v13 =>
    (sk_geti w v13 3 4).bind fun v14 =>
    some (some (.int v14), w)
  else if Int32.toInt x1 = 6 then
    (sk_getr w x0 10 1).bind fun v15 =>
    if sk_isO w v15 3 = true then
    sk_ci (sk_c d 60 [.ref v15] w) fun v17 w16 =>
    some (some (.int v17), w16) else none
  else if Int32.toInt x1 = 7 then
    (sk_getr w x0 10 1).bind fun v18 =>
    if sk_isO w v18 3 = true then
    sk_ci (sk_c d 61 [.ref v18] w) fun v20 w19 =>
    some (some (.int v20), w19) else none
  else 
    some (some (.int (sj (-2))), w) := by
  have h : sk_c (d + 1) 130 [.ref x0, .int x1] w = sk_D130 d 0 [some (.ref x0), some (.int x1)] [] w := rfl
  rw [h]
  exact sk_unf (sk_c d) sk_fields false sk_t130 [] 2000 rfl
/-- SkylineNester.sheet(III)I -/
noncomputable abbrev sk_D131 (d : Nat) : sk_K := sk_den (sk_c d) sk_fields false sk_t131
set_option maxRecDepth 100000 in
theorem sk_e131 (d : Nat) (x0 : Nat) (x1 : Int32) (x2 : Int32) (x3 : Int32) (w : sk_W) : sk_c (d + 1) 131 [.ref x0, .int x1, .int x2, .int x3] w =
  sk_ci (sk_c d 136 [.int x1] w) fun v2 w1 =>
  if sk_cond .eq v2 (sj 0) = true then
    some (some (.int (sj (-2))), w1)
  else
    if sk_cond .lt x2 (sj (-1)) = true then
      some (some (.int (sj (-2))), w1)
    else
      if sk_cond .le x2 (sj 1) = true then
        if sk_cond .ne x2 (sj (-1)) = true then
          if sk_cond .le x3 (sj 40) = true then
            if sk_cond .ge x3 (sj 0) = true then
              (sk_getr w1 x0 10 8).bind fun v3 =>
              (sk_aldr w1 v3 x1).bind fun v4 =>
              if sk_isO w1 v4 6 = true then
              sk_cv (sk_c d 80 [.ref v4, .int x2, .int x3] w1) fun w5 =>
              some (some (.int (sj 1)), w5) else none
            else
              some (some (.int (sj (-14))), w1)
          else
            some (some (.int (sj (-2))), w1)
        else
          (sk_getr w1 x0 10 8).bind fun v6 =>
          (sk_aldr w1 v6 x1).bind fun v7 =>
          (sk_put w1 v7 6 1 (.int (sj (-1)))).bind fun w8 =>
          some (some (.int (sj 1)), w8)
      else
        some (some (.int (sj (-2))), w1) := by
  have h : sk_c (d + 1) 131 [.ref x0, .int x1, .int x2, .int x3] w = sk_D131 d 0 [some (.ref x0), some (.int x1), some (.int x2), some (.int x3)] [] w := rfl
  rw [h]
  exact sk_unf (sk_c d) sk_fields false sk_t131 [] 2000 rfl
/-- SkylineNester.put(III)I -/
noncomputable abbrev sk_D132 (d : Nat) : sk_K := sk_den (sk_c d) sk_fields false sk_t132
set_option maxRecDepth 100000 in
theorem sk_e132 (d : Nat) (x0 : Nat) (x1 : Int32) (x2 : Int32) (x3 : Int32) (w : sk_W) : sk_c (d + 1) 132 [.ref x0, .int x1, .int x2, .int x3] w =
  sk_ci (sk_c d 136 [.int x1] w) fun v2 w1 =>
  if sk_cond .ne v2 (sj 0) = true then
    (sk_getr w1 x0 10 8).bind fun v3 =>
    (sk_aldr w1 v3 x1).bind fun v4 =>
    if sk_isO w1 v4 6 = true then
    sk_ci (sk_c d 79 [.ref v4] w1) fun v6 w5 =>
    if sk_cond .eq v6 (sj 0) = true then
      if sk_cond .lt x2 (sj 0) = true then
        some (some (.int (sj (-12))), w5)
      else
        (sk_geti w5 v4 6 2).bind fun v7 =>
        if sk_cond .lt x2 v7 = true then
          (sk_getr w5 v4 6 0).bind fun v8 =>
          (sk_geti w5 v4 6 1).bind fun v9 =>
          if sk_cond .ne v9 (sj 0) = true then
            (sk_ast w5 v8 x2 x3).bind fun w10 =>
            some (some (.int (sj 1)), w10)
          else
            (sk_ast w5 v8 x2 (x3).toInt16.toInt32).bind fun w11 =>
            some (some (.int (sj 1)), w11)
        else
          some (some (.int (sj (-12))), w5)
    else
      some (some (.int (sj (-11))), w5) else none
  else
    some (some (.int (sj (-2))), w1) := by
  have h : sk_c (d + 1) 132 [.ref x0, .int x1, .int x2, .int x3] w = sk_D132 d 0 [some (.ref x0), some (.int x1), some (.int x2), some (.int x3), none] [] w := rfl
  rw [h]
  exact sk_unf (sk_c d) sk_fields false sk_t132 [] 2000 rfl
/-- SkylineNester.copy(IIIII)I -/
noncomputable abbrev sk_D133 (d : Nat) : sk_K := sk_den (sk_c d) sk_fields false sk_t133
set_option maxRecDepth 100000 in
theorem sk_e133 (d : Nat) (x0 : Nat) (x1 : Int32) (x2 : Int32) (x3 : Int32) (x4 : Int32) (x5 : Int32) (w : sk_W) : sk_c (d + 1) 133 [.ref x0, .int x1, .int x2, .int x3, .int x4, .int x5] w =
  sk_ci (sk_c d 136 [.int x1] w) fun v2 w1 =>
  if sk_cond .eq v2 (sj 0) = true then
    some (some (.int (sj (-2))), w1)
  else
    sk_ci (sk_c d 136 [.int x3] w1) fun v4 w3 =>
    if sk_cond .ne v4 (sj 0) = true then
      (sk_getr w3 x0 10 8).bind fun v5 =>
      (sk_aldr w3 v5 x1).bind fun v6 =>
      (sk_getr w3 x0 10 8).bind fun v7 =>
      (sk_aldr w3 v7 x3).bind fun v8 =>
      if sk_isO w3 v6 6 = true then
      sk_ci (sk_c d 79 [.ref v6] w3) fun v10 w9 =>
      if sk_cond .ne v10 (sj 0) = true then
        some (some (.int (sj (-11))), w9)
      else
        if sk_isO w9 v8 6 = true then
        sk_ci (sk_c d 79 [.ref v8] w9) fun v12 w11 =>
        if sk_cond .eq v12 (sj 0) = true then
          (sk_geti w11 v6 6 1).bind fun v13 =>
          (sk_geti w11 v8 6 1).bind fun v14 =>
          if sk_cond .eq v13 v14 = true then
            (sk_geti w11 v6 6 2).bind fun v15 =>
            sk_ci (sk_c d 137 [.int x2, .int x5, .int v15] w11) fun v17 w16 =>
            if sk_cond .eq v17 (sj 0) = true then
              some (some (.int (sj (-12))), w16)
            else
              (sk_geti w16 v8 6 2).bind fun v18 =>
              sk_ci (sk_c d 137 [.int x4, .int x5, .int v18] w16) fun v20 w19 =>
              if sk_cond .ne v20 (sj 0) = true then
                (sk_getr w19 v6 6 0).bind fun v21 =>
                (sk_getr w19 v8 6 0).bind fun v22 =>
                (sk_copy w19 v21 x2 v22 x4 x5).bind fun w23 =>
                some (some (.int x5), w23)
              else
                some (some (.int (sj (-12))), w19)
          else
            some (some (.int (sj (-13))), w11)
        else
          some (some (.int (sj (-11))), w11) else none else none
    else
      some (some (.int (sj (-2))), w3) := by
  have h : sk_c (d + 1) 133 [.ref x0, .int x1, .int x2, .int x3, .int x4, .int x5] w = sk_D133 d 0 [some (.ref x0), some (.int x1), some (.int x2), some (.int x3), some (.int x4), some (.int x5), none, none] [] w := rfl
  rw [h]
  exact sk_unf (sk_c d) sk_fields false sk_t133 [] 2000 rfl
/-- SkylineNester.isByte(I)Z -/
noncomputable abbrev sk_D134 (d : Nat) : sk_K := sk_den (sk_c d) sk_fields true sk_t134
set_option maxRecDepth 100000 in
theorem sk_e134 (d : Nat) (x0 : Int32) (w : sk_W) : sk_c (d + 1) 134 [.int x0] w =
  if sk_cond .lt x0 (sj 0) = true then
    some (some (.int (sj 0)), w)
  else
    if sk_cond .gt x0 (sj 255) = true then
      some (some (.int (sj 0)), w)
    else
      some (some (.int (sj 1)), w) := by
  have h : sk_c (d + 1) 134 [.int x0] w = sk_D134 d 0 [some (.int x0)] [] w := rfl
  rw [h]
  exact sk_unf (sk_c d) sk_fields true sk_t134 [] 2000 rfl
/-- SkylineNester.isKind(I)Z -/
noncomputable abbrev sk_D135 (d : Nat) : sk_K := sk_den (sk_c d) sk_fields true sk_t135
set_option maxRecDepth 100000 in
theorem sk_e135 (d : Nat) (x0 : Int32) (w : sk_W) : sk_c (d + 1) 135 [.int x0] w =
  if sk_cond .lt x0 (sj 0) = true then
    some (some (.int (sj 0)), w)
  else
    if sk_cond .ge x0 (sj 6) = true then
      some (some (.int (sj 0)), w)
    else
      some (some (.int (sj 1)), w) := by
  have h : sk_c (d + 1) 135 [.int x0] w = sk_D135 d 0 [some (.int x0)] [] w := rfl
  rw [h]
  exact sk_unf (sk_c d) sk_fields true sk_t135 [] 2000 rfl
/-- SkylineNester.isHolder(I)Z -/
noncomputable abbrev sk_D136 (d : Nat) : sk_K := sk_den (sk_c d) sk_fields true sk_t136
set_option maxRecDepth 100000 in
theorem sk_e136 (d : Nat) (x0 : Int32) (w : sk_W) : sk_c (d + 1) 136 [.int x0] w =
  if sk_cond .lt x0 (sj 0) = true then
    some (some (.int (sj 0)), w)
  else
    if sk_cond .ge x0 (sj 4) = true then
      some (some (.int (sj 0)), w)
    else
      some (some (.int (sj 1)), w) := by
  have h : sk_c (d + 1) 136 [.int x0] w = sk_D136 d 0 [some (.int x0)] [] w := rfl
  rw [h]
  exact sk_unf (sk_c d) sk_fields true sk_t136 [] 2000 rfl
/-- SkylineNester.isRange(III)Z -/
noncomputable abbrev sk_D137 (d : Nat) : sk_K := sk_den (sk_c d) sk_fields true sk_t137
set_option maxRecDepth 100000 in
theorem sk_e137 (d : Nat) (x0 : Int32) (x1 : Int32) (x2 : Int32) (w : sk_W) : sk_c (d + 1) 137 [.int x0, .int x1, .int x2] w =
  if sk_cond .lt x1 (sj 0) = true then
    some (some (.int (sj 0)), w)
  else
    if sk_cond .lt x0 (sj 0) = true then
      some (some (.int (sj 0)), w)
    else
      if sk_cond .gt x1 x2 = true then
        some (some (.int (sj 0)), w)
      else
        if sk_cond .gt x0 (x2 - x1) = true then
          some (some (.int (sj 0)), w)
        else
          some (some (.int (sj 1)), w) := by
  have h : sk_c (d + 1) 137 [.int x0, .int x1, .int x2] w = sk_D137 d 0 [some (.int x0), some (.int x1), some (.int x2)] [] w := rfl
  rw [h]
  exact sk_unf (sk_c d) sk_fields true sk_t137 [] 2000 rfl
/-- SkylineNester.greatestDivisor(II)I -/
noncomputable abbrev sk_D138 (d : Nat) : sk_K := sk_den (sk_c d) sk_fields false sk_t138
set_option maxRecDepth 100000 in
theorem sk_e138 (d : Nat) (x0 : Int32) (x1 : Int32) (w : sk_W) : sk_c (d + 1) 138 [.int x0, .int x1] w =
  sk_D138 d 7 [some (.int x0), some (.int x1), some (.int x0), some (.int x1), some (.int (sj 0)), none] [] w := by
  have h : sk_c (d + 1) 138 [.int x0, .int x1] w = sk_D138 d 0 [some (.int x0), some (.int x1), none, none, none, none] [] w := rfl
  rw [h]
  exact sk_unf (sk_c d) sk_fields false sk_t138 [7] 2000 rfl
set_option maxRecDepth 100000 in
theorem sk_e138_7 (d : Nat) (o0 : Option Value) (o1 : Option Value) (x2 : Int32) (x3 : Int32) (x4 : Int32) (o5 : Option Value) (w : sk_W) : sk_D138 d 7 [o0, o1, some (.int x2), some (.int x3), some (.int x4), o5] [] w =
  if sk_cond .ge x4 (sj 64) = true then
    some (some (.int x3), w)
  else
    if sk_cond .eq x2 (sj 0) = true then
      some (some (.int x3), w)
    else
      if x2 = 0 then none else
      sk_D138 d 7 [o0, o1, some (.int (x3 - (x3 / x2) * x2)), some (.int x2), some (.int (x4 + (sj 1))), some (.int (x3 - (x3 / x2) * x2))] [] w := sk_unf (sk_c d) sk_fields false sk_t138 [7] 2000 rfl
/-- SkylineNester.bitsOf(F)I -/
noncomputable abbrev sk_D139 (d : Nat) : sk_K := sk_den (sk_c d) sk_fields false sk_t139
set_option maxRecDepth 100000 in
theorem sk_e139 (d : Nat) (x0 : UInt32) (w : sk_W) : sk_c (d + 1) 139 [.float x0] w =
  sk_D139 d 7 [some (.float x0), some (.float x0), some (.int (sj 127)), some (.int (sj 0))] [] w := by
  have h : sk_c (d + 1) 139 [.float x0] w = sk_D139 d 0 [some (.float x0), none, none, none] [] w := rfl
  rw [h]
  exact sk_unf (sk_c d) sk_fields false sk_t139 [7, 34] 2000 rfl
set_option maxRecDepth 100000 in
theorem sk_e139_7 (d : Nat) (o0 : Option Value) (x1 : UInt32) (x2 : Int32) (x3 : Int32) (w : sk_W) : sk_D139 d 7 [o0, some (.float x1), some (.int x2), some (.int x3)] [] w =
  if sk_cond .ge x3 (sj 127) = true then
    sk_D139 d 34 [o0, some (.float x1), some (.int x2), some (.int (sj 0))] [] w
  else
    if sk_cond .lt (Op.cmpValue (FP.fcmp x1 FP.fconst2) .l) (sj 0) = true then
      sk_D139 d 34 [o0, some (.float x1), some (.int x2), some (.int (sj 0))] [] w
    else
      if (FP.fdiv x1 FP.fconst2) &&& 0x7fffffff ≤ 0x7f800000 then
      sk_D139 d 7 [o0, some (.float (FP.fdiv x1 FP.fconst2)), some (.int (x2 + (sj 1))), some (.int (x3 + (sj 1)))] [] w else none := sk_unf (sk_c d) sk_fields false sk_t139 [7, 34] 2000 rfl
set_option maxRecDepth 100000 in
theorem sk_e139_34 (d : Nat) (o0 : Option Value) (x1 : UInt32) (x2 : Int32) (x3 : Int32) (w : sk_W) : sk_D139 d 34 [o0, some (.float x1), some (.int x2), some (.int x3)] [] w =
  if sk_cond .ge x3 (sj 126) = true then
    if (FP.fsub x1 FP.fconst1) &&& 0x7fffffff ≤ 0x7f800000 then
    if (FP.fmul (FP.fsub x1 FP.fconst1) (UInt32.ofNat 1258291200)) &&& 0x7fffffff ≤ 0x7f800000 then
    some (some (.int ((x2 <<< ((sj 23) &&& 31)) + (FP.f2i (FP.fmul (FP.fsub x1 FP.fconst1) (UInt32.ofNat 1258291200))))), w) else none else none
  else
    if sk_cond .ge (Op.cmpValue (FP.fcmp x1 FP.fconst1) .g) (sj 0) = true then
      if (FP.fsub x1 FP.fconst1) &&& 0x7fffffff ≤ 0x7f800000 then
      if (FP.fmul (FP.fsub x1 FP.fconst1) (UInt32.ofNat 1258291200)) &&& 0x7fffffff ≤ 0x7f800000 then
      some (some (.int ((x2 <<< ((sj 23) &&& 31)) + (FP.f2i (FP.fmul (FP.fsub x1 FP.fconst1) (UInt32.ofNat 1258291200))))), w) else none else none
    else
      if (FP.fmul x1 FP.fconst2) &&& 0x7fffffff ≤ 0x7f800000 then
      sk_D139 d 34 [o0, some (.float (FP.fmul x1 FP.fconst2)), some (.int (x2 + (sj (-1)))), some (.int (x3 + (sj 1)))] [] w else none := sk_unf (sk_c d) sk_fields false sk_t139 [7, 34] 2000 rfl
/-- SkylineNester.emptyRacks()V -/
noncomputable abbrev sk_D140 (d : Nat) : sk_K := sk_den (sk_c d) sk_fields false sk_t140
set_option maxRecDepth 100000 in
theorem sk_e140 (d : Nat) (x0 : Nat) (w : sk_W) : sk_c (d + 1) 140 [.ref x0] w =
  sk_D140 d 2 [some (.ref x0), some (.int (sj 0))] [] w := by
  have h : sk_c (d + 1) 140 [.ref x0] w = sk_D140 d 0 [some (.ref x0), none] [] w := rfl
  rw [h]
  exact sk_unf (sk_c d) sk_fields false sk_t140 [2] 2000 rfl
set_option maxRecDepth 100000 in
theorem sk_e140_2 (d : Nat) (x0 : Nat) (x1 : Int32) (w : sk_W) : sk_D140 d 2 [some (.ref x0), some (.int x1)] [] w =
  if sk_cond .ge x1 (sj 4) = true then
    some (none, w)
  else
    (sk_getr w x0 10 7).bind fun v1 =>
    (sk_aldr w v1 x1).bind fun v2 =>
    if sk_isO w v2 4 = true then
    sk_cv (sk_c d 65 [.ref v2] w) fun w3 =>
    sk_D140 d 2 [some (.ref x0), some (.int (x1 + (sj 1)))] [] w3 else none := sk_unf (sk_c d) sk_fields false sk_t140 [2] 2000 rfl
/-- SkylineNester.topDrawn(II)I -/
noncomputable abbrev sk_D141 (d : Nat) : sk_K := sk_den (sk_c d) sk_fields false sk_t141
set_option maxRecDepth 100000 in
theorem sk_e141 (d : Nat) (x0 : Nat) (x1 : Int32) (x2 : Int32) (w : sk_W) : sk_c (d + 1) 141 [.ref x0, .int x1, .int x2] w =
  (sk_getr w x0 10 3).bind fun v1 =>
  (sk_getr w x0 10 1).bind fun v2 =>
  if sk_isO w v1 3 = true then
  sk_cv (sk_c d 36 [.ref v1, .ref v2] w) fun w3 =>
  (sk_getr w3 x0 10 3).bind fun v4 =>
  (sk_geti w3 v4 3 6).bind fun v5 =>
  sk_D141 d 25 [some (.ref x0), some (.int x1), some (.int x2), some (.int v5), some (.int x1), some (.int (sj 0)), none, none] [] w3 else none := by
  have h : sk_c (d + 1) 141 [.ref x0, .int x1, .int x2] w = sk_D141 d 0 [some (.ref x0), some (.int x1), some (.int x2), none, none, none, none, none] [] w := rfl
  rw [h]
  exact sk_unf (sk_c d) sk_fields false sk_t141 [25] 2000 rfl
set_option maxRecDepth 100000 in
theorem sk_e141_25 (d : Nat) (x0 : Nat) (o1 : Option Value) (x2 : Int32) (x3 : Int32) (x4 : Int32) (x5 : Int32) (o6 : Option Value) (o7 : Option Value) (w : sk_W) : sk_D141 d 25 [some (.ref x0), o1, some (.int x2), some (.int x3), some (.int x4), some (.int x5), o6, o7] [] w =
  if sk_cond .ge x5 x2 = true then
    (sk_getr w x0 10 4).bind fun v1 =>
    (sk_getr w x0 10 3).bind fun v2 =>
    if sk_isO w v1 1 = true then
    sk_ci (sk_c d 18 [.ref v1, .ref v2] w) fun v4 w3 =>
    (sk_getr w3 x0 10 3).bind fun v5 =>
    if sk_isO w3 v5 3 = true then
    sk_ci (sk_c d 43 [.ref v5] w3) fun v7 w6 =>
    some (some (.int v7), w6) else none else none
  else
    if sk_cond .le x3 (sj 0) = true then
      (sk_getr w x0 10 4).bind fun v8 =>
      (sk_getr w x0 10 3).bind fun v9 =>
      if sk_isO w v8 1 = true then
      sk_ci (sk_c d 18 [.ref v8, .ref v9] w) fun v11 w10 =>
      (sk_getr w10 x0 10 3).bind fun v12 =>
      if sk_isO w10 v12 3 = true then
      sk_ci (sk_c d 43 [.ref v12] w10) fun v14 w13 =>
      some (some (.int v14), w13) else none else none
    else
      if x3 = 0 then none else
      if x3 = 0 then none else
      (sk_getr w x0 10 3).bind fun v15 =>
      if sk_isO w v15 3 = true then
      sk_cv (sk_c d 47 [.ref v15, .int ((((x4 * (Int32.ofNat 1103515245)) + (sj 12345)).toUInt32 >>> ((sj 9).toUInt32 &&& Int32.toUInt32 31)).toInt32 - ((((x4 * (Int32.ofNat 1103515245)) + (sj 12345)).toUInt32 >>> ((sj 9).toUInt32 &&& Int32.toUInt32 31)).toInt32 / x3) * x3), .int ((((((x4 * (Int32.ofNat 1103515245)) + (sj 12345)) * (Int32.ofNat 1103515245)) + (sj 12345)).toUInt32 >>> ((sj 9).toUInt32 &&& Int32.toUInt32 31)).toInt32 - ((((((x4 * (Int32.ofNat 1103515245)) + (sj 12345)) * (Int32.ofNat 1103515245)) + (sj 12345)).toUInt32 >>> ((sj 9).toUInt32 &&& Int32.toUInt32 31)).toInt32 / x3) * x3)] w) fun w16 =>
      sk_D141 d 25 [some (.ref x0), o1, some (.int x2), some (.int x3), some (.int ((((x4 * (Int32.ofNat 1103515245)) + (sj 12345)) * (Int32.ofNat 1103515245)) + (sj 12345))), some (.int (x5 + (sj 1))), some (.int ((((x4 * (Int32.ofNat 1103515245)) + (sj 12345)).toUInt32 >>> ((sj 9).toUInt32 &&& Int32.toUInt32 31)).toInt32 - ((((x4 * (Int32.ofNat 1103515245)) + (sj 12345)).toUInt32 >>> ((sj 9).toUInt32 &&& Int32.toUInt32 31)).toInt32 / x3) * x3)), some (.int ((((((x4 * (Int32.ofNat 1103515245)) + (sj 12345)) * (Int32.ofNat 1103515245)) + (sj 12345)).toUInt32 >>> ((sj 9).toUInt32 &&& Int32.toUInt32 31)).toInt32 - ((((((x4 * (Int32.ofNat 1103515245)) + (sj 12345)) * (Int32.ofNat 1103515245)) + (sj 12345)).toUInt32 >>> ((sj 9).toUInt32 &&& Int32.toUInt32 31)).toInt32 / x3) * x3))] [] w16 else none := sk_unf (sk_c d) sk_fields false sk_t141 [25] 2000 rfl
/-- SkylineNester.rulesThatTell(LSkylineNester$Sheet;)I -/
noncomputable abbrev sk_D142 (d : Nat) : sk_K := sk_den (sk_c d) sk_fields false sk_t142
set_option maxRecDepth 100000 in
theorem sk_e142 (d : Nat) (x0 : Nat) (x1 : Nat) (w : sk_W) : sk_c (d + 1) 142 [.ref x0, .ref x1] w =
  sk_D142 d 4 [some (.ref x0), some (.ref x1), some (.int (sj 0)), some (.int (sj 0))] [] w := by
  have h : sk_c (d + 1) 142 [.ref x0, .ref x1] w = sk_D142 d 0 [some (.ref x0), some (.ref x1), none, none] [] w := rfl
  rw [h]
  exact sk_unf (sk_c d) sk_fields false sk_t142 [4] 2000 rfl
set_option maxRecDepth 100000 in
theorem sk_e142_4 (d : Nat) (x0 : Nat) (x1 : Nat) (x2 : Int32) (x3 : Int32) (w : sk_W) : sk_D142 d 4 [some (.ref x0), some (.ref x1), some (.int x2), some (.int x3)] [] w =
  if sk_cond .ge x3 (sj 4) = true then
    some (some (.int x2), w)
  else
    (sk_getr w x0 10 3).bind fun v1 =>
    (sk_put w v1 3 7 (.int x3)).bind fun w2 =>
    (sk_getr w2 x0 10 4).bind fun v3 =>
    (sk_getr w2 x0 10 3).bind fun v4 =>
    if sk_isO w2 v3 1 = true then
    sk_ci (sk_c d 18 [.ref v3, .ref v4] w2) fun v6 w5 =>
    (sk_getr w5 x0 10 3).bind fun v7 =>
    if sk_isO w5 x1 6 = true then
    sk_ci (sk_c d 81 [.ref x1, .ref v7] w5) fun v9 w8 =>
    if sk_cond .ne v9 (sj (-1)) = true then
      sk_D142 d 4 [some (.ref x0), some (.ref x1), some (.int x2), some (.int (x3 + (sj 1)))] [] w8
    else
      sk_D142 d 4 [some (.ref x0), some (.ref x1), some (.int (x2 ||| ((sj 1) <<< (x3 &&& 31)))), some (.int (x3 + (sj 1)))] [] w8 else none else none := sk_unf (sk_c d) sk_fields false sk_t142 [4] 2000 rfl
/-- SkylineNester.pairsThatTell(LSkylineNester$Sheet;)I -/
noncomputable abbrev sk_D143 (d : Nat) : sk_K := sk_den (sk_c d) sk_fields false sk_t143
set_option maxRecDepth 100000 in
theorem sk_e143 (d : Nat) (x0 : Nat) (x1 : Nat) (w : sk_W) : sk_c (d + 1) 143 [.ref x0, .ref x1] w =
  sk_D143 d 4 [some (.ref x0), some (.ref x1), some (.int (sj 0)), some (.int (sj 0)), none] [] w := by
  have h : sk_c (d + 1) 143 [.ref x0, .ref x1] w = sk_D143 d 0 [some (.ref x0), some (.ref x1), none, none, none] [] w := rfl
  rw [h]
  exact sk_unf (sk_c d) sk_fields false sk_t143 [4, 20] 2000 rfl
set_option maxRecDepth 100000 in
theorem sk_e143_4 (d : Nat) (x0 : Nat) (x1 : Nat) (x2 : Int32) (x3 : Int32) (o4 : Option Value) (w : sk_W) : sk_D143 d 4 [some (.ref x0), some (.ref x1), some (.int x2), some (.int x3), o4] [] w =
  (sk_getr w x0 10 3).bind fun v1 =>
  (sk_geti w v1 3 6).bind fun v2 =>
  if sk_cond .ge x3 v2 = true then
    some (some (.int x2), w)
  else
    sk_D143 d 20 [some (.ref x0), some (.ref x1), some (.int x2), some (.int x3), some (.int (x3 + (sj 1)))] [] w := sk_unf (sk_c d) sk_fields false sk_t143 [4, 20] 2000 rfl
set_option maxRecDepth 100000 in
theorem sk_e143_20 (d : Nat) (x0 : Nat) (x1 : Nat) (x2 : Int32) (x3 : Int32) (x4 : Int32) (w : sk_W) : sk_D143 d 20 [some (.ref x0), some (.ref x1), some (.int x2), some (.int x3), some (.int x4)] [] w =
  (sk_getr w x0 10 3).bind fun v1 =>
  (sk_geti w v1 3 6).bind fun v2 =>
  if sk_cond .ge x4 v2 = true then
    sk_D143 d 4 [some (.ref x0), some (.ref x1), some (.int x2), some (.int (x3 + (sj 1))), some (.int x4)] [] w
  else
    (sk_getr w x0 10 3).bind fun v3 =>
    if sk_isO w v3 3 = true then
    sk_cv (sk_c d 47 [.ref v3, .int x3, .int x4] w) fun w4 =>
    (sk_getr w4 x0 10 4).bind fun v5 =>
    (sk_getr w4 x0 10 3).bind fun v6 =>
    if sk_isO w4 v5 1 = true then
    sk_ci (sk_c d 18 [.ref v5, .ref v6] w4) fun v8 w7 =>
    (sk_getr w7 x0 10 3).bind fun v9 =>
    if sk_isO w7 x1 6 = true then
    sk_ci (sk_c d 81 [.ref x1, .ref v9] w7) fun v11 w10 =>
    if sk_cond .ne v11 (sj (-1)) = true then
      (sk_getr w10 x0 10 3).bind fun v12 =>
      if sk_isO w10 v12 3 = true then
      sk_cv (sk_c d 47 [.ref v12, .int x3, .int x4] w10) fun w13 =>
      sk_D143 d 20 [some (.ref x0), some (.ref x1), some (.int x2), some (.int x3), some (.int (x4 + (sj 1)))] [] w13 else none
    else
      (sk_getr w10 x0 10 3).bind fun v14 =>
      if sk_isO w10 v14 3 = true then
      sk_cv (sk_c d 47 [.ref v14, .int x3, .int x4] w10) fun w15 =>
      sk_D143 d 20 [some (.ref x0), some (.ref x1), some (.int (x2 + (sj 1))), some (.int x3), some (.int (x4 + (sj 1)))] [] w15 else none else none else none else none := sk_unf (sk_c d) sk_fields false sk_t143 [4, 20] 2000 rfl
/-- SkylineNesterModel.in(III)Z -/
noncomputable abbrev sk_D144 (d : Nat) : sk_K := sk_den (sk_c d) sk_fields true sk_t144
set_option maxRecDepth 100000 in
theorem sk_e144 (d : Nat) (x0 : Int32) (x1 : Int32) (x2 : Int32) (w : sk_W) : sk_c (d + 1) 144 [.int x0, .int x1, .int x2] w =
  if sk_cond .lt x0 x1 = true then
    some (some (.int (sj 0)), w)
  else
    if sk_cond .gt x0 x2 = true then
      some (some (.int (sj 0)), w)
    else
      some (some (.int (sj 1)), w) := by
  have h : sk_c (d + 1) 144 [.int x0, .int x1, .int x2] w = sk_D144 d 0 [some (.int x0), some (.int x1), some (.int x2)] [] w := rfl
  rw [h]
  exact sk_unf (sk_c d) sk_fields true sk_t144 [] 2000 rfl
/-- SkylineNesterModel.<init>()V -/
noncomputable abbrev sk_D145 (d : Nat) : sk_K := sk_den (sk_c d) sk_fields false sk_t145
set_option maxRecDepth 100000 in
theorem sk_e145 (d : Nat) (x0 : Nat) (w : sk_W) : sk_c (d + 1) 145 [.ref x0] w =
  (sk_put (w ++ .inr (.inl (3, 3, fun q => if q < 3 then some (List.length w + 1 + q) else none)) :: List.replicate 3 (.inl (1141, fun _ => 0))) x0 11 0 (.ref (List.length w))).bind fun w1 =>
  (sk_getr w1 x0 11 0).bind fun v2 =>
  (sk_aldr w1 v2 (sj 0)).bind fun v3 =>
  (sk_put w1 x0 11 1 (.ref v3)).bind fun w4 =>
  (sk_put (w4 ++ [.inl (60, fun _ => 0)]) x0 11 3 (.ref (List.length w4))).bind fun w5 =>
  (sk_put (w5 ++ [.inl (300, fun _ => 0)]) x0 11 5 (.ref (List.length w5))).bind fun w6 =>
  (sk_put (w6 ++ [.inl (10, fun _ => 0)]) x0 11 11 (.ref (List.length w6))).bind fun w7 =>
  (sk_put (w7 ++ [.inl (1220, fun _ => 0)]) x0 11 12 (.ref (List.length w7))).bind fun w8 =>
  (sk_put (w8 ++ [.inl (120, fun _ => 0)]) x0 11 13 (.ref (List.length w8))).bind fun w9 =>
  (sk_put (w9 ++ [.inl (10, fun _ => 0)]) x0 11 14 (.ref (List.length w9))).bind fun w10 =>
  (sk_put (w10 ++ [.inl (10, fun _ => 0)]) x0 11 15 (.ref (List.length w10))).bind fun w11 =>
  (sk_ast (w11 ++ [.inl (4, fun _ => 0)]) (List.length w11) (sj 0) (sj (-1))).bind fun w12 =>
  (sk_ast w12 (List.length w11) (sj 1) (sj (-1))).bind fun w13 =>
  (sk_ast w13 (List.length w11) (sj 2) (sj (-1))).bind fun w14 =>
  (sk_ast w14 (List.length w11) (sj 3) (sj (-1))).bind fun w15 =>
  (sk_put w15 x0 11 16 (.ref (List.length w11))).bind fun w16 =>
  (sk_put (w16 ++ [.inl (4, fun _ => 0)]) x0 11 17 (.ref (List.length w16))).bind fun w17 =>
  (sk_put (w17 ++ .inr (.inl (3, 4, fun q => if q < 4 then some (List.length w17 + 1 + q) else none)) :: List.replicate 4 (.inl (10, fun _ => 0))) x0 11 18 (.ref (List.length w17))).bind fun w18 =>
  (sk_put (w18 ++ [.inl (10, fun _ => 0)]) x0 11 19 (.ref (List.length w18))).bind fun w19 =>
  (sk_ast (w19 ++ [.inl (4, fun _ => 0)]) (List.length w19) (sj 0) (sj (-1))).bind fun w20 =>
  (sk_ast w20 (List.length w19) (sj 1) (sj (-1))).bind fun w21 =>
  (sk_ast w21 (List.length w19) (sj 2) (sj (-1))).bind fun w22 =>
  (sk_ast w22 (List.length w19) (sj 3) (sj (-1))).bind fun w23 =>
  (sk_put w23 x0 11 20 (.ref (List.length w19))).bind fun w24 =>
  (sk_put (w24 ++ [.inl (4, fun _ => 0)]) x0 11 21 (.ref (List.length w24))).bind fun w25 =>
  (sk_put (w25 ++ .inr (.inl (3, 4, fun q => if q < 4 then some (List.length w25 + 1 + q) else none)) :: List.replicate 4 (.inl (40, fun _ => 0))) x0 11 22 (.ref (List.length w25))).bind fun w26 =>
  (sk_put (w26 ++ [.inl (40, fun _ => 0)]) x0 11 23 (.ref (List.length w26))).bind fun w27 =>
  (sk_getr w27 x0 11 1).bind fun v28 =>
  (sk_ast w27 v28 (sj 0) (sj 10)).bind fun w29 =>
  (sk_getr w29 x0 11 1).bind fun v30 =>
  (sk_ast w29 v30 (sj 4) (sj 1)).bind fun w31 =>
  some (none, w31) := by
  have h : sk_c (d + 1) 145 [.ref x0] w = sk_D145 d 0 [some (.ref x0)] [] w := rfl
  rw [h]
  exact sk_unf (sk_c d) sk_fields false sk_t145 [] 2000 rfl
/-- SkylineNesterModel.keep(I)V -/
noncomputable abbrev sk_D146 (d : Nat) : sk_K := sk_den (sk_c d) sk_fields false sk_t146
set_option maxRecDepth 100000 in
theorem sk_e146 (d : Nat) (x0 : Nat) (x1 : Int32) (w : sk_W) : sk_c (d + 1) 146 [.ref x0, .int x1] w =
  (sk_getr w x0 11 1).bind fun v1 =>
  (sk_getr w x0 11 0).bind fun v2 =>
  (sk_aldr w v2 x1).bind fun v3 =>
  (sk_copy w v1 (sj 0) v3 (sj 0) (sj 1141)).bind fun w4 =>
  some (none, w4) := by
  have h : sk_c (d + 1) 146 [.ref x0, .int x1] w = sk_D146 d 0 [some (.ref x0), some (.int x1)] [] w := rfl
  rw [h]
  exact sk_unf (sk_c d) sk_fields false sk_t146 [] 2000 rfl
/-- SkylineNesterModel.layBack(I)V -/
noncomputable abbrev sk_D147 (d : Nat) : sk_K := sk_den (sk_c d) sk_fields false sk_t147
set_option maxRecDepth 100000 in
theorem sk_e147 (d : Nat) (x0 : Nat) (x1 : Int32) (w : sk_W) : sk_c (d + 1) 147 [.ref x0, .int x1] w =
  (sk_getr w x0 11 0).bind fun v1 =>
  (sk_aldr w v1 x1).bind fun v2 =>
  (sk_getr w x0 11 1).bind fun v3 =>
  (sk_copy w v2 (sj 0) v3 (sj 0) (sj 1141)).bind fun w4 =>
  some (none, w4) := by
  have h : sk_c (d + 1) 147 [.ref x0, .int x1] w = sk_D147 d 0 [some (.ref x0), some (.int x1)] [] w := rfl
  rw [h]
  exact sk_unf (sk_c d) sk_fields false sk_t147 [] 2000 rfl
/-- SkylineNesterModel.isPart(I)Z -/
noncomputable abbrev sk_D148 (d : Nat) : sk_K := sk_den (sk_c d) sk_fields true sk_t148
set_option maxRecDepth 100000 in
theorem sk_e148 (d : Nat) (x0 : Nat) (x1 : Int32) (w : sk_W) : sk_c (d + 1) 148 [.ref x0, .int x1] w =
  (sk_getr w x0 11 1).bind fun v1 =>
  (sk_ald w v1 (sj 1)).bind fun v2 =>
  sk_ci (sk_c d 144 [.int x1, .int (sj 0), .int (v2 - (sj 1))] w) fun v4 w3 =>
  if v4 = 0 ∨ v4 = 1 then some (some (.int v4), w3) else none := by
  have h : sk_c (d + 1) 148 [.ref x0, .int x1] w = sk_D148 d 0 [some (.ref x0), some (.int x1)] [] w := rfl
  rw [h]
  exact sk_unf (sk_c d) sk_fields true sk_t148 [] 2000 rfl
/-- SkylineNesterModel.isUnder(II)Z -/
noncomputable abbrev sk_D149 (d : Nat) : sk_K := sk_den (sk_c d) sk_fields true sk_t149
set_option maxRecDepth 100000 in
theorem sk_e149 (d : Nat) (x0 : Int32) (x1 : Int32) (w : sk_W) : sk_c (d + 1) 149 [.int x0, .int x1] w =
  if sk_cond .eq x1 (sj 0) = true then
    some (some (.int (sj 1)), w)
  else
    if sk_cond .ne x0 x1 = true then
      if sk_cond .ne x1 (sj 1) = true then
        if sk_cond .ne x1 (sj 2) = true then
          some (some (.int (sj 0)), w)
        else
          if sk_cond .ne x0 (sj 4) = true then
            some (some (.int (sj 0)), w)
          else
            some (some (.int (sj 1)), w)
      else
        if sk_cond .eq x0 (sj 3) = true then
          some (some (.int (sj 1)), w)
        else
          if sk_cond .ne x1 (sj 2) = true then
            some (some (.int (sj 0)), w)
          else
            if sk_cond .ne x0 (sj 4) = true then
              some (some (.int (sj 0)), w)
            else
              some (some (.int (sj 1)), w)
    else
      some (some (.int (sj 1)), w) := by
  have h : sk_c (d + 1) 149 [.int x0, .int x1] w = sk_D149 d 0 [some (.int x0), some (.int x1)] [] w := rfl
  rw [h]
  exact sk_unf (sk_c d) sk_fields true sk_t149 [] 2000 rfl
/-- SkylineNesterModel.mayTurn(I)Z -/
noncomputable abbrev sk_D150 (d : Nat) : sk_K := sk_den (sk_c d) sk_fields true sk_t150
set_option maxRecDepth 100000 in
theorem sk_e150 (d : Nat) (x0 : Nat) (x1 : Int32) (w : sk_W) : sk_c (d + 1) 150 [.ref x0, .int x1] w =
  (sk_getr w x0 11 1).bind fun v1 =>
  (sk_ald w v1 ((sj 7) + x1)).bind fun v2 =>
  sk_ci (sk_c d 149 [.int v2, .int (sj 1)] w) fun v4 w3 =>
  if sk_cond .eq v4 (sj 0) = true then
    some (some (.int (sj 0)), w3)
  else
    (sk_getr w3 x0 11 1).bind fun v5 =>
    (sk_ald w3 v5 ((sj 27) + x1)).bind fun v6 =>
    (sk_getr w3 x0 11 1).bind fun v7 =>
    (sk_ald w3 v7 (sj 0)).bind fun v8 =>
    if sk_cond .gt v6 v8 = true then
      some (some (.int (sj 0)), w3)
    else
      some (some (.int (sj 1)), w3) := by
  have h : sk_c (d + 1) 150 [.ref x0, .int x1] w = sk_D150 d 0 [some (.ref x0), some (.int x1)] [] w := rfl
  rw [h]
  exact sk_unf (sk_c d) sk_fields true sk_t150 [] 2000 rfl
/-- SkylineNesterModel.w(II)I -/
noncomputable abbrev sk_D151 (d : Nat) : sk_K := sk_den (sk_c d) sk_fields false sk_t151
set_option maxRecDepth 100000 in
theorem sk_e151 (d : Nat) (x0 : Nat) (x1 : Int32) (x2 : Int32) (w : sk_W) : sk_c (d + 1) 151 [.ref x0, .int x1, .int x2] w =
  if sk_cond .ne x2 (sj 0) = true then
    (sk_getr w x0 11 1).bind fun v1 =>
    (sk_ald w v1 ((sj 27) + x1)).bind fun v2 =>
    some (some (.int v2), w)
  else
    (sk_getr w x0 11 1).bind fun v3 =>
    (sk_ald w v3 ((sj 17) + x1)).bind fun v4 =>
    some (some (.int v4), w) := by
  have h : sk_c (d + 1) 151 [.ref x0, .int x1, .int x2] w = sk_D151 d 0 [some (.ref x0), some (.int x1), some (.int x2)] [] w := rfl
  rw [h]
  exact sk_unf (sk_c d) sk_fields false sk_t151 [] 2000 rfl
/-- SkylineNesterModel.t(II)I -/
noncomputable abbrev sk_D152 (d : Nat) : sk_K := sk_den (sk_c d) sk_fields false sk_t152
set_option maxRecDepth 100000 in
theorem sk_e152 (d : Nat) (x0 : Nat) (x1 : Int32) (x2 : Int32) (w : sk_W) : sk_c (d + 1) 152 [.ref x0, .int x1, .int x2] w =
  if sk_cond .ne x2 (sj 0) = true then
    (sk_getr w x0 11 1).bind fun v1 =>
    (sk_ald w v1 ((sj 17) + x1)).bind fun v2 =>
    sk_D152 d 25 [some (.ref x0), some (.int x1), some (.int x2), none] [.int v2] w
  else
    (sk_getr w x0 11 1).bind fun v3 =>
    (sk_ald w v3 ((sj 27) + x1)).bind fun v4 =>
    sk_D152 d 25 [some (.ref x0), some (.int x1), some (.int x2), none] [.int v4] w := by
  have h : sk_c (d + 1) 152 [.ref x0, .int x1, .int x2] w = sk_D152 d 0 [some (.ref x0), some (.int x1), some (.int x2), none] [] w := rfl
  rw [h]
  exact sk_unf (sk_c d) sk_fields false sk_t152 [25] 2000 rfl
set_option maxRecDepth 100000 in
theorem sk_e152_25 (d : Nat) (x0 : Nat) (x1 : Int32) (o2 : Option Value) (s0 : Int32) (w : sk_W) : sk_D152 d 25 [some (.ref x0), some (.int x1), o2, none] [.int s0] w =
  (sk_getr w x0 11 1).bind fun v1 =>
  (sk_ald w v1 ((sj 7) + x1)).bind fun v2 =>
  if sk_cond .ne v2 (sj 3) = true then
    some (some (.int s0), w)
  else
    some (some (.int (s0 + (sj 1))), w) := sk_unf (sk_c d) sk_fields false sk_t152 [25] 2000 rfl
/-- SkylineNesterModel.mayLie(IIII)Z -/
noncomputable abbrev sk_D153 (d : Nat) : sk_K := sk_den (sk_c d) sk_fields true sk_t153
set_option maxRecDepth 100000 in
theorem sk_e153 (d : Nat) (x0 : Nat) (x1 : Int32) (x2 : Int32) (x3 : Int32) (x4 : Int32) (w : sk_W) : sk_c (d + 1) 153 [.ref x0, .int x1, .int x2, .int x3, .int x4] w =
  (sk_getr w x0 11 1).bind fun v1 =>
  (sk_ald w v1 ((sj 7) + x1)).bind fun v2 =>
  (sk_getr w x0 11 1).bind fun v3 =>
  (sk_ald w v3 ((sj 37) + x1)).bind fun v4 =>
  sk_ci (sk_c d 149 [.int v2, .int (sj 2)] w) fun v6 w5 =>
  if sk_cond .eq v6 (sj 0) = true then
    sk_D153 d 40 [some (.ref x0), some (.int x1), some (.int x2), some (.int x3), some (.int x4), some (.int v2), some (.int v4)] [] w5
  else
    if v4 = 0 then none else
    if sk_cond .eq (x2 - (x2 / v4) * v4) (sj 0) = true then
      sk_D153 d 40 [some (.ref x0), some (.int x1), some (.int x2), some (.int x3), some (.int x4), some (.int v2), some (.int v4)] [] w5
    else
      some (some (.int (sj 0)), w5) := by
  have h : sk_c (d + 1) 153 [.ref x0, .int x1, .int x2, .int x3, .int x4] w = sk_D153 d 0 [some (.ref x0), some (.int x1), some (.int x2), some (.int x3), some (.int x4), none, none] [] w := rfl
  rw [h]
  exact sk_unf (sk_c d) sk_fields true sk_t153 [40] 2000 rfl
set_option maxRecDepth 100000 in
theorem sk_e153_40 (d : Nat) (o0 : Option Value) (o1 : Option Value) (o2 : Option Value) (x3 : Int32) (x4 : Int32) (x5 : Int32) (x6 : Int32) (w : sk_W) : sk_D153 d 40 [o0, o1, o2, some (.int x3), some (.int x4), some (.int x5), some (.int x6)] [] w =
  if sk_cond .ne x5 (sj 4) = true then
    if sk_cond .ne x5 (sj 5) = true then
      some (some (.int (sj 1)), w)
    else
      if sk_cond .ge x4 x6 = true then
        some (some (.int (sj 0)), w)
      else
        some (some (.int (sj 1)), w)
  else
    if x6 = 0 then none else
    if sk_cond .eq (x3 - (x3 / x6) * x6) (sj 0) = true then
      if sk_cond .ne x5 (sj 5) = true then
        some (some (.int (sj 1)), w)
      else
        if sk_cond .ge x4 x6 = true then
          some (some (.int (sj 0)), w)
        else
          some (some (.int (sj 1)), w)
    else
      some (some (.int (sj 0)), w) := sk_unf (sk_c d) sk_fields true sk_t153 [40] 2000 rfl
/-- SkylineNesterModel.wOf(I)I -/
noncomputable abbrev sk_D154 (d : Nat) : sk_K := sk_den (sk_c d) sk_fields false sk_t154
set_option maxRecDepth 100000 in
theorem sk_e154 (d : Nat) (x0 : Nat) (x1 : Int32) (w : sk_W) : sk_c (d + 1) 154 [.ref x0, .int x1] w =
  (sk_getr w x0 11 1).bind fun v1 =>
  (sk_ald w v1 ((sj 67) + x1)).bind fun v2 =>
  if sk_isO w x0 11 = true then
  sk_ci (sk_c d 151 [.ref x0, .int x1, .int v2] w) fun v4 w3 =>
  some (some (.int v4), w3) else none := by
  have h : sk_c (d + 1) 154 [.ref x0, .int x1] w = sk_D154 d 0 [some (.ref x0), some (.int x1)] [] w := rfl
  rw [h]
  exact sk_unf (sk_c d) sk_fields false sk_t154 [] 2000 rfl
/-- SkylineNesterModel.tOf(I)I -/
noncomputable abbrev sk_D155 (d : Nat) : sk_K := sk_den (sk_c d) sk_fields false sk_t155
set_option maxRecDepth 100000 in
theorem sk_e155 (d : Nat) (x0 : Nat) (x1 : Int32) (w : sk_W) : sk_c (d + 1) 155 [.ref x0, .int x1] w =
  (sk_getr w x0 11 1).bind fun v1 =>
  (sk_ald w v1 ((sj 67) + x1)).bind fun v2 =>
  if sk_isO w x0 11 = true then
  sk_ci (sk_c d 152 [.ref x0, .int x1, .int v2] w) fun v4 w3 =>
  some (some (.int v4), w3) else none := by
  have h : sk_c (d + 1) 155 [.ref x0, .int x1] w = sk_D155 d 0 [some (.ref x0), some (.int x1)] [] w := rfl
  rw [h]
  exact sk_unf (sk_c d) sk_fields false sk_t155 [] 2000 rfl
/-- SkylineNesterModel.areOver(IIIIIIII)Z -/
noncomputable abbrev sk_D156 (d : Nat) : sk_K := sk_den (sk_c d) sk_fields true sk_t156
set_option maxRecDepth 100000 in
theorem sk_e156 (d : Nat) (x0 : Int32) (x1 : Int32) (x2 : Int32) (x3 : Int32) (x4 : Int32) (x5 : Int32) (x6 : Int32) (x7 : Int32) (w : sk_W) : sk_c (d + 1) 156 [.int x0, .int x1, .int x2, .int x3, .int x4, .int x5, .int x6, .int x7] w =
  if sk_cond .ge x0 (x4 + x6) = true then
    some (some (.int (sj 0)), w)
  else
    if sk_cond .ge x4 (x0 + x2) = true then
      some (some (.int (sj 0)), w)
    else
      if sk_cond .ge x1 (x5 + x7) = true then
        some (some (.int (sj 0)), w)
      else
        if sk_cond .ge x5 (x1 + x3) = true then
          some (some (.int (sj 0)), w)
        else
          some (some (.int (sj 1)), w) := by
  have h : sk_c (d + 1) 156 [.int x0, .int x1, .int x2, .int x3, .int x4, .int x5, .int x6, .int x7] w = sk_D156 d 0 [some (.int x0), some (.int x1), some (.int x2), some (.int x3), some (.int x4), some (.int x5), some (.int x6), some (.int x7)] [] w := rfl
  rw [h]
  exact sk_unf (sk_c d) sk_fields true sk_t156 [] 2000 rfl
/-- SkylineNesterModel.isOverFixed(IIII)Z -/
noncomputable abbrev sk_D157 (d : Nat) : sk_K := sk_den (sk_c d) sk_fields true sk_t157
set_option maxRecDepth 100000 in
theorem sk_e157 (d : Nat) (x0 : Nat) (x1 : Int32) (x2 : Int32) (x3 : Int32) (x4 : Int32) (w : sk_W) : sk_c (d + 1) 157 [.ref x0, .int x1, .int x2, .int x3, .int x4] w =
  sk_D157 d 3 [some (.ref x0), some (.int x1), some (.int x2), some (.int x3), some (.int x4), some (.int (sj 0))] [] w := by
  have h : sk_c (d + 1) 157 [.ref x0, .int x1, .int x2, .int x3, .int x4] w = sk_D157 d 0 [some (.ref x0), some (.int x1), some (.int x2), some (.int x3), some (.int x4), none] [] w := rfl
  rw [h]
  exact sk_unf (sk_c d) sk_fields true sk_t157 [3] 2000 rfl
set_option maxRecDepth 100000 in
theorem sk_e157_3 (d : Nat) (x0 : Nat) (x1 : Int32) (x2 : Int32) (x3 : Int32) (x4 : Int32) (x5 : Int32) (w : sk_W) : sk_D157 d 3 [some (.ref x0), some (.int x1), some (.int x2), some (.int x3), some (.int x4), some (.int x5)] [] w =
  (sk_getr w x0 11 1).bind fun v1 =>
  (sk_ald w v1 (sj 1)).bind fun v2 =>
  if sk_cond .ge x5 v2 = true then
    some (some (.int (sj 0)), w)
  else
    (sk_getr w x0 11 1).bind fun v3 =>
    (sk_ald w v3 ((sj 77) + x5)).bind fun v4 =>
    if sk_cond .ne v4 (sj 1) = true then
      sk_D157 d 3 [some (.ref x0), some (.int x1), some (.int x2), some (.int x3), some (.int x4), some (.int (x5 + (sj 1)))] [] w
    else
      (sk_getr w x0 11 1).bind fun v5 =>
      (sk_ald w v5 ((sj 47) + x5)).bind fun v6 =>
      (sk_getr w x0 11 1).bind fun v7 =>
      (sk_ald w v7 ((sj 57) + x5)).bind fun v8 =>
      if sk_isO w x0 11 = true then
      sk_ci (sk_c d 154 [.ref x0, .int x5] w) fun v10 w9 =>
      if sk_isO w9 x0 11 = true then
      sk_ci (sk_c d 155 [.ref x0, .int x5] w9) fun v12 w11 =>
      sk_ci (sk_c d 156 [.int x1, .int x2, .int x3, .int x4, .int v6, .int v8, .int v10, .int v12] w11) fun v14 w13 =>
      if sk_cond .eq v14 (sj 0) = true then
        sk_D157 d 3 [some (.ref x0), some (.int x1), some (.int x2), some (.int x3), some (.int x4), some (.int (x5 + (sj 1)))] [] w13
      else
        some (some (.int (sj 1)), w13) else none else none := sk_unf (sk_c d) sk_fields true sk_t157 [3] 2000 rfl
/-- SkylineNesterModel.feed(IIIIII)I -/
noncomputable abbrev sk_D158 (d : Nat) : sk_K := sk_den (sk_c d) sk_fields false sk_t158
set_option maxRecDepth 100000 in
theorem sk_e158 (d : Nat) (x0 : Nat) (x1 : Int32) (x2 : Int32) (x3 : Int32) (x4 : Int32) (x5 : Int32) (x6 : Int32) (w : sk_W) : sk_c (d + 1) 158 [.ref x0, .int x1, .int x2, .int x3, .int x4, .int x5, .int x6] w =
  (sk_ast (w ++ [.inl (5, fun _ => 0)]) (List.length w) (sj 0) x2).bind fun w1 =>
  (sk_ast w1 (List.length w) (sj 1) x3).bind fun w2 =>
  (sk_ast w2 (List.length w) (sj 2) x4).bind fun w3 =>
  (sk_ast w3 (List.length w) (sj 3) x5).bind fun w4 =>
  (sk_ast w4 (List.length w) (sj 4) x6).bind fun w5 =>
  sk_ci (sk_c d 144 [.int x1, .int (sj 1), .int (sj 5)] w5) fun v7 w6 =>
  if sk_cond .ne v7 (sj 0) = true then
    sk_D158 d 43 [some (.ref x0), some (.int x1), some (.int x2), some (.int x3), some (.int x4), some (.int x5), some (.int x6), some (.ref (List.length w)), some (.int (sj 0))] [] w6
  else
    some (some (.int (sj (-2))), w6) := by
  have h : sk_c (d + 1) 158 [.ref x0, .int x1, .int x2, .int x3, .int x4, .int x5, .int x6] w = sk_D158 d 0 [some (.ref x0), some (.int x1), some (.int x2), some (.int x3), some (.int x4), some (.int x5), some (.int x6), none, none] [] w := rfl
  rw [h]
  exact sk_unf (sk_c d) sk_fields false sk_t158 [43, 90] 2000 rfl
set_option maxRecDepth 100000 in
theorem sk_e158_43 (d : Nat) (x0 : Nat) (x1 : Int32) (o2 : Option Value) (o3 : Option Value) (o4 : Option Value) (o5 : Option Value) (o6 : Option Value) (x7 : Nat) (x8 : Int32) (w : sk_W) : sk_D158 d 43 [some (.ref x0), some (.int x1), o2, o3, o4, o5, o6, some (.ref x7), some (.int x8)] [] w =
  if sk_cond .ge x8 (sj 5) = true then
    (sk_geti w x0 11 4).bind fun v1 =>
    if sk_cond .le (v1 + x1) (sj 60) = true then
      sk_D158 d 90 [some (.ref x0), some (.int x1), o2, o3, o4, o5, o6, some (.ref x7), some (.int (sj 0))] [] w
    else
      some (some (.int (sj (-4))), w)
  else
    (sk_ald w x7 x8).bind fun v2 =>
    sk_ci (sk_c d 144 [.int v2, .int (sj 0), .int (sj 255)] w) fun v4 w3 =>
    if sk_cond .ne v4 (sj 0) = true then
      sk_D158 d 43 [some (.ref x0), some (.int x1), o2, o3, o4, o5, o6, some (.ref x7), some (.int (x8 + (sj 1)))] [] w3
    else
      some (some (.int (sj (-2))), w3) := sk_unf (sk_c d) sk_fields false sk_t158 [43, 90] 2000 rfl
set_option maxRecDepth 100000 in
theorem sk_e158_90 (d : Nat) (x0 : Nat) (x1 : Int32) (o2 : Option Value) (o3 : Option Value) (o4 : Option Value) (o5 : Option Value) (o6 : Option Value) (x7 : Nat) (x8 : Int32) (w : sk_W) : sk_D158 d 90 [some (.ref x0), some (.int x1), o2, o3, o4, o5, o6, some (.ref x7), some (.int x8)] [] w =
  if sk_cond .ge x8 x1 = true then
    (sk_geti w x0 11 4).bind fun v1 =>
    (sk_put w x0 11 4 (.int (v1 + x1))).bind fun w2 =>
    (sk_geti w2 x0 11 4).bind fun v3 =>
    some (some (.int v3), w2)
  else
    (sk_getr w x0 11 3).bind fun v4 =>
    (sk_geti w x0 11 4).bind fun v5 =>
    (sk_ald w x7 x8).bind fun v6 =>
    (sk_ast w v4 (v5 + x8) v6).bind fun w7 =>
    sk_D158 d 90 [some (.ref x0), some (.int x1), o2, o3, o4, o5, o6, some (.ref x7), some (.int (x8 + (sj 1)))] [] w7 := sk_unf (sk_c d) sk_fields false sk_t158 [43, 90] 2000 rfl
