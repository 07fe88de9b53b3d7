/-! ===== what the shape says of each cell (written by program) ===== -/
theorem sh_p {S : List sk_Sh} (hS : sk_G S) {a : Nat} (ha : sk_isP a) : S[a]? = some (.inr (.inr (3, [some (a + 1), some (a + 2), some (a + 3), some (a + 4), none, none, none, none, none]))) := by
  rcases ha with rfl | rfl | rfl <;> exact (hS _ (by omega)).trans rfl
theorem sh_pp {S : List sk_Sh} (hS : sk_G S) {a : Nat} (ha : sk_isP a) : S[a + 1]? = some (.inr (.inl (0, 10, sk_ten a 9 10))) := by
  rcases ha with rfl | rfl | rfl <;> exact (hS _ (by omega)).trans rfl
theorem sh_po {S : List sk_Sh} (hS : sk_G S) {a : Nat} (ha : sk_isP a) : S[a + 2]? = some (.inl 10) := by
  rcases ha with rfl | rfl | rfl <;> exact (hS _ (by omega)).trans rfl
theorem sh_ps {S : List sk_Sh} (hS : sk_G S) {a : Nat} (ha : sk_isP a) : S[a + 3]? = some (.inl 20) := by
  rcases ha with rfl | rfl | rfl <;> exact (hS _ (by omega)).trans rfl
theorem sh_pw {S : List sk_Sh} (hS : sk_G S) {a : Nat} (ha : sk_isP a) : S[a + 4]? = some (.inr (.inr (9, [some (a + 5), some (a + 6), some (a + 7), some (a + 8), none]))) := by
  rcases ha with rfl | rfl | rfl <;> exact (hS _ (by omega)).trans rfl
theorem sh_pw0 {S : List sk_Sh} (hS : sk_G S) {a : Nat} (ha : sk_isP a) : S[a + 5]? = some (.inl 64) := by
  rcases ha with rfl | rfl | rfl <;> exact (hS _ (by omega)).trans rfl
theorem sh_pw1 {S : List sk_Sh} (hS : sk_G S) {a : Nat} (ha : sk_isP a) : S[a + 6]? = some (.inl 64) := by
  rcases ha with rfl | rfl | rfl <;> exact (hS _ (by omega)).trans rfl
theorem sh_pw2 {S : List sk_Sh} (hS : sk_G S) {a : Nat} (ha : sk_isP a) : S[a + 7]? = some (.inl 64) := by
  rcases ha with rfl | rfl | rfl <;> exact (hS _ (by omega)).trans rfl
theorem sh_pw3 {S : List sk_Sh} (hS : sk_G S) {a : Nat} (ha : sk_isP a) : S[a + 8]? = some (.inl 64) := by
  rcases ha with rfl | rfl | rfl <;> exact (hS _ (by omega)).trans rfl
theorem sh_pt {S : List sk_Sh} (hS : sk_G S) {a : Nat} (ha : sk_isP a) {n : Nat} (hn : n < 10) : pt S (a + 9 + n) := by
  have h : ∀ b : Nat, b < 132 → (sk_S0 0)[b + 1]? = some (.inr (.inr (2, [none, none, none, none, none, none, none, none, none, none]))) → pt S (b + 1) := fun b hb e => (hS b hb).trans e
  rcases ha with rfl | rfl | rfl
  · match n, hn with
    | 0, _ => exact h 23 (by omega) rfl
    | 1, _ => exact h 24 (by omega) rfl
    | 2, _ => exact h 25 (by omega) rfl
    | 3, _ => exact h 26 (by omega) rfl
    | 4, _ => exact h 27 (by omega) rfl
    | 5, _ => exact h 28 (by omega) rfl
    | 6, _ => exact h 29 (by omega) rfl
    | 7, _ => exact h 30 (by omega) rfl
    | 8, _ => exact h 31 (by omega) rfl
    | 9, _ => exact h 32 (by omega) rfl
  · match n, hn with
    | 0, _ => exact h 42 (by omega) rfl
    | 1, _ => exact h 43 (by omega) rfl
    | 2, _ => exact h 44 (by omega) rfl
    | 3, _ => exact h 45 (by omega) rfl
    | 4, _ => exact h 46 (by omega) rfl
    | 5, _ => exact h 47 (by omega) rfl
    | 6, _ => exact h 48 (by omega) rfl
    | 7, _ => exact h 49 (by omega) rfl
    | 8, _ => exact h 50 (by omega) rfl
    | 9, _ => exact h 51 (by omega) rfl
  · match n, hn with
    | 0, _ => exact h 61 (by omega) rfl
    | 1, _ => exact h 62 (by omega) rfl
    | 2, _ => exact h 63 (by omega) rfl
    | 3, _ => exact h 64 (by omega) rfl
    | 4, _ => exact h 65 (by omega) rfl
    | 5, _ => exact h 66 (by omega) rfl
    | 6, _ => exact h 67 (by omega) rfl
    | 7, _ => exact h 68 (by omega) rfl
    | 8, _ => exact h 69 (by omega) rfl
    | 9, _ => exact h 70 (by omega) rfl
theorem pl_r0 {S : List sk_Sh} (hS : sk_G S) {a : Nat} (ha : sk_isP a) {I : sk_H} : sk_getr (sk_mk S I) a 3 0 = some (a + 1) := mk_getr (sh_p hS ha) rfl
theorem pl_r1 {S : List sk_Sh} (hS : sk_G S) {a : Nat} (ha : sk_isP a) {I : sk_H} : sk_getr (sk_mk S I) a 3 1 = some (a + 2) := mk_getr (sh_p hS ha) rfl
theorem pl_r2 {S : List sk_Sh} (hS : sk_G S) {a : Nat} (ha : sk_isP a) {I : sk_H} : sk_getr (sk_mk S I) a 3 2 = some (a + 3) := mk_getr (sh_p hS ha) rfl
theorem pl_r3 {S : List sk_Sh} (hS : sk_G S) {a : Nat} (ha : sk_isP a) {I : sk_H} : sk_getr (sk_mk S I) a 3 3 = some (a + 4) := mk_getr (sh_p hS ha) rfl
theorem pl_i4 {S : List sk_Sh} (hS : sk_G S) {a : Nat} (ha : sk_isP a) {I : sk_H} : sk_geti (sk_mk S I) a 3 4 = some (sj (I a 4)) := mk_geti (sh_p hS ha) rfl
theorem pl_u4 {S : List sk_Sh} (hS : sk_G S) {a : Nat} (ha : sk_isP a) {I : sk_H} {v : Int} : sk_put (sk_mk S I) a 3 4 (.int (sj v)) = some (sk_mk S (u2 I a 4 v)) := mk_put v (sh_p hS ha) rfl
theorem pl_i5 {S : List sk_Sh} (hS : sk_G S) {a : Nat} (ha : sk_isP a) {I : sk_H} : sk_geti (sk_mk S I) a 3 5 = some (sj (I a 5)) := mk_geti (sh_p hS ha) rfl
theorem pl_u5 {S : List sk_Sh} (hS : sk_G S) {a : Nat} (ha : sk_isP a) {I : sk_H} {v : Int} : sk_put (sk_mk S I) a 3 5 (.int (sj v)) = some (sk_mk S (u2 I a 5 v)) := mk_put v (sh_p hS ha) rfl
theorem pl_i6 {S : List sk_Sh} (hS : sk_G S) {a : Nat} (ha : sk_isP a) {I : sk_H} : sk_geti (sk_mk S I) a 3 6 = some (sj (I a 6)) := mk_geti (sh_p hS ha) rfl
theorem pl_u6 {S : List sk_Sh} (hS : sk_G S) {a : Nat} (ha : sk_isP a) {I : sk_H} {v : Int} : sk_put (sk_mk S I) a 3 6 (.int (sj v)) = some (sk_mk S (u2 I a 6 v)) := mk_put v (sh_p hS ha) rfl
theorem pl_i7 {S : List sk_Sh} (hS : sk_G S) {a : Nat} (ha : sk_isP a) {I : sk_H} : sk_geti (sk_mk S I) a 3 7 = some (sj (I a 7)) := mk_geti (sh_p hS ha) rfl
theorem pl_u7 {S : List sk_Sh} (hS : sk_G S) {a : Nat} (ha : sk_isP a) {I : sk_H} {v : Int} : sk_put (sk_mk S I) a 3 7 (.int (sj v)) = some (sk_mk S (u2 I a 7 v)) := mk_put v (sh_p hS ha) rfl
theorem pl_i8 {S : List sk_Sh} (hS : sk_G S) {a : Nat} (ha : sk_isP a) {I : sk_H} : sk_geti (sk_mk S I) a 3 8 = some (sj (I a 8)) := mk_geti (sh_p hS ha) rfl
theorem pl_u8 {S : List sk_Sh} (hS : sk_G S) {a : Nat} (ha : sk_isP a) {I : sk_H} {v : Int} : sk_put (sk_mk S I) a 3 8 (.int (sj v)) = some (sk_mk S (u2 I a 8 v)) := mk_put v (sh_p hS ha) rfl
theorem pl_o {S : List sk_Sh} (hS : sk_G S) {a : Nat} (ha : sk_isP a) {I : sk_H} : sk_isO (sk_mk S I) a 3 = true := mk_isO (sh_p hS ha)
theorem pw_r0 {S : List sk_Sh} (hS : sk_G S) {a : Nat} (ha : sk_isP a) {I : sk_H} : sk_getr (sk_mk S I) (a + 4) 9 0 = some (a + 5) := mk_getr (sh_pw hS ha) rfl
theorem pw_r1 {S : List sk_Sh} (hS : sk_G S) {a : Nat} (ha : sk_isP a) {I : sk_H} : sk_getr (sk_mk S I) (a + 4) 9 1 = some (a + 6) := mk_getr (sh_pw hS ha) rfl
theorem pw_r2 {S : List sk_Sh} (hS : sk_G S) {a : Nat} (ha : sk_isP a) {I : sk_H} : sk_getr (sk_mk S I) (a + 4) 9 2 = some (a + 7) := mk_getr (sh_pw hS ha) rfl
theorem pw_r3 {S : List sk_Sh} (hS : sk_G S) {a : Nat} (ha : sk_isP a) {I : sk_H} : sk_getr (sk_mk S I) (a + 4) 9 3 = some (a + 8) := mk_getr (sh_pw hS ha) rfl
theorem pw_i4 {S : List sk_Sh} (hS : sk_G S) {a : Nat} (ha : sk_isP a) {I : sk_H} : sk_geti (sk_mk S I) (a + 4) 9 4 = some (sj (I (a + 4) 4)) := mk_geti (sh_pw hS ha) rfl
theorem pw_u4 {S : List sk_Sh} (hS : sk_G S) {a : Nat} (ha : sk_isP a) {I : sk_H} {v : Int} : sk_put (sk_mk S I) (a + 4) 9 4 (.int (sj v)) = some (sk_mk S (u2 I (a + 4) 4 v)) := mk_put v (sh_pw hS ha) rfl
theorem pw_o {S : List sk_Sh} (hS : sk_G S) {a : Nat} (ha : sk_isP a) {I : sk_H} : sk_isO (sk_mk S I) (a + 4) 9 = true := mk_isO (sh_pw hS ha)
theorem pl_p {S : List sk_Sh} (hS : sk_G S) {a : Nat} (ha : sk_isP a) {I : sk_H} {i : Int} (h0 : 0 ≤ i) (h1 : i < 10) : sk_aldr (sk_mk S I) (a + 1) (sj i) = some (a + 9 + i.toNat) := mk_aldr (sh_pp hS ha) (by omega) h0 h1 (by omega) (by unfold sk_ten; rw [if_pos (by omega)])
theorem po_a {S : List sk_Sh} (hS : sk_G S) {a : Nat} (ha : sk_isP a) {I : sk_H} {i : Int} (h0 : 0 ≤ i) (h1 : i < 10) : sk_ald (sk_mk S I) (a + 2) (sj i) = some (sj (I (a + 2) i.toNat)) := mk_ald (sh_po hS ha) h0 h1 (by omega)
theorem po_s {S : List sk_Sh} (hS : sk_G S) {a : Nat} (ha : sk_isP a) {I : sk_H} {i v : Int} (h0 : 0 ≤ i) (h1 : i < 10) : sk_ast (sk_mk S I) (a + 2) (sj i) (sj v) = some (sk_mk S (u2 I (a + 2) i.toNat v)) := mk_ast v (sh_po hS ha) (by omega) h0 h1 (by omega)
theorem po_n {S : List sk_Sh} (hS : sk_G S) {a : Nat} (ha : sk_isP a) {I : sk_H} : sk_len (sk_mk S I) (a + 2) = some (sj 10) := mk_len (sh_po hS ha)
theorem ps_a {S : List sk_Sh} (hS : sk_G S) {a : Nat} (ha : sk_isP a) {I : sk_H} {i : Int} (h0 : 0 ≤ i) (h1 : i < 20) : sk_ald (sk_mk S I) (a + 3) (sj i) = some (sj (I (a + 3) i.toNat)) := mk_ald (sh_ps hS ha) h0 h1 (by omega)
theorem ps_s {S : List sk_Sh} (hS : sk_G S) {a : Nat} (ha : sk_isP a) {I : sk_H} {i v : Int} (h0 : 0 ≤ i) (h1 : i < 20) : sk_ast (sk_mk S I) (a + 3) (sj i) (sj v) = some (sk_mk S (u2 I (a + 3) i.toNat v)) := mk_ast v (sh_ps hS ha) (by omega) h0 h1 (by omega)
theorem ps_n {S : List sk_Sh} (hS : sk_G S) {a : Nat} (ha : sk_isP a) {I : sk_H} : sk_len (sk_mk S I) (a + 3) = some (sj 20) := mk_len (sh_ps hS ha)
theorem pw0_a {S : List sk_Sh} (hS : sk_G S) {a : Nat} (ha : sk_isP a) {I : sk_H} {i : Int} (h0 : 0 ≤ i) (h1 : i < 64) : sk_ald (sk_mk S I) (a + 5) (sj i) = some (sj (I (a + 5) i.toNat)) := mk_ald (sh_pw0 hS ha) h0 h1 (by omega)
theorem pw0_s {S : List sk_Sh} (hS : sk_G S) {a : Nat} (ha : sk_isP a) {I : sk_H} {i v : Int} (h0 : 0 ≤ i) (h1 : i < 64) : sk_ast (sk_mk S I) (a + 5) (sj i) (sj v) = some (sk_mk S (u2 I (a + 5) i.toNat v)) := mk_ast v (sh_pw0 hS ha) (by omega) h0 h1 (by omega)
theorem pw0_n {S : List sk_Sh} (hS : sk_G S) {a : Nat} (ha : sk_isP a) {I : sk_H} : sk_len (sk_mk S I) (a + 5) = some (sj 64) := mk_len (sh_pw0 hS ha)
theorem pw1_a {S : List sk_Sh} (hS : sk_G S) {a : Nat} (ha : sk_isP a) {I : sk_H} {i : Int} (h0 : 0 ≤ i) (h1 : i < 64) : sk_ald (sk_mk S I) (a + 6) (sj i) = some (sj (I (a + 6) i.toNat)) := mk_ald (sh_pw1 hS ha) h0 h1 (by omega)
theorem pw1_s {S : List sk_Sh} (hS : sk_G S) {a : Nat} (ha : sk_isP a) {I : sk_H} {i v : Int} (h0 : 0 ≤ i) (h1 : i < 64) : sk_ast (sk_mk S I) (a + 6) (sj i) (sj v) = some (sk_mk S (u2 I (a + 6) i.toNat v)) := mk_ast v (sh_pw1 hS ha) (by omega) h0 h1 (by omega)
theorem pw1_n {S : List sk_Sh} (hS : sk_G S) {a : Nat} (ha : sk_isP a) {I : sk_H} : sk_len (sk_mk S I) (a + 6) = some (sj 64) := mk_len (sh_pw1 hS ha)
theorem pw2_a {S : List sk_Sh} (hS : sk_G S) {a : Nat} (ha : sk_isP a) {I : sk_H} {i : Int} (h0 : 0 ≤ i) (h1 : i < 64) : sk_ald (sk_mk S I) (a + 7) (sj i) = some (sj (I (a + 7) i.toNat)) := mk_ald (sh_pw2 hS ha) h0 h1 (by omega)
theorem pw2_s {S : List sk_Sh} (hS : sk_G S) {a : Nat} (ha : sk_isP a) {I : sk_H} {i v : Int} (h0 : 0 ≤ i) (h1 : i < 64) : sk_ast (sk_mk S I) (a + 7) (sj i) (sj v) = some (sk_mk S (u2 I (a + 7) i.toNat v)) := mk_ast v (sh_pw2 hS ha) (by omega) h0 h1 (by omega)
theorem pw2_n {S : List sk_Sh} (hS : sk_G S) {a : Nat} (ha : sk_isP a) {I : sk_H} : sk_len (sk_mk S I) (a + 7) = some (sj 64) := mk_len (sh_pw2 hS ha)
theorem pw3_a {S : List sk_Sh} (hS : sk_G S) {a : Nat} (ha : sk_isP a) {I : sk_H} {i : Int} (h0 : 0 ≤ i) (h1 : i < 64) : sk_ald (sk_mk S I) (a + 8) (sj i) = some (sj (I (a + 8) i.toNat)) := mk_ald (sh_pw3 hS ha) h0 h1 (by omega)
theorem pw3_s {S : List sk_Sh} (hS : sk_G S) {a : Nat} (ha : sk_isP a) {I : sk_H} {i v : Int} (h0 : 0 ≤ i) (h1 : i < 64) : sk_ast (sk_mk S I) (a + 8) (sj i) (sj v) = some (sk_mk S (u2 I (a + 8) i.toNat v)) := mk_ast v (sh_pw3 hS ha) (by omega) h0 h1 (by omega)
theorem pw3_n {S : List sk_Sh} (hS : sk_G S) {a : Nat} (ha : sk_isP a) {I : sk_H} : sk_len (sk_mk S I) (a + 8) = some (sj 64) := mk_len (sh_pw3 hS ha)
theorem pt_i0 {S : List sk_Sh} {b : Nat} (hb : pt S b) {I : sk_H} : sk_geti (sk_mk S I) b 2 0 = some (sj (I b 0)) := mk_geti hb rfl
theorem pt_u0 {S : List sk_Sh} {b : Nat} (hb : pt S b) {I : sk_H} {v : Int} : sk_put (sk_mk S I) b 2 0 (.int (sj v)) = some (sk_mk S (u2 I b 0 v)) := mk_put v hb rfl
theorem pq_i0 {S : List sk_Sh} (hS : sk_G S) {a : Nat} (ha : sk_isP a) {n : Nat} (hn : n < 10) {I : sk_H} : sk_geti (sk_mk S I) (a + 9 + n) 2 0 = some (sj (I (a + 9 + n) 0)) := mk_geti (sh_pt hS ha hn) rfl
theorem pq_u0 {S : List sk_Sh} (hS : sk_G S) {a : Nat} (ha : sk_isP a) {n : Nat} (hn : n < 10) {I : sk_H} {v : Int} : sk_put (sk_mk S I) (a + 9 + n) 2 0 (.int (sj v)) = some (sk_mk S (u2 I (a + 9 + n) 0 v)) := mk_put v (sh_pt hS ha hn) rfl
theorem pt_i1 {S : List sk_Sh} {b : Nat} (hb : pt S b) {I : sk_H} : sk_geti (sk_mk S I) b 2 1 = some (sj (I b 1)) := mk_geti hb rfl
theorem pt_u1 {S : List sk_Sh} {b : Nat} (hb : pt S b) {I : sk_H} {v : Int} : sk_put (sk_mk S I) b 2 1 (.int (sj v)) = some (sk_mk S (u2 I b 1 v)) := mk_put v hb rfl
theorem pq_i1 {S : List sk_Sh} (hS : sk_G S) {a : Nat} (ha : sk_isP a) {n : Nat} (hn : n < 10) {I : sk_H} : sk_geti (sk_mk S I) (a + 9 + n) 2 1 = some (sj (I (a + 9 + n) 1)) := mk_geti (sh_pt hS ha hn) rfl
theorem pq_u1 {S : List sk_Sh} (hS : sk_G S) {a : Nat} (ha : sk_isP a) {n : Nat} (hn : n < 10) {I : sk_H} {v : Int} : sk_put (sk_mk S I) (a + 9 + n) 2 1 (.int (sj v)) = some (sk_mk S (u2 I (a + 9 + n) 1 v)) := mk_put v (sh_pt hS ha hn) rfl
theorem pt_i2 {S : List sk_Sh} {b : Nat} (hb : pt S b) {I : sk_H} : sk_geti (sk_mk S I) b 2 2 = some (sj (I b 2)) := mk_geti hb rfl
theorem pt_u2 {S : List sk_Sh} {b : Nat} (hb : pt S b) {I : sk_H} {v : Int} : sk_put (sk_mk S I) b 2 2 (.int (sj v)) = some (sk_mk S (u2 I b 2 v)) := mk_put v hb rfl
theorem pq_i2 {S : List sk_Sh} (hS : sk_G S) {a : Nat} (ha : sk_isP a) {n : Nat} (hn : n < 10) {I : sk_H} : sk_geti (sk_mk S I) (a + 9 + n) 2 2 = some (sj (I (a + 9 + n) 2)) := mk_geti (sh_pt hS ha hn) rfl
theorem pq_u2 {S : List sk_Sh} (hS : sk_G S) {a : Nat} (ha : sk_isP a) {n : Nat} (hn : n < 10) {I : sk_H} {v : Int} : sk_put (sk_mk S I) (a + 9 + n) 2 2 (.int (sj v)) = some (sk_mk S (u2 I (a + 9 + n) 2 v)) := mk_put v (sh_pt hS ha hn) rfl
theorem pt_i3 {S : List sk_Sh} {b : Nat} (hb : pt S b) {I : sk_H} : sk_geti (sk_mk S I) b 2 3 = some (sj (I b 3)) := mk_geti hb rfl
theorem pt_u3 {S : List sk_Sh} {b : Nat} (hb : pt S b) {I : sk_H} {v : Int} : sk_put (sk_mk S I) b 2 3 (.int (sj v)) = some (sk_mk S (u2 I b 3 v)) := mk_put v hb rfl
theorem pq_i3 {S : List sk_Sh} (hS : sk_G S) {a : Nat} (ha : sk_isP a) {n : Nat} (hn : n < 10) {I : sk_H} : sk_geti (sk_mk S I) (a + 9 + n) 2 3 = some (sj (I (a + 9 + n) 3)) := mk_geti (sh_pt hS ha hn) rfl
theorem pq_u3 {S : List sk_Sh} (hS : sk_G S) {a : Nat} (ha : sk_isP a) {n : Nat} (hn : n < 10) {I : sk_H} {v : Int} : sk_put (sk_mk S I) (a + 9 + n) 2 3 (.int (sj v)) = some (sk_mk S (u2 I (a + 9 + n) 3 v)) := mk_put v (sh_pt hS ha hn) rfl
theorem pt_i4 {S : List sk_Sh} {b : Nat} (hb : pt S b) {I : sk_H} : sk_geti (sk_mk S I) b 2 4 = some (sj (I b 4)) := mk_geti hb rfl
theorem pt_u4 {S : List sk_Sh} {b : Nat} (hb : pt S b) {I : sk_H} {v : Int} : sk_put (sk_mk S I) b 2 4 (.int (sj v)) = some (sk_mk S (u2 I b 4 v)) := mk_put v hb rfl
theorem pq_i4 {S : List sk_Sh} (hS : sk_G S) {a : Nat} (ha : sk_isP a) {n : Nat} (hn : n < 10) {I : sk_H} : sk_geti (sk_mk S I) (a + 9 + n) 2 4 = some (sj (I (a + 9 + n) 4)) := mk_geti (sh_pt hS ha hn) rfl
theorem pq_u4 {S : List sk_Sh} (hS : sk_G S) {a : Nat} (ha : sk_isP a) {n : Nat} (hn : n < 10) {I : sk_H} {v : Int} : sk_put (sk_mk S I) (a + 9 + n) 2 4 (.int (sj v)) = some (sk_mk S (u2 I (a + 9 + n) 4 v)) := mk_put v (sh_pt hS ha hn) rfl
theorem pt_i5 {S : List sk_Sh} {b : Nat} (hb : pt S b) {I : sk_H} : sk_geti (sk_mk S I) b 2 5 = some (sj (I b 5)) := mk_geti hb rfl
theorem pt_u5 {S : List sk_Sh} {b : Nat} (hb : pt S b) {I : sk_H} {v : Int} : sk_put (sk_mk S I) b 2 5 (.int (sj v)) = some (sk_mk S (u2 I b 5 v)) := mk_put v hb rfl
theorem pq_i5 {S : List sk_Sh} (hS : sk_G S) {a : Nat} (ha : sk_isP a) {n : Nat} (hn : n < 10) {I : sk_H} : sk_geti (sk_mk S I) (a + 9 + n) 2 5 = some (sj (I (a + 9 + n) 5)) := mk_geti (sh_pt hS ha hn) rfl
theorem pq_u5 {S : List sk_Sh} (hS : sk_G S) {a : Nat} (ha : sk_isP a) {n : Nat} (hn : n < 10) {I : sk_H} {v : Int} : sk_put (sk_mk S I) (a + 9 + n) 2 5 (.int (sj v)) = some (sk_mk S (u2 I (a + 9 + n) 5 v)) := mk_put v (sh_pt hS ha hn) rfl
theorem pt_i6 {S : List sk_Sh} {b : Nat} (hb : pt S b) {I : sk_H} : sk_geti (sk_mk S I) b 2 6 = some (sj (I b 6)) := mk_geti hb rfl
theorem pt_u6 {S : List sk_Sh} {b : Nat} (hb : pt S b) {I : sk_H} {v : Int} : sk_put (sk_mk S I) b 2 6 (.int (sj v)) = some (sk_mk S (u2 I b 6 v)) := mk_put v hb rfl
theorem pq_i6 {S : List sk_Sh} (hS : sk_G S) {a : Nat} (ha : sk_isP a) {n : Nat} (hn : n < 10) {I : sk_H} : sk_geti (sk_mk S I) (a + 9 + n) 2 6 = some (sj (I (a + 9 + n) 6)) := mk_geti (sh_pt hS ha hn) rfl
theorem pq_u6 {S : List sk_Sh} (hS : sk_G S) {a : Nat} (ha : sk_isP a) {n : Nat} (hn : n < 10) {I : sk_H} {v : Int} : sk_put (sk_mk S I) (a + 9 + n) 2 6 (.int (sj v)) = some (sk_mk S (u2 I (a + 9 + n) 6 v)) := mk_put v (sh_pt hS ha hn) rfl
theorem pt_i7 {S : List sk_Sh} {b : Nat} (hb : pt S b) {I : sk_H} : sk_geti (sk_mk S I) b 2 7 = some (sj (I b 7)) := mk_geti hb rfl
theorem pt_u7 {S : List sk_Sh} {b : Nat} (hb : pt S b) {I : sk_H} {v : Int} : sk_put (sk_mk S I) b 2 7 (.int (sj v)) = some (sk_mk S (u2 I b 7 v)) := mk_put v hb rfl
theorem pq_i7 {S : List sk_Sh} (hS : sk_G S) {a : Nat} (ha : sk_isP a) {n : Nat} (hn : n < 10) {I : sk_H} : sk_geti (sk_mk S I) (a + 9 + n) 2 7 = some (sj (I (a + 9 + n) 7)) := mk_geti (sh_pt hS ha hn) rfl
theorem pq_u7 {S : List sk_Sh} (hS : sk_G S) {a : Nat} (ha : sk_isP a) {n : Nat} (hn : n < 10) {I : sk_H} {v : Int} : sk_put (sk_mk S I) (a + 9 + n) 2 7 (.int (sj v)) = some (sk_mk S (u2 I (a + 9 + n) 7 v)) := mk_put v (sh_pt hS ha hn) rfl
theorem pt_i8 {S : List sk_Sh} {b : Nat} (hb : pt S b) {I : sk_H} : sk_geti (sk_mk S I) b 2 8 = some (sj (I b 8)) := mk_geti hb rfl
theorem pt_u8 {S : List sk_Sh} {b : Nat} (hb : pt S b) {I : sk_H} {v : Int} : sk_put (sk_mk S I) b 2 8 (.int (sj v)) = some (sk_mk S (u2 I b 8 v)) := mk_put v hb rfl
theorem pq_i8 {S : List sk_Sh} (hS : sk_G S) {a : Nat} (ha : sk_isP a) {n : Nat} (hn : n < 10) {I : sk_H} : sk_geti (sk_mk S I) (a + 9 + n) 2 8 = some (sj (I (a + 9 + n) 8)) := mk_geti (sh_pt hS ha hn) rfl
theorem pq_u8 {S : List sk_Sh} (hS : sk_G S) {a : Nat} (ha : sk_isP a) {n : Nat} (hn : n < 10) {I : sk_H} {v : Int} : sk_put (sk_mk S I) (a + 9 + n) 2 8 (.int (sj v)) = some (sk_mk S (u2 I (a + 9 + n) 8 v)) := mk_put v (sh_pt hS ha hn) rfl
theorem pt_i9 {S : List sk_Sh} {b : Nat} (hb : pt S b) {I : sk_H} : sk_geti (sk_mk S I) b 2 9 = some (sj (I b 9)) := mk_geti hb rfl
theorem pt_u9 {S : List sk_Sh} {b : Nat} (hb : pt S b) {I : sk_H} {v : Int} : sk_put (sk_mk S I) b 2 9 (.int (sj v)) = some (sk_mk S (u2 I b 9 v)) := mk_put v hb rfl
theorem pq_i9 {S : List sk_Sh} (hS : sk_G S) {a : Nat} (ha : sk_isP a) {n : Nat} (hn : n < 10) {I : sk_H} : sk_geti (sk_mk S I) (a + 9 + n) 2 9 = some (sj (I (a + 9 + n) 9)) := mk_geti (sh_pt hS ha hn) rfl
theorem pq_u9 {S : List sk_Sh} (hS : sk_G S) {a : Nat} (ha : sk_isP a) {n : Nat} (hn : n < 10) {I : sk_H} {v : Int} : sk_put (sk_mk S I) (a + 9 + n) 2 9 (.int (sj v)) = some (sk_mk S (u2 I (a + 9 + n) 9 v)) := mk_put v (sh_pt hS ha hn) rfl
theorem pt_o {S : List sk_Sh} {b : Nat} (hb : pt S b) {I : sk_H} : sk_isO (sk_mk S I) b 2 = true := mk_isO hb
theorem pq_o {S : List sk_Sh} (hS : sk_G S) {a : Nat} (ha : sk_isP a) {n : Nat} (hn : n < 10) {I : sk_H} : sk_isO (sk_mk S I) (a + 9 + n) 2 = true := mk_isO (sh_pt hS ha hn)
theorem sh_1 {S : List sk_Sh} (hS : sk_G S) : S[1]? = some (.inr (.inr (10, [some 2, some 15, some 34, some 53, some 72, some 74, some 80, some 87, some 88, none]))) := by
  exact (hS _ (by omega)).trans rfl
theorem g1_r0 {S : List sk_Sh} (hS : sk_G S) {I : sk_H} : sk_getr (sk_mk S I) 1 10 0 = some 2 := mk_getr (sh_1 hS) rfl
theorem g1_r1 {S : List sk_Sh} (hS : sk_G S) {I : sk_H} : sk_getr (sk_mk S I) 1 10 1 = some 15 := mk_getr (sh_1 hS) rfl
theorem g1_r2 {S : List sk_Sh} (hS : sk_G S) {I : sk_H} : sk_getr (sk_mk S I) 1 10 2 = some 34 := mk_getr (sh_1 hS) rfl
theorem g1_r3 {S : List sk_Sh} (hS : sk_G S) {I : sk_H} : sk_getr (sk_mk S I) 1 10 3 = some 53 := mk_getr (sh_1 hS) rfl
theorem g1_r4 {S : List sk_Sh} (hS : sk_G S) {I : sk_H} : sk_getr (sk_mk S I) 1 10 4 = some 72 := mk_getr (sh_1 hS) rfl
theorem g1_r5 {S : List sk_Sh} (hS : sk_G S) {I : sk_H} : sk_getr (sk_mk S I) 1 10 5 = some 74 := mk_getr (sh_1 hS) rfl
theorem g1_r6 {S : List sk_Sh} (hS : sk_G S) {I : sk_H} : sk_getr (sk_mk S I) 1 10 6 = some 80 := mk_getr (sh_1 hS) rfl
theorem g1_r7 {S : List sk_Sh} (hS : sk_G S) {I : sk_H} : sk_getr (sk_mk S I) 1 10 7 = some 87 := mk_getr (sh_1 hS) rfl
theorem g1_r8 {S : List sk_Sh} (hS : sk_G S) {I : sk_H} : sk_getr (sk_mk S I) 1 10 8 = some 88 := mk_getr (sh_1 hS) rfl
theorem g1_i9 {S : List sk_Sh} (hS : sk_G S) {I : sk_H} : sk_geti (sk_mk S I) 1 10 9 = some (sj (I 1 9)) := mk_geti (sh_1 hS) rfl
theorem g1_u9 {S : List sk_Sh} (hS : sk_G S) {I : sk_H} {v : Int} : sk_put (sk_mk S I) 1 10 9 (.int (sj v)) = some (sk_mk S (u2 I 1 9 v)) := mk_put v (sh_1 hS) rfl
theorem g1_o {S : List sk_Sh} (hS : sk_G S) {I : sk_H} : sk_isO (sk_mk S I) 1 10 = true := mk_isO (sh_1 hS)
theorem sh_2 {S : List sk_Sh} (hS : sk_G S) : S[2]? = some (.inr (.inr (8, [some 3, none, some 4, none, none]))) := by
  exact (hS _ (by omega)).trans rfl
theorem g2_r0 {S : List sk_Sh} (hS : sk_G S) {I : sk_H} : sk_getr (sk_mk S I) 2 8 0 = some 3 := mk_getr (sh_2 hS) rfl
theorem g2_i1 {S : List sk_Sh} (hS : sk_G S) {I : sk_H} : sk_geti (sk_mk S I) 2 8 1 = some (sj (I 2 1)) := mk_geti (sh_2 hS) rfl
theorem g2_u1 {S : List sk_Sh} (hS : sk_G S) {I : sk_H} {v : Int} : sk_put (sk_mk S I) 2 8 1 (.int (sj v)) = some (sk_mk S (u2 I 2 1 v)) := mk_put v (sh_2 hS) rfl
theorem g2_r2 {S : List sk_Sh} (hS : sk_G S) {I : sk_H} : sk_getr (sk_mk S I) 2 8 2 = some 4 := mk_getr (sh_2 hS) rfl
theorem g2_i3 {S : List sk_Sh} (hS : sk_G S) {I : sk_H} : sk_geti (sk_mk S I) 2 8 3 = some (sj (I 2 3)) := mk_geti (sh_2 hS) rfl
theorem g2_u3 {S : List sk_Sh} (hS : sk_G S) {I : sk_H} {v : Int} : sk_put (sk_mk S I) 2 8 3 (.int (sj v)) = some (sk_mk S (u2 I 2 3 v)) := mk_put v (sh_2 hS) rfl
theorem g2_i4 {S : List sk_Sh} (hS : sk_G S) {I : sk_H} : sk_geti (sk_mk S I) 2 8 4 = some (sj (I 2 4)) := mk_geti (sh_2 hS) rfl
theorem g2_u4 {S : List sk_Sh} (hS : sk_G S) {I : sk_H} {v : Int} : sk_put (sk_mk S I) 2 8 4 (.int (sj v)) = some (sk_mk S (u2 I 2 4 v)) := mk_put v (sh_2 hS) rfl
theorem g2_o {S : List sk_Sh} (hS : sk_G S) {I : sk_H} : sk_isO (sk_mk S I) 2 8 = true := mk_isO (sh_2 hS)
theorem sh_3 {S : List sk_Sh} (hS : sk_G S) : S[3]? = some (.inl 60) := by
  exact (hS _ (by omega)).trans rfl
theorem g3_a {S : List sk_Sh} (hS : sk_G S) {I : sk_H} {i : Int} (h0 : 0 ≤ i) (h1 : i < 60) : sk_ald (sk_mk S I) 3 (sj i) = some (sj (I 3 i.toNat)) := mk_ald (sh_3 hS) h0 h1 (by omega)
theorem g3_s {S : List sk_Sh} (hS : sk_G S) {I : sk_H} {i v : Int} (h0 : 0 ≤ i) (h1 : i < 60) : sk_ast (sk_mk S I) 3 (sj i) (sj v) = some (sk_mk S (u2 I 3 i.toNat v)) := mk_ast v (sh_3 hS) (by omega) h0 h1 (by omega)
theorem g3_n {S : List sk_Sh} (hS : sk_G S) {I : sk_H} : sk_len (sk_mk S I) 3 = some (sj 60) := mk_len (sh_3 hS)
theorem sh_4 {S : List sk_Sh} (hS : sk_G S) : S[4]? = some (.inr (.inl (0, 10, sk_ten 2 3 10))) := by
  exact (hS _ (by omega)).trans rfl
theorem g4_q {S : List sk_Sh} (hS : sk_G S) {I : sk_H} {i : Int} (h0 : 0 ≤ i) (h1 : i < 10) : sk_aldr (sk_mk S I) 4 (sj i) = some (2 + 3 + i.toNat) := mk_aldr (sh_4 hS) (by omega) h0 h1 (by omega) (by first | (unfold sk_ten; rw [if_pos (by omega)]) | (unfold sk_four; rw [if_pos (by omega)]) | (show (if _ then _ else _) = _; rw [if_pos (by omega)]))
theorem sh_ti {S : List sk_Sh} (hS : sk_G S) {n : Nat} (hn : n < 10) : pt S (2 + 3 + n) := by
  have h : ∀ b : Nat, b < 132 → (sk_S0 0)[b + 1]? = some (.inr (.inr (2, [none, none, none, none, none, none, none, none, none, none]))) → pt S (b + 1) := fun b hb e => (hS b hb).trans e
  match n, hn with
  | 0, _ => exact h 4 (by omega) rfl
  | 1, _ => exact h 5 (by omega) rfl
  | 2, _ => exact h 6 (by omega) rfl
  | 3, _ => exact h 7 (by omega) rfl
  | 4, _ => exact h 8 (by omega) rfl
  | 5, _ => exact h 9 (by omega) rfl
  | 6, _ => exact h 10 (by omega) rfl
  | 7, _ => exact h 11 (by omega) rfl
  | 8, _ => exact h 12 (by omega) rfl
  | 9, _ => exact h 13 (by omega) rfl
theorem sh_72 {S : List sk_Sh} (hS : sk_G S) : S[72]? = some (.inr (.inr (1, [some 73]))) := by
  exact (hS _ (by omega)).trans rfl
theorem g72_r0 {S : List sk_Sh} (hS : sk_G S) {I : sk_H} : sk_getr (sk_mk S I) 72 1 0 = some 73 := mk_getr (sh_72 hS) rfl
theorem g72_o {S : List sk_Sh} (hS : sk_G S) {I : sk_H} : sk_isO (sk_mk S I) 72 1 = true := mk_isO (sh_72 hS)
theorem sh_73 {S : List sk_Sh} (hS : sk_G S) : S[73]? = some (.inr (.inr (7, [none, none, none, none, none, none]))) := by
  exact (hS _ (by omega)).trans rfl
theorem g73_i0 {S : List sk_Sh} (hS : sk_G S) {I : sk_H} : sk_geti (sk_mk S I) 73 7 0 = some (sj (I 73 0)) := mk_geti (sh_73 hS) rfl
theorem g73_u0 {S : List sk_Sh} (hS : sk_G S) {I : sk_H} {v : Int} : sk_put (sk_mk S I) 73 7 0 (.int (sj v)) = some (sk_mk S (u2 I 73 0 v)) := mk_put v (sh_73 hS) rfl
theorem g73_i1 {S : List sk_Sh} (hS : sk_G S) {I : sk_H} : sk_geti (sk_mk S I) 73 7 1 = some (sj (I 73 1)) := mk_geti (sh_73 hS) rfl
theorem g73_u1 {S : List sk_Sh} (hS : sk_G S) {I : sk_H} {v : Int} : sk_put (sk_mk S I) 73 7 1 (.int (sj v)) = some (sk_mk S (u2 I 73 1 v)) := mk_put v (sh_73 hS) rfl
theorem g73_i2 {S : List sk_Sh} (hS : sk_G S) {I : sk_H} : sk_geti (sk_mk S I) 73 7 2 = some (sj (I 73 2)) := mk_geti (sh_73 hS) rfl
theorem g73_u2 {S : List sk_Sh} (hS : sk_G S) {I : sk_H} {v : Int} : sk_put (sk_mk S I) 73 7 2 (.int (sj v)) = some (sk_mk S (u2 I 73 2 v)) := mk_put v (sh_73 hS) rfl
theorem g73_i3 {S : List sk_Sh} (hS : sk_G S) {I : sk_H} : sk_geti (sk_mk S I) 73 7 3 = some (sj (I 73 3)) := mk_geti (sh_73 hS) rfl
theorem g73_u3 {S : List sk_Sh} (hS : sk_G S) {I : sk_H} {v : Int} : sk_put (sk_mk S I) 73 7 3 (.int (sj v)) = some (sk_mk S (u2 I 73 3 v)) := mk_put v (sh_73 hS) rfl
theorem g73_i4 {S : List sk_Sh} (hS : sk_G S) {I : sk_H} : sk_geti (sk_mk S I) 73 7 4 = some (sj (I 73 4)) := mk_geti (sh_73 hS) rfl
theorem g73_u4 {S : List sk_Sh} (hS : sk_G S) {I : sk_H} {v : Int} : sk_put (sk_mk S I) 73 7 4 (.int (sj v)) = some (sk_mk S (u2 I 73 4 v)) := mk_put v (sh_73 hS) rfl
theorem g73_i5 {S : List sk_Sh} (hS : sk_G S) {I : sk_H} : sk_geti (sk_mk S I) 73 7 5 = some (sj (I 73 5)) := mk_geti (sh_73 hS) rfl
theorem g73_u5 {S : List sk_Sh} (hS : sk_G S) {I : sk_H} {v : Int} : sk_put (sk_mk S I) 73 7 5 (.int (sj v)) = some (sk_mk S (u2 I 73 5 v)) := mk_put v (sh_73 hS) rfl
theorem g73_o {S : List sk_Sh} (hS : sk_G S) {I : sk_H} : sk_isO (sk_mk S I) 73 7 = true := mk_isO (sh_73 hS)
theorem sh_74 {S : List sk_Sh} (hS : sk_G S) : S[74]? = some (.inr (.inr (5, [some 75, none, none, some 76, some 77, some 78, some 79, none]))) := by
  exact (hS _ (by omega)).trans rfl
theorem g74_r0 {S : List sk_Sh} (hS : sk_G S) {I : sk_H} : sk_getr (sk_mk S I) 74 5 0 = some 75 := mk_getr (sh_74 hS) rfl
theorem g74_i1 {S : List sk_Sh} (hS : sk_G S) {I : sk_H} : sk_geti (sk_mk S I) 74 5 1 = some (sj (I 74 1)) := mk_geti (sh_74 hS) rfl
theorem g74_u1 {S : List sk_Sh} (hS : sk_G S) {I : sk_H} {v : Int} : sk_put (sk_mk S I) 74 5 1 (.int (sj v)) = some (sk_mk S (u2 I 74 1 v)) := mk_put v (sh_74 hS) rfl
theorem g74_i2 {S : List sk_Sh} (hS : sk_G S) {I : sk_H} : sk_geti (sk_mk S I) 74 5 2 = some (sj (I 74 2)) := mk_geti (sh_74 hS) rfl
theorem g74_u2 {S : List sk_Sh} (hS : sk_G S) {I : sk_H} {v : Int} : sk_put (sk_mk S I) 74 5 2 (.int (sj v)) = some (sk_mk S (u2 I 74 2 v)) := mk_put v (sh_74 hS) rfl
theorem g74_r3 {S : List sk_Sh} (hS : sk_G S) {I : sk_H} : sk_getr (sk_mk S I) 74 5 3 = some 76 := mk_getr (sh_74 hS) rfl
theorem g74_r4 {S : List sk_Sh} (hS : sk_G S) {I : sk_H} : sk_getr (sk_mk S I) 74 5 4 = some 77 := mk_getr (sh_74 hS) rfl
theorem g74_r5 {S : List sk_Sh} (hS : sk_G S) {I : sk_H} : sk_getr (sk_mk S I) 74 5 5 = some 78 := mk_getr (sh_74 hS) rfl
theorem g74_r6 {S : List sk_Sh} (hS : sk_G S) {I : sk_H} : sk_getr (sk_mk S I) 74 5 6 = some 79 := mk_getr (sh_74 hS) rfl
theorem g74_i7 {S : List sk_Sh} (hS : sk_G S) {I : sk_H} : sk_geti (sk_mk S I) 74 5 7 = some (sj (I 74 7)) := mk_geti (sh_74 hS) rfl
theorem g74_u7 {S : List sk_Sh} (hS : sk_G S) {I : sk_H} {v : Int} : sk_put (sk_mk S I) 74 5 7 (.int (sj v)) = some (sk_mk S (u2 I 74 7 v)) := mk_put v (sh_74 hS) rfl
theorem g74_o {S : List sk_Sh} (hS : sk_G S) {I : sk_H} : sk_isO (sk_mk S I) 74 5 = true := mk_isO (sh_74 hS)
theorem sh_75 {S : List sk_Sh} (hS : sk_G S) : S[75]? = some (.inl 5) := by
  exact (hS _ (by omega)).trans rfl
theorem g75_a {S : List sk_Sh} (hS : sk_G S) {I : sk_H} {i : Int} (h0 : 0 ≤ i) (h1 : i < 5) : sk_ald (sk_mk S I) 75 (sj i) = some (sj (I 75 i.toNat)) := mk_ald (sh_75 hS) h0 h1 (by omega)
theorem g75_s {S : List sk_Sh} (hS : sk_G S) {I : sk_H} {i v : Int} (h0 : 0 ≤ i) (h1 : i < 5) : sk_ast (sk_mk S I) 75 (sj i) (sj v) = some (sk_mk S (u2 I 75 i.toNat v)) := mk_ast v (sh_75 hS) (by omega) h0 h1 (by omega)
theorem g75_n {S : List sk_Sh} (hS : sk_G S) {I : sk_H} : sk_len (sk_mk S I) 75 = some (sj 5) := mk_len (sh_75 hS)
theorem sh_76 {S : List sk_Sh} (hS : sk_G S) : S[76]? = some (.inl 120) := by
  exact (hS _ (by omega)).trans rfl
theorem g76_a {S : List sk_Sh} (hS : sk_G S) {I : sk_H} {i : Int} (h0 : 0 ≤ i) (h1 : i < 120) : sk_ald (sk_mk S I) 76 (sj i) = some (sj (I 76 i.toNat)) := mk_ald (sh_76 hS) h0 h1 (by omega)
theorem g76_s {S : List sk_Sh} (hS : sk_G S) {I : sk_H} {i v : Int} (h0 : 0 ≤ i) (h1 : i < 120) : sk_ast (sk_mk S I) 76 (sj i) (sj v) = some (sk_mk S (u2 I 76 i.toNat v)) := mk_ast v (sh_76 hS) (by omega) h0 h1 (by omega)
theorem g76_n {S : List sk_Sh} (hS : sk_G S) {I : sk_H} : sk_len (sk_mk S I) 76 = some (sj 120) := mk_len (sh_76 hS)
theorem sh_77 {S : List sk_Sh} (hS : sk_G S) : S[77]? = some (.inl 1200) := by
  exact (hS _ (by omega)).trans rfl
theorem g77_a {S : List sk_Sh} (hS : sk_G S) {I : sk_H} {i : Int} (h0 : 0 ≤ i) (h1 : i < 1200) : sk_ald (sk_mk S I) 77 (sj i) = some (sj (I 77 i.toNat)) := mk_ald (sh_77 hS) h0 h1 (by omega)
theorem g77_s {S : List sk_Sh} (hS : sk_G S) {I : sk_H} {i v : Int} (h0 : 0 ≤ i) (h1 : i < 1200) : sk_ast (sk_mk S I) 77 (sj i) (sj v) = some (sk_mk S (u2 I 77 i.toNat v)) := mk_ast v (sh_77 hS) (by omega) h0 h1 (by omega)
theorem g77_n {S : List sk_Sh} (hS : sk_G S) {I : sk_H} : sk_len (sk_mk S I) 77 = some (sj 1200) := mk_len (sh_77 hS)
theorem sh_78 {S : List sk_Sh} (hS : sk_G S) : S[78]? = some (.inl 10) := by
  exact (hS _ (by omega)).trans rfl
theorem g78_a {S : List sk_Sh} (hS : sk_G S) {I : sk_H} {i : Int} (h0 : 0 ≤ i) (h1 : i < 10) : sk_ald (sk_mk S I) 78 (sj i) = some (sj (I 78 i.toNat)) := mk_ald (sh_78 hS) h0 h1 (by omega)
theorem g78_s {S : List sk_Sh} (hS : sk_G S) {I : sk_H} {i v : Int} (h0 : 0 ≤ i) (h1 : i < 10) : sk_ast (sk_mk S I) 78 (sj i) (sj v) = some (sk_mk S (u2 I 78 i.toNat v)) := mk_ast v (sh_78 hS) (by omega) h0 h1 (by omega)
theorem g78_n {S : List sk_Sh} (hS : sk_G S) {I : sk_H} : sk_len (sk_mk S I) 78 = some (sj 10) := mk_len (sh_78 hS)
theorem sh_79 {S : List sk_Sh} (hS : sk_G S) : S[79]? = some (.inl 10) := by
  exact (hS _ (by omega)).trans rfl
theorem g79_a {S : List sk_Sh} (hS : sk_G S) {I : sk_H} {i : Int} (h0 : 0 ≤ i) (h1 : i < 10) : sk_ald (sk_mk S I) 79 (sj i) = some (sj (I 79 i.toNat)) := mk_ald (sh_79 hS) h0 h1 (by omega)
theorem g79_s {S : List sk_Sh} (hS : sk_G S) {I : sk_H} {i v : Int} (h0 : 0 ≤ i) (h1 : i < 10) : sk_ast (sk_mk S I) 79 (sj i) (sj v) = some (sk_mk S (u2 I 79 i.toNat v)) := mk_ast v (sh_79 hS) (by omega) h0 h1 (by omega)
theorem g79_n {S : List sk_Sh} (hS : sk_G S) {I : sk_H} : sk_len (sk_mk S I) 79 = some (sj 10) := mk_len (sh_79 hS)
theorem sh_80 {S : List sk_Sh} (hS : sk_G S) : S[80]? = some (.inr (.inr (0, [some 81, some 82, some 83, some 84, some 85, some 86, none]))) := by
  exact (hS _ (by omega)).trans rfl
theorem g80_r0 {S : List sk_Sh} (hS : sk_G S) {I : sk_H} : sk_getr (sk_mk S I) 80 0 0 = some 81 := mk_getr (sh_80 hS) rfl
theorem g80_r1 {S : List sk_Sh} (hS : sk_G S) {I : sk_H} : sk_getr (sk_mk S I) 80 0 1 = some 82 := mk_getr (sh_80 hS) rfl
theorem g80_r2 {S : List sk_Sh} (hS : sk_G S) {I : sk_H} : sk_getr (sk_mk S I) 80 0 2 = some 83 := mk_getr (sh_80 hS) rfl
theorem g80_r3 {S : List sk_Sh} (hS : sk_G S) {I : sk_H} : sk_getr (sk_mk S I) 80 0 3 = some 84 := mk_getr (sh_80 hS) rfl
theorem g80_r4 {S : List sk_Sh} (hS : sk_G S) {I : sk_H} : sk_getr (sk_mk S I) 80 0 4 = some 85 := mk_getr (sh_80 hS) rfl
theorem g80_r5 {S : List sk_Sh} (hS : sk_G S) {I : sk_H} : sk_getr (sk_mk S I) 80 0 5 = some 86 := mk_getr (sh_80 hS) rfl
theorem g80_i6 {S : List sk_Sh} (hS : sk_G S) {I : sk_H} : sk_geti (sk_mk S I) 80 0 6 = some (sj (I 80 6)) := mk_geti (sh_80 hS) rfl
theorem g80_u6 {S : List sk_Sh} (hS : sk_G S) {I : sk_H} {v : Int} : sk_put (sk_mk S I) 80 0 6 (.int (sj v)) = some (sk_mk S (u2 I 80 6 v)) := mk_put v (sh_80 hS) rfl
theorem g80_o {S : List sk_Sh} (hS : sk_G S) {I : sk_H} : sk_isO (sk_mk S I) 80 0 = true := mk_isO (sh_80 hS)
theorem sh_81 {S : List sk_Sh} (hS : sk_G S) : S[81]? = some (.inl 10) := by
  exact (hS _ (by omega)).trans rfl
theorem g81_a {S : List sk_Sh} (hS : sk_G S) {I : sk_H} {i : Int} (h0 : 0 ≤ i) (h1 : i < 10) : sk_ald (sk_mk S I) 81 (sj i) = some (sj (I 81 i.toNat)) := mk_ald (sh_81 hS) h0 h1 (by omega)
theorem g81_s {S : List sk_Sh} (hS : sk_G S) {I : sk_H} {i v : Int} (h0 : 0 ≤ i) (h1 : i < 10) : sk_ast (sk_mk S I) 81 (sj i) (sj v) = some (sk_mk S (u2 I 81 i.toNat v)) := mk_ast v (sh_81 hS) (by omega) h0 h1 (by omega)
theorem g81_n {S : List sk_Sh} (hS : sk_G S) {I : sk_H} : sk_len (sk_mk S I) 81 = some (sj 10) := mk_len (sh_81 hS)
theorem sh_82 {S : List sk_Sh} (hS : sk_G S) : S[82]? = some (.inl 10) := by
  exact (hS _ (by omega)).trans rfl
theorem g82_a {S : List sk_Sh} (hS : sk_G S) {I : sk_H} {i : Int} (h0 : 0 ≤ i) (h1 : i < 10) : sk_ald (sk_mk S I) 82 (sj i) = some (sj (I 82 i.toNat)) := mk_ald (sh_82 hS) h0 h1 (by omega)
theorem g82_s {S : List sk_Sh} (hS : sk_G S) {I : sk_H} {i v : Int} (h0 : 0 ≤ i) (h1 : i < 10) : sk_ast (sk_mk S I) 82 (sj i) (sj v) = some (sk_mk S (u2 I 82 i.toNat v)) := mk_ast v (sh_82 hS) (by omega) h0 h1 (by omega)
theorem g82_n {S : List sk_Sh} (hS : sk_G S) {I : sk_H} : sk_len (sk_mk S I) 82 = some (sj 10) := mk_len (sh_82 hS)
theorem sh_83 {S : List sk_Sh} (hS : sk_G S) : S[83]? = some (.inl 10) := by
  exact (hS _ (by omega)).trans rfl
theorem g83_a {S : List sk_Sh} (hS : sk_G S) {I : sk_H} {i : Int} (h0 : 0 ≤ i) (h1 : i < 10) : sk_ald (sk_mk S I) 83 (sj i) = some (sj (I 83 i.toNat)) := mk_ald (sh_83 hS) h0 h1 (by omega)
theorem g83_s {S : List sk_Sh} (hS : sk_G S) {I : sk_H} {i v : Int} (h0 : 0 ≤ i) (h1 : i < 10) : sk_ast (sk_mk S I) 83 (sj i) (sj v) = some (sk_mk S (u2 I 83 i.toNat v)) := mk_ast v (sh_83 hS) (by omega) h0 h1 (by omega)
theorem g83_n {S : List sk_Sh} (hS : sk_G S) {I : sk_H} : sk_len (sk_mk S I) 83 = some (sj 10) := mk_len (sh_83 hS)
theorem sh_84 {S : List sk_Sh} (hS : sk_G S) : S[84]? = some (.inl 10) := by
  exact (hS _ (by omega)).trans rfl
theorem g84_a {S : List sk_Sh} (hS : sk_G S) {I : sk_H} {i : Int} (h0 : 0 ≤ i) (h1 : i < 10) : sk_ald (sk_mk S I) 84 (sj i) = some (sj (I 84 i.toNat)) := mk_ald (sh_84 hS) h0 h1 (by omega)
theorem g84_s {S : List sk_Sh} (hS : sk_G S) {I : sk_H} {i v : Int} (h0 : 0 ≤ i) (h1 : i < 10) : sk_ast (sk_mk S I) 84 (sj i) (sj v) = some (sk_mk S (u2 I 84 i.toNat v)) := mk_ast v (sh_84 hS) (by omega) h0 h1 (by omega)
theorem g84_n {S : List sk_Sh} (hS : sk_G S) {I : sk_H} : sk_len (sk_mk S I) 84 = some (sj 10) := mk_len (sh_84 hS)
theorem sh_85 {S : List sk_Sh} (hS : sk_G S) : S[85]? = some (.inl 10) := by
  exact (hS _ (by omega)).trans rfl
theorem g85_a {S : List sk_Sh} (hS : sk_G S) {I : sk_H} {i : Int} (h0 : 0 ≤ i) (h1 : i < 10) : sk_ald (sk_mk S I) 85 (sj i) = some (sj (I 85 i.toNat)) := mk_ald (sh_85 hS) h0 h1 (by omega)
theorem g85_s {S : List sk_Sh} (hS : sk_G S) {I : sk_H} {i v : Int} (h0 : 0 ≤ i) (h1 : i < 10) : sk_ast (sk_mk S I) 85 (sj i) (sj v) = some (sk_mk S (u2 I 85 i.toNat v)) := mk_ast v (sh_85 hS) (by omega) h0 h1 (by omega)
theorem g85_n {S : List sk_Sh} (hS : sk_G S) {I : sk_H} : sk_len (sk_mk S I) 85 = some (sj 10) := mk_len (sh_85 hS)
theorem sh_86 {S : List sk_Sh} (hS : sk_G S) : S[86]? = some (.inl 10) := by
  exact (hS _ (by omega)).trans rfl
theorem g86_a {S : List sk_Sh} (hS : sk_G S) {I : sk_H} {i : Int} (h0 : 0 ≤ i) (h1 : i < 10) : sk_ald (sk_mk S I) 86 (sj i) = some (sj (I 86 i.toNat)) := mk_ald (sh_86 hS) h0 h1 (by omega)
theorem g86_s {S : List sk_Sh} (hS : sk_G S) {I : sk_H} {i v : Int} (h0 : 0 ≤ i) (h1 : i < 10) : sk_ast (sk_mk S I) 86 (sj i) (sj v) = some (sk_mk S (u2 I 86 i.toNat v)) := mk_ast v (sh_86 hS) (by omega) h0 h1 (by omega)
theorem g86_n {S : List sk_Sh} (hS : sk_G S) {I : sk_H} : sk_len (sk_mk S I) 86 = some (sj 10) := mk_len (sh_86 hS)
theorem sh_87 {S : List sk_Sh} (hS : sk_G S) : S[87]? = some (.inr (.inl (1, 4, sk_four 87 2 4))) := by
  exact (hS _ (by omega)).trans rfl
theorem g87_q {S : List sk_Sh} (hS : sk_G S) {I : sk_H} {i : Int} (h0 : 0 ≤ i) (h1 : i < 4) : sk_aldr (sk_mk S I) 87 (sj i) = some (87 + 2 + 4 * i.toNat) := mk_aldr (sh_87 hS) (by omega) h0 h1 (by omega) (by first | (unfold sk_ten; rw [if_pos (by omega)]) | (unfold sk_four; rw [if_pos (by omega)]) | (show (if _ then _ else _) = _; rw [if_pos (by omega)]))
theorem sh_88 {S : List sk_Sh} (hS : sk_G S) : S[88]? = some (.inr (.inl (2, 4, sk_four 87 4 4))) := by
  exact (hS _ (by omega)).trans rfl
theorem g88_q {S : List sk_Sh} (hS : sk_G S) {I : sk_H} {i : Int} (h0 : 0 ≤ i) (h1 : i < 4) : sk_aldr (sk_mk S I) 88 (sj i) = some (87 + 4 + 4 * i.toNat) := mk_aldr (sh_88 hS) (by omega) h0 h1 (by omega) (by first | (unfold sk_ten; rw [if_pos (by omega)]) | (unfold sk_four; rw [if_pos (by omega)]) | (show (if _ then _ else _) = _; rw [if_pos (by omega)]))
theorem srk {S : List sk_Sh} (hS : sk_G S) {r : Nat} (hr : r < 4) : S[87 + 2 + 4 * r]? = some (.inr (.inr (4, [some (87 + 3 + 4 * r), none, none]))) ∧ S[87 + 3 + 4 * r]? = some (.inl 10) := by
  match r, hr with
  | 0, _ => exact ⟨(hS 88 (by omega)).trans rfl, (hS 89 (by omega)).trans rfl⟩
  | 1, _ => exact ⟨(hS 92 (by omega)).trans rfl, (hS 93 (by omega)).trans rfl⟩
  | 2, _ => exact ⟨(hS 96 (by omega)).trans rfl, (hS 97 (by omega)).trans rfl⟩
  | 3, _ => exact ⟨(hS 100 (by omega)).trans rfl, (hS 101 (by omega)).trans rfl⟩
theorem rk_i1 {S : List sk_Sh} (hS : sk_G S) {r : Nat} (hr : r < 4) {I : sk_H} : sk_geti (sk_mk S I) (87 + 2 + 4 * r) 4 1 = some (sj (I (87 + 2 + 4 * r) 1)) := mk_geti (srk hS hr).1 rfl
theorem rk_u1 {S : List sk_Sh} (hS : sk_G S) {r : Nat} (hr : r < 4) {I : sk_H} {v : Int} : sk_put (sk_mk S I) (87 + 2 + 4 * r) 4 1 (.int (sj v)) = some (sk_mk S (u2 I (87 + 2 + 4 * r) 1 v)) := mk_put v (srk hS hr).1 rfl
theorem rk_i2 {S : List sk_Sh} (hS : sk_G S) {r : Nat} (hr : r < 4) {I : sk_H} : sk_geti (sk_mk S I) (87 + 2 + 4 * r) 4 2 = some (sj (I (87 + 2 + 4 * r) 2)) := mk_geti (srk hS hr).1 rfl
theorem rk_u2 {S : List sk_Sh} (hS : sk_G S) {r : Nat} (hr : r < 4) {I : sk_H} {v : Int} : sk_put (sk_mk S I) (87 + 2 + 4 * r) 4 2 (.int (sj v)) = some (sk_mk S (u2 I (87 + 2 + 4 * r) 2 v)) := mk_put v (srk hS hr).1 rfl
theorem rk_r0 {S : List sk_Sh} (hS : sk_G S) {r : Nat} (hr : r < 4) {I : sk_H} : sk_getr (sk_mk S I) (87 + 2 + 4 * r) 4 0 = some (87 + 3 + 4 * r) := mk_getr (srk hS hr).1 rfl
theorem rk_o {S : List sk_Sh} (hS : sk_G S) {r : Nat} (hr : r < 4) {I : sk_H} : sk_isO (sk_mk S I) (87 + 2 + 4 * r) 4 = true := mk_isO (srk hS hr).1
theorem rk_a {S : List sk_Sh} (hS : sk_G S) {r : Nat} (hr : r < 4) {I : sk_H} {i : Int} (h0 : 0 ≤ i) (h1 : i < 10) : sk_ald (sk_mk S I) (87 + 3 + 4 * r) (sj i) = some (sj (I (87 + 3 + 4 * r) i.toNat)) := mk_ald (srk hS hr).2 h0 h1 (by omega)
theorem rk_s {S : List sk_Sh} (hS : sk_G S) {r : Nat} (hr : r < 4) {I : sk_H} {i v : Int} (h0 : 0 ≤ i) (h1 : i < 10) : sk_ast (sk_mk S I) (87 + 3 + 4 * r) (sj i) (sj v) = some (sk_mk S (u2 I (87 + 3 + 4 * r) i.toNat v)) := mk_ast v (srk hS hr).2 (by omega) h0 h1 (by omega)
theorem rk_n {S : List sk_Sh} (hS : sk_G S) {r : Nat} (hr : r < 4) {I : sk_H} : sk_len (sk_mk S I) (87 + 3 + 4 * r) = some (sj 10) := mk_len (srk hS hr).2
theorem ssh {S : List sk_Sh} (hS : sk_G S) {r : Nat} (hr : r < 4) : S[87 + 4 + 4 * r]? = some (.inr (.inr (6, [some (87 + 5 + 4 * r), none, none]))) ∧ S[87 + 5 + 4 * r]? = some (.inl 40) := by
  match r, hr with
  | 0, _ => exact ⟨(hS 90 (by omega)).trans rfl, (hS 91 (by omega)).trans rfl⟩
  | 1, _ => exact ⟨(hS 94 (by omega)).trans rfl, (hS 95 (by omega)).trans rfl⟩
  | 2, _ => exact ⟨(hS 98 (by omega)).trans rfl, (hS 99 (by omega)).trans rfl⟩
  | 3, _ => exact ⟨(hS 102 (by omega)).trans rfl, (hS 103 (by omega)).trans rfl⟩
theorem sh_i1 {S : List sk_Sh} (hS : sk_G S) {r : Nat} (hr : r < 4) {I : sk_H} : sk_geti (sk_mk S I) (87 + 4 + 4 * r) 6 1 = some (sj (I (87 + 4 + 4 * r) 1)) := mk_geti (ssh hS hr).1 rfl
theorem sh_u1 {S : List sk_Sh} (hS : sk_G S) {r : Nat} (hr : r < 4) {I : sk_H} {v : Int} : sk_put (sk_mk S I) (87 + 4 + 4 * r) 6 1 (.int (sj v)) = some (sk_mk S (u2 I (87 + 4 + 4 * r) 1 v)) := mk_put v (ssh hS hr).1 rfl
theorem sh_i2 {S : List sk_Sh} (hS : sk_G S) {r : Nat} (hr : r < 4) {I : sk_H} : sk_geti (sk_mk S I) (87 + 4 + 4 * r) 6 2 = some (sj (I (87 + 4 + 4 * r) 2)) := mk_geti (ssh hS hr).1 rfl
theorem sh_u2 {S : List sk_Sh} (hS : sk_G S) {r : Nat} (hr : r < 4) {I : sk_H} {v : Int} : sk_put (sk_mk S I) (87 + 4 + 4 * r) 6 2 (.int (sj v)) = some (sk_mk S (u2 I (87 + 4 + 4 * r) 2 v)) := mk_put v (ssh hS hr).1 rfl
theorem sh_r0 {S : List sk_Sh} (hS : sk_G S) {r : Nat} (hr : r < 4) {I : sk_H} : sk_getr (sk_mk S I) (87 + 4 + 4 * r) 6 0 = some (87 + 5 + 4 * r) := mk_getr (ssh hS hr).1 rfl
theorem sh_o {S : List sk_Sh} (hS : sk_G S) {r : Nat} (hr : r < 4) {I : sk_H} : sk_isO (sk_mk S I) (87 + 4 + 4 * r) 6 = true := mk_isO (ssh hS hr).1
theorem sh_a {S : List sk_Sh} (hS : sk_G S) {r : Nat} (hr : r < 4) {I : sk_H} {i : Int} (h0 : 0 ≤ i) (h1 : i < 40) : sk_ald (sk_mk S I) (87 + 5 + 4 * r) (sj i) = some (sj (I (87 + 5 + 4 * r) i.toNat)) := mk_ald (ssh hS hr).2 h0 h1 (by omega)
theorem sh_s {S : List sk_Sh} (hS : sk_G S) {r : Nat} (hr : r < 4) {I : sk_H} {i v : Int} (h0 : 0 ≤ i) (h1 : i < 40) : sk_ast (sk_mk S I) (87 + 5 + 4 * r) (sj i) (sj v) = some (sk_mk S (u2 I (87 + 5 + 4 * r) i.toNat v)) := mk_ast v (ssh hS hr).2 (by omega) h0 h1 (by omega)
theorem sh_n {S : List sk_Sh} (hS : sk_G S) {r : Nat} (hr : r < 4) {I : sk_H} : sk_len (sk_mk S I) (87 + 5 + 4 * r) = some (sj 40) := mk_len (ssh hS hr).2
theorem sh_105 {S : List sk_Sh} (hS : sk_G S) : S[105]? = some (.inr (.inr (11, [some 106, some 107, none, some 110, none, some 111, none, none, none, none, none, some 112, some 113, some 114, some 115, some 116, some 117, some 118, some 119, some 124, some 125, some 126, some 127, some 132]))) := by
  exact (hS _ (by omega)).trans rfl
theorem g105_r0 {S : List sk_Sh} (hS : sk_G S) {I : sk_H} : sk_getr (sk_mk S I) 105 11 0 = some 106 := mk_getr (sh_105 hS) rfl
theorem g105_r1 {S : List sk_Sh} (hS : sk_G S) {I : sk_H} : sk_getr (sk_mk S I) 105 11 1 = some 107 := mk_getr (sh_105 hS) rfl
theorem g105_i2 {S : List sk_Sh} (hS : sk_G S) {I : sk_H} : sk_geti (sk_mk S I) 105 11 2 = some (sj (I 105 2)) := mk_geti (sh_105 hS) rfl
theorem g105_u2 {S : List sk_Sh} (hS : sk_G S) {I : sk_H} {v : Int} : sk_put (sk_mk S I) 105 11 2 (.int (sj v)) = some (sk_mk S (u2 I 105 2 v)) := mk_put v (sh_105 hS) rfl
theorem g105_r3 {S : List sk_Sh} (hS : sk_G S) {I : sk_H} : sk_getr (sk_mk S I) 105 11 3 = some 110 := mk_getr (sh_105 hS) rfl
theorem g105_i4 {S : List sk_Sh} (hS : sk_G S) {I : sk_H} : sk_geti (sk_mk S I) 105 11 4 = some (sj (I 105 4)) := mk_geti (sh_105 hS) rfl
theorem g105_u4 {S : List sk_Sh} (hS : sk_G S) {I : sk_H} {v : Int} : sk_put (sk_mk S I) 105 11 4 (.int (sj v)) = some (sk_mk S (u2 I 105 4 v)) := mk_put v (sh_105 hS) rfl
theorem g105_r5 {S : List sk_Sh} (hS : sk_G S) {I : sk_H} : sk_getr (sk_mk S I) 105 11 5 = some 111 := mk_getr (sh_105 hS) rfl
theorem g105_i6 {S : List sk_Sh} (hS : sk_G S) {I : sk_H} : sk_geti (sk_mk S I) 105 11 6 = some (sj (I 105 6)) := mk_geti (sh_105 hS) rfl
theorem g105_u6 {S : List sk_Sh} (hS : sk_G S) {I : sk_H} {v : Int} : sk_put (sk_mk S I) 105 11 6 (.int (sj v)) = some (sk_mk S (u2 I 105 6 v)) := mk_put v (sh_105 hS) rfl
theorem g105_i7 {S : List sk_Sh} (hS : sk_G S) {I : sk_H} : sk_geti (sk_mk S I) 105 11 7 = some (sj (I 105 7)) := mk_geti (sh_105 hS) rfl
theorem g105_u7 {S : List sk_Sh} (hS : sk_G S) {I : sk_H} {v : Int} : sk_put (sk_mk S I) 105 11 7 (.int (sj v)) = some (sk_mk S (u2 I 105 7 v)) := mk_put v (sh_105 hS) rfl
theorem g105_i8 {S : List sk_Sh} (hS : sk_G S) {I : sk_H} : sk_geti (sk_mk S I) 105 11 8 = some (sj (I 105 8)) := mk_geti (sh_105 hS) rfl
theorem g105_u8 {S : List sk_Sh} (hS : sk_G S) {I : sk_H} {v : Int} : sk_put (sk_mk S I) 105 11 8 (.int (sj v)) = some (sk_mk S (u2 I 105 8 v)) := mk_put v (sh_105 hS) rfl
theorem g105_i9 {S : List sk_Sh} (hS : sk_G S) {I : sk_H} : sk_geti (sk_mk S I) 105 11 9 = some (sj (I 105 9)) := mk_geti (sh_105 hS) rfl
theorem g105_u9 {S : List sk_Sh} (hS : sk_G S) {I : sk_H} {v : Int} : sk_put (sk_mk S I) 105 11 9 (.int (sj v)) = some (sk_mk S (u2 I 105 9 v)) := mk_put v (sh_105 hS) rfl
theorem g105_i10 {S : List sk_Sh} (hS : sk_G S) {I : sk_H} : sk_geti (sk_mk S I) 105 11 10 = some (sj (I 105 10)) := mk_geti (sh_105 hS) rfl
theorem g105_u10 {S : List sk_Sh} (hS : sk_G S) {I : sk_H} {v : Int} : sk_put (sk_mk S I) 105 11 10 (.int (sj v)) = some (sk_mk S (u2 I 105 10 v)) := mk_put v (sh_105 hS) rfl
theorem g105_r11 {S : List sk_Sh} (hS : sk_G S) {I : sk_H} : sk_getr (sk_mk S I) 105 11 11 = some 112 := mk_getr (sh_105 hS) rfl
theorem g105_r12 {S : List sk_Sh} (hS : sk_G S) {I : sk_H} : sk_getr (sk_mk S I) 105 11 12 = some 113 := mk_getr (sh_105 hS) rfl
theorem g105_r13 {S : List sk_Sh} (hS : sk_G S) {I : sk_H} : sk_getr (sk_mk S I) 105 11 13 = some 114 := mk_getr (sh_105 hS) rfl
theorem g105_r14 {S : List sk_Sh} (hS : sk_G S) {I : sk_H} : sk_getr (sk_mk S I) 105 11 14 = some 115 := mk_getr (sh_105 hS) rfl
theorem g105_r15 {S : List sk_Sh} (hS : sk_G S) {I : sk_H} : sk_getr (sk_mk S I) 105 11 15 = some 116 := mk_getr (sh_105 hS) rfl
theorem g105_r16 {S : List sk_Sh} (hS : sk_G S) {I : sk_H} : sk_getr (sk_mk S I) 105 11 16 = some 117 := mk_getr (sh_105 hS) rfl
theorem g105_r17 {S : List sk_Sh} (hS : sk_G S) {I : sk_H} : sk_getr (sk_mk S I) 105 11 17 = some 118 := mk_getr (sh_105 hS) rfl
theorem g105_r18 {S : List sk_Sh} (hS : sk_G S) {I : sk_H} : sk_getr (sk_mk S I) 105 11 18 = some 119 := mk_getr (sh_105 hS) rfl
theorem g105_r19 {S : List sk_Sh} (hS : sk_G S) {I : sk_H} : sk_getr (sk_mk S I) 105 11 19 = some 124 := mk_getr (sh_105 hS) rfl
theorem g105_r20 {S : List sk_Sh} (hS : sk_G S) {I : sk_H} : sk_getr (sk_mk S I) 105 11 20 = some 125 := mk_getr (sh_105 hS) rfl
theorem g105_r21 {S : List sk_Sh} (hS : sk_G S) {I : sk_H} : sk_getr (sk_mk S I) 105 11 21 = some 126 := mk_getr (sh_105 hS) rfl
theorem g105_r22 {S : List sk_Sh} (hS : sk_G S) {I : sk_H} : sk_getr (sk_mk S I) 105 11 22 = some 127 := mk_getr (sh_105 hS) rfl
theorem g105_r23 {S : List sk_Sh} (hS : sk_G S) {I : sk_H} : sk_getr (sk_mk S I) 105 11 23 = some 132 := mk_getr (sh_105 hS) rfl
theorem g105_o {S : List sk_Sh} (hS : sk_G S) {I : sk_H} : sk_isO (sk_mk S I) 105 11 = true := mk_isO (sh_105 hS)
theorem sh_106 {S : List sk_Sh} (hS : sk_G S) : S[106]? = some (.inr (.inl (3, 3, fun q => if q < 3 then some (105 + 1 + 1 + q) else none))) := by
  exact (hS _ (by omega)).trans rfl
theorem sh_119 {S : List sk_Sh} (hS : sk_G S) : S[119]? = some (.inr (.inl (3, 4, fun q => if q < 4 then some (105 + 14 + 1 + q) else none))) := by
  exact (hS _ (by omega)).trans rfl
theorem sh_127 {S : List sk_Sh} (hS : sk_G S) : S[127]? = some (.inr (.inl (3, 4, fun q => if q < 4 then some (105 + 22 + 1 + q) else none))) := by
  exact (hS _ (by omega)).trans rfl
theorem g106_q {S : List sk_Sh} (hS : sk_G S) {I : sk_H} {i : Int} (h0 : 0 ≤ i) (h1 : i < 3) : sk_aldr (sk_mk S I) 106 (sj i) = some (107 + i.toNat) := mk_aldr (sh_106 hS) (by omega) h0 h1 (by omega) (by show (if _ then _ else _) = _; rw [if_pos (by omega)])
theorem g119_q {S : List sk_Sh} (hS : sk_G S) {I : sk_H} {i : Int} (h0 : 0 ≤ i) (h1 : i < 4) : sk_aldr (sk_mk S I) 119 (sj i) = some (120 + i.toNat) := mk_aldr (sh_119 hS) (by omega) h0 h1 (by omega) (by show (if _ then _ else _) = _; rw [if_pos (by omega)])
theorem g127_q {S : List sk_Sh} (hS : sk_G S) {I : sk_H} {i : Int} (h0 : 0 ≤ i) (h1 : i < 4) : sk_aldr (sk_mk S I) 127 (sj i) = some (128 + i.toNat) := mk_aldr (sh_127 hS) (by omega) h0 h1 (by omega) (by show (if _ then _ else _) = _; rw [if_pos (by omega)])
theorem sh_107 {S : List sk_Sh} (hS : sk_G S) : S[107]? = some (.inl 1141) := by
  exact (hS _ (by omega)).trans rfl
theorem g107_a {S : List sk_Sh} (hS : sk_G S) {I : sk_H} {i : Int} (h0 : 0 ≤ i) (h1 : i < 1141) : sk_ald (sk_mk S I) 107 (sj i) = some (sj (I 107 i.toNat)) := mk_ald (sh_107 hS) h0 h1 (by omega)
theorem g107_s {S : List sk_Sh} (hS : sk_G S) {I : sk_H} {i v : Int} (h0 : 0 ≤ i) (h1 : i < 1141) : sk_ast (sk_mk S I) 107 (sj i) (sj v) = some (sk_mk S (u2 I 107 i.toNat v)) := mk_ast v (sh_107 hS) (by omega) h0 h1 (by omega)
theorem g107_n {S : List sk_Sh} (hS : sk_G S) {I : sk_H} : sk_len (sk_mk S I) 107 = some (sj 1141) := mk_len (sh_107 hS)
theorem sh_108 {S : List sk_Sh} (hS : sk_G S) : S[108]? = some (.inl 1141) := by
  exact (hS _ (by omega)).trans rfl
theorem g108_a {S : List sk_Sh} (hS : sk_G S) {I : sk_H} {i : Int} (h0 : 0 ≤ i) (h1 : i < 1141) : sk_ald (sk_mk S I) 108 (sj i) = some (sj (I 108 i.toNat)) := mk_ald (sh_108 hS) h0 h1 (by omega)
theorem g108_s {S : List sk_Sh} (hS : sk_G S) {I : sk_H} {i v : Int} (h0 : 0 ≤ i) (h1 : i < 1141) : sk_ast (sk_mk S I) 108 (sj i) (sj v) = some (sk_mk S (u2 I 108 i.toNat v)) := mk_ast v (sh_108 hS) (by omega) h0 h1 (by omega)
theorem g108_n {S : List sk_Sh} (hS : sk_G S) {I : sk_H} : sk_len (sk_mk S I) 108 = some (sj 1141) := mk_len (sh_108 hS)
theorem sh_109 {S : List sk_Sh} (hS : sk_G S) : S[109]? = some (.inl 1141) := by
  exact (hS _ (by omega)).trans rfl
theorem g109_a {S : List sk_Sh} (hS : sk_G S) {I : sk_H} {i : Int} (h0 : 0 ≤ i) (h1 : i < 1141) : sk_ald (sk_mk S I) 109 (sj i) = some (sj (I 109 i.toNat)) := mk_ald (sh_109 hS) h0 h1 (by omega)
theorem g109_s {S : List sk_Sh} (hS : sk_G S) {I : sk_H} {i v : Int} (h0 : 0 ≤ i) (h1 : i < 1141) : sk_ast (sk_mk S I) 109 (sj i) (sj v) = some (sk_mk S (u2 I 109 i.toNat v)) := mk_ast v (sh_109 hS) (by omega) h0 h1 (by omega)
theorem g109_n {S : List sk_Sh} (hS : sk_G S) {I : sk_H} : sk_len (sk_mk S I) 109 = some (sj 1141) := mk_len (sh_109 hS)
theorem sh_110 {S : List sk_Sh} (hS : sk_G S) : S[110]? = some (.inl 60) := by
  exact (hS _ (by omega)).trans rfl
theorem g110_a {S : List sk_Sh} (hS : sk_G S) {I : sk_H} {i : Int} (h0 : 0 ≤ i) (h1 : i < 60) : sk_ald (sk_mk S I) 110 (sj i) = some (sj (I 110 i.toNat)) := mk_ald (sh_110 hS) h0 h1 (by omega)
theorem g110_s {S : List sk_Sh} (hS : sk_G S) {I : sk_H} {i v : Int} (h0 : 0 ≤ i) (h1 : i < 60) : sk_ast (sk_mk S I) 110 (sj i) (sj v) = some (sk_mk S (u2 I 110 i.toNat v)) := mk_ast v (sh_110 hS) (by omega) h0 h1 (by omega)
theorem g110_n {S : List sk_Sh} (hS : sk_G S) {I : sk_H} : sk_len (sk_mk S I) 110 = some (sj 60) := mk_len (sh_110 hS)
theorem sh_111 {S : List sk_Sh} (hS : sk_G S) : S[111]? = some (.inl 300) := by
  exact (hS _ (by omega)).trans rfl
theorem g111_a {S : List sk_Sh} (hS : sk_G S) {I : sk_H} {i : Int} (h0 : 0 ≤ i) (h1 : i < 300) : sk_ald (sk_mk S I) 111 (sj i) = some (sj (I 111 i.toNat)) := mk_ald (sh_111 hS) h0 h1 (by omega)
theorem g111_s {S : List sk_Sh} (hS : sk_G S) {I : sk_H} {i v : Int} (h0 : 0 ≤ i) (h1 : i < 300) : sk_ast (sk_mk S I) 111 (sj i) (sj v) = some (sk_mk S (u2 I 111 i.toNat v)) := mk_ast v (sh_111 hS) (by omega) h0 h1 (by omega)
theorem g111_n {S : List sk_Sh} (hS : sk_G S) {I : sk_H} : sk_len (sk_mk S I) 111 = some (sj 300) := mk_len (sh_111 hS)
theorem sh_112 {S : List sk_Sh} (hS : sk_G S) : S[112]? = some (.inl 10) := by
  exact (hS _ (by omega)).trans rfl
theorem g112_a {S : List sk_Sh} (hS : sk_G S) {I : sk_H} {i : Int} (h0 : 0 ≤ i) (h1 : i < 10) : sk_ald (sk_mk S I) 112 (sj i) = some (sj (I 112 i.toNat)) := mk_ald (sh_112 hS) h0 h1 (by omega)
theorem g112_s {S : List sk_Sh} (hS : sk_G S) {I : sk_H} {i v : Int} (h0 : 0 ≤ i) (h1 : i < 10) : sk_ast (sk_mk S I) 112 (sj i) (sj v) = some (sk_mk S (u2 I 112 i.toNat v)) := mk_ast v (sh_112 hS) (by omega) h0 h1 (by omega)
theorem g112_n {S : List sk_Sh} (hS : sk_G S) {I : sk_H} : sk_len (sk_mk S I) 112 = some (sj 10) := mk_len (sh_112 hS)
theorem sh_113 {S : List sk_Sh} (hS : sk_G S) : S[113]? = some (.inl 1220) := by
  exact (hS _ (by omega)).trans rfl
theorem g113_a {S : List sk_Sh} (hS : sk_G S) {I : sk_H} {i : Int} (h0 : 0 ≤ i) (h1 : i < 1220) : sk_ald (sk_mk S I) 113 (sj i) = some (sj (I 113 i.toNat)) := mk_ald (sh_113 hS) h0 h1 (by omega)
theorem g113_s {S : List sk_Sh} (hS : sk_G S) {I : sk_H} {i v : Int} (h0 : 0 ≤ i) (h1 : i < 1220) : sk_ast (sk_mk S I) 113 (sj i) (sj v) = some (sk_mk S (u2 I 113 i.toNat v)) := mk_ast v (sh_113 hS) (by omega) h0 h1 (by omega)
theorem g113_n {S : List sk_Sh} (hS : sk_G S) {I : sk_H} : sk_len (sk_mk S I) 113 = some (sj 1220) := mk_len (sh_113 hS)
theorem sh_114 {S : List sk_Sh} (hS : sk_G S) : S[114]? = some (.inl 120) := by
  exact (hS _ (by omega)).trans rfl
theorem g114_a {S : List sk_Sh} (hS : sk_G S) {I : sk_H} {i : Int} (h0 : 0 ≤ i) (h1 : i < 120) : sk_ald (sk_mk S I) 114 (sj i) = some (sj (I 114 i.toNat)) := mk_ald (sh_114 hS) h0 h1 (by omega)
theorem g114_s {S : List sk_Sh} (hS : sk_G S) {I : sk_H} {i v : Int} (h0 : 0 ≤ i) (h1 : i < 120) : sk_ast (sk_mk S I) 114 (sj i) (sj v) = some (sk_mk S (u2 I 114 i.toNat v)) := mk_ast v (sh_114 hS) (by omega) h0 h1 (by omega)
theorem g114_n {S : List sk_Sh} (hS : sk_G S) {I : sk_H} : sk_len (sk_mk S I) 114 = some (sj 120) := mk_len (sh_114 hS)
theorem sh_115 {S : List sk_Sh} (hS : sk_G S) : S[115]? = some (.inl 10) := by
  exact (hS _ (by omega)).trans rfl
theorem g115_a {S : List sk_Sh} (hS : sk_G S) {I : sk_H} {i : Int} (h0 : 0 ≤ i) (h1 : i < 10) : sk_ald (sk_mk S I) 115 (sj i) = some (sj (I 115 i.toNat)) := mk_ald (sh_115 hS) h0 h1 (by omega)
theorem g115_s {S : List sk_Sh} (hS : sk_G S) {I : sk_H} {i v : Int} (h0 : 0 ≤ i) (h1 : i < 10) : sk_ast (sk_mk S I) 115 (sj i) (sj v) = some (sk_mk S (u2 I 115 i.toNat v)) := mk_ast v (sh_115 hS) (by omega) h0 h1 (by omega)
theorem g115_n {S : List sk_Sh} (hS : sk_G S) {I : sk_H} : sk_len (sk_mk S I) 115 = some (sj 10) := mk_len (sh_115 hS)
theorem sh_116 {S : List sk_Sh} (hS : sk_G S) : S[116]? = some (.inl 10) := by
  exact (hS _ (by omega)).trans rfl
theorem g116_a {S : List sk_Sh} (hS : sk_G S) {I : sk_H} {i : Int} (h0 : 0 ≤ i) (h1 : i < 10) : sk_ald (sk_mk S I) 116 (sj i) = some (sj (I 116 i.toNat)) := mk_ald (sh_116 hS) h0 h1 (by omega)
theorem g116_s {S : List sk_Sh} (hS : sk_G S) {I : sk_H} {i v : Int} (h0 : 0 ≤ i) (h1 : i < 10) : sk_ast (sk_mk S I) 116 (sj i) (sj v) = some (sk_mk S (u2 I 116 i.toNat v)) := mk_ast v (sh_116 hS) (by omega) h0 h1 (by omega)
theorem g116_n {S : List sk_Sh} (hS : sk_G S) {I : sk_H} : sk_len (sk_mk S I) 116 = some (sj 10) := mk_len (sh_116 hS)
theorem sh_117 {S : List sk_Sh} (hS : sk_G S) : S[117]? = some (.inl 4) := by
  exact (hS _ (by omega)).trans rfl
theorem g117_a {S : List sk_Sh} (hS : sk_G S) {I : sk_H} {i : Int} (h0 : 0 ≤ i) (h1 : i < 4) : sk_ald (sk_mk S I) 117 (sj i) = some (sj (I 117 i.toNat)) := mk_ald (sh_117 hS) h0 h1 (by omega)
theorem g117_s {S : List sk_Sh} (hS : sk_G S) {I : sk_H} {i v : Int} (h0 : 0 ≤ i) (h1 : i < 4) : sk_ast (sk_mk S I) 117 (sj i) (sj v) = some (sk_mk S (u2 I 117 i.toNat v)) := mk_ast v (sh_117 hS) (by omega) h0 h1 (by omega)
theorem g117_n {S : List sk_Sh} (hS : sk_G S) {I : sk_H} : sk_len (sk_mk S I) 117 = some (sj 4) := mk_len (sh_117 hS)
theorem sh_118 {S : List sk_Sh} (hS : sk_G S) : S[118]? = some (.inl 4) := by
  exact (hS _ (by omega)).trans rfl
theorem g118_a {S : List sk_Sh} (hS : sk_G S) {I : sk_H} {i : Int} (h0 : 0 ≤ i) (h1 : i < 4) : sk_ald (sk_mk S I) 118 (sj i) = some (sj (I 118 i.toNat)) := mk_ald (sh_118 hS) h0 h1 (by omega)
theorem g118_s {S : List sk_Sh} (hS : sk_G S) {I : sk_H} {i v : Int} (h0 : 0 ≤ i) (h1 : i < 4) : sk_ast (sk_mk S I) 118 (sj i) (sj v) = some (sk_mk S (u2 I 118 i.toNat v)) := mk_ast v (sh_118 hS) (by omega) h0 h1 (by omega)
theorem g118_n {S : List sk_Sh} (hS : sk_G S) {I : sk_H} : sk_len (sk_mk S I) 118 = some (sj 4) := mk_len (sh_118 hS)
theorem sh_124 {S : List sk_Sh} (hS : sk_G S) : S[124]? = some (.inl 10) := by
  exact (hS _ (by omega)).trans rfl
theorem g124_a {S : List sk_Sh} (hS : sk_G S) {I : sk_H} {i : Int} (h0 : 0 ≤ i) (h1 : i < 10) : sk_ald (sk_mk S I) 124 (sj i) = some (sj (I 124 i.toNat)) := mk_ald (sh_124 hS) h0 h1 (by omega)
theorem g124_s {S : List sk_Sh} (hS : sk_G S) {I : sk_H} {i v : Int} (h0 : 0 ≤ i) (h1 : i < 10) : sk_ast (sk_mk S I) 124 (sj i) (sj v) = some (sk_mk S (u2 I 124 i.toNat v)) := mk_ast v (sh_124 hS) (by omega) h0 h1 (by omega)
theorem g124_n {S : List sk_Sh} (hS : sk_G S) {I : sk_H} : sk_len (sk_mk S I) 124 = some (sj 10) := mk_len (sh_124 hS)
theorem sh_125 {S : List sk_Sh} (hS : sk_G S) : S[125]? = some (.inl 4) := by
  exact (hS _ (by omega)).trans rfl
theorem g125_a {S : List sk_Sh} (hS : sk_G S) {I : sk_H} {i : Int} (h0 : 0 ≤ i) (h1 : i < 4) : sk_ald (sk_mk S I) 125 (sj i) = some (sj (I 125 i.toNat)) := mk_ald (sh_125 hS) h0 h1 (by omega)
theorem g125_s {S : List sk_Sh} (hS : sk_G S) {I : sk_H} {i v : Int} (h0 : 0 ≤ i) (h1 : i < 4) : sk_ast (sk_mk S I) 125 (sj i) (sj v) = some (sk_mk S (u2 I 125 i.toNat v)) := mk_ast v (sh_125 hS) (by omega) h0 h1 (by omega)
theorem g125_n {S : List sk_Sh} (hS : sk_G S) {I : sk_H} : sk_len (sk_mk S I) 125 = some (sj 4) := mk_len (sh_125 hS)
theorem sh_126 {S : List sk_Sh} (hS : sk_G S) : S[126]? = some (.inl 4) := by
  exact (hS _ (by omega)).trans rfl
theorem g126_a {S : List sk_Sh} (hS : sk_G S) {I : sk_H} {i : Int} (h0 : 0 ≤ i) (h1 : i < 4) : sk_ald (sk_mk S I) 126 (sj i) = some (sj (I 126 i.toNat)) := mk_ald (sh_126 hS) h0 h1 (by omega)
theorem g126_s {S : List sk_Sh} (hS : sk_G S) {I : sk_H} {i v : Int} (h0 : 0 ≤ i) (h1 : i < 4) : sk_ast (sk_mk S I) 126 (sj i) (sj v) = some (sk_mk S (u2 I 126 i.toNat v)) := mk_ast v (sh_126 hS) (by omega) h0 h1 (by omega)
theorem g126_n {S : List sk_Sh} (hS : sk_G S) {I : sk_H} : sk_len (sk_mk S I) 126 = some (sj 4) := mk_len (sh_126 hS)
theorem sh_132 {S : List sk_Sh} (hS : sk_G S) : S[132]? = some (.inl 40) := by
  exact (hS _ (by omega)).trans rfl
theorem g132_a {S : List sk_Sh} (hS : sk_G S) {I : sk_H} {i : Int} (h0 : 0 ≤ i) (h1 : i < 40) : sk_ald (sk_mk S I) 132 (sj i) = some (sj (I 132 i.toNat)) := mk_ald (sh_132 hS) h0 h1 (by omega)
theorem g132_s {S : List sk_Sh} (hS : sk_G S) {I : sk_H} {i v : Int} (h0 : 0 ≤ i) (h1 : i < 40) : sk_ast (sk_mk S I) 132 (sj i) (sj v) = some (sk_mk S (u2 I 132 i.toNat v)) := mk_ast v (sh_132 hS) (by omega) h0 h1 (by omega)
theorem g132_n {S : List sk_Sh} (hS : sk_G S) {I : sk_H} : sk_len (sk_mk S I) 132 = some (sj 40) := mk_len (sh_132 hS)
theorem smr {S : List sk_Sh} (hS : sk_G S) {r : Nat} (hr : r < 4) : S[120 + r]? = some (.inl 10) := by
  match r, hr with
  | 0, _ => exact (hS 119 (by omega)).trans rfl
  | 1, _ => exact (hS 120 (by omega)).trans rfl
  | 2, _ => exact (hS 121 (by omega)).trans rfl
  | 3, _ => exact (hS 122 (by omega)).trans rfl
theorem mr_a {S : List sk_Sh} (hS : sk_G S) {r : Nat} (hr : r < 4) {I : sk_H} {i : Int} (h0 : 0 ≤ i) (h1 : i < 10) : sk_ald (sk_mk S I) (120 + r) (sj i) = some (sj (I (120 + r) i.toNat)) := mk_ald (smr hS hr) h0 h1 (by omega)
theorem mr_s {S : List sk_Sh} (hS : sk_G S) {r : Nat} (hr : r < 4) {I : sk_H} {i v : Int} (h0 : 0 ≤ i) (h1 : i < 10) : sk_ast (sk_mk S I) (120 + r) (sj i) (sj v) = some (sk_mk S (u2 I (120 + r) i.toNat v)) := mk_ast v (smr hS hr) (by omega) h0 h1 (by omega)
theorem sms {S : List sk_Sh} (hS : sk_G S) {r : Nat} (hr : r < 4) : S[128 + r]? = some (.inl 40) := by
  match r, hr with
  | 0, _ => exact (hS 127 (by omega)).trans rfl
  | 1, _ => exact (hS 128 (by omega)).trans rfl
  | 2, _ => exact (hS 129 (by omega)).trans rfl
  | 3, _ => exact (hS 130 (by omega)).trans rfl
theorem ms_a {S : List sk_Sh} (hS : sk_G S) {r : Nat} (hr : r < 4) {I : sk_H} {i : Int} (h0 : 0 ≤ i) (h1 : i < 40) : sk_ald (sk_mk S I) (128 + r) (sj i) = some (sj (I (128 + r) i.toNat)) := mk_ald (sms hS hr) h0 h1 (by omega)
theorem ms_s {S : List sk_Sh} (hS : sk_G S) {r : Nat} (hr : r < 4) {I : sk_H} {i v : Int} (h0 : 0 ≤ i) (h1 : i < 40) : sk_ast (sk_mk S I) (128 + r) (sj i) (sj v) = some (sk_mk S (u2 I (128 + r) i.toNat v)) := mk_ast v (sms hS hr) (by omega) h0 h1 (by omega)
