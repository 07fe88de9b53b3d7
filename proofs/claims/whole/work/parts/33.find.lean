/-! ===== where a part would be laid: the class's way ===== -/
theorem vC_fr {I I' : sk_H} {a : Nat} (h : ∀ b, a ≤ b → b < a + 19 → I' b = I b) : vC I' a = vC I a := by
  funext s k
  unfold vC
  split
  · split
    · rw [h _ (by omega) (by omega)]
    · rw [h _ (by omega) (by omega)]
  all_goals first
    | rfl
    | (split
       · rw [h _ (by omega) (by omega)]
       · rfl)
    | rw [h _ (by omega) (by omega)]
theorem lp_run {α : Type} (G : Nat → α → Prop) (n : Nat) (h : ∀ k a, k < n → G k a → G (k + 1) a) {a : α} (h0 : G 0 a) : G n a := by
  have : ∀ k, k ≤ n → G k a := by
    intro k
    induction k with
    | zero => intro _; exact h0
    | succ k ih => intro hk; exact h k a (by omega) (ih (by omega))
  exact this n (Nat.le_refl _)
abbrev sk_Q : Type := Int × Int × Int × Int × Int
def CS (I : sk_H) (s : Option sk_Q) : Prop := match s with
  | none => I 73 0 = 0
  | some q => I 73 0 = 1 ∧ I 73 1 = q.1 ∧ I 73 2 = q.2.1 ∧ I 73 3 = q.2.2.1 ∧ I 73 4 = q.2.2.2.1 ∧ I 73 5 = q.2.2.2.2
def QB (s : Option sk_Q) : Prop := match s with
  | none => True
  | some q => 0 ≤ q.1 ∧ q.1 ≤ 20 ∧ 0 ≤ q.2.1 ∧ q.2.1 ≤ 400 ∧ (q.2.2.1 = 0 ∨ q.2.2.1 = 1) ∧ -1 ≤ q.2.2.2.1 ∧ q.2.2.2.1 ≤ 63 ∧ -100000 ≤ q.2.2.2.2 ∧ q.2.2.2.2 ≤ 100000
/-- a rectangle of waste, one way -/
def wst (v : sk_H) (p k : Nat) (o : Int) (s : Option sk_Q) : Option sk_Q :=
  if v 13 k < acr v p o ∨ v 14 k < tal v p o ∨ mayl v p (v 11 k) (v 12 k) 0 = false then s else match s with
    | none => some (v 11 k, v 12 k, o, (k : Int), v 13 k * v 14 k - acr v p o * tal v p o)
    | some q => if v 13 k * v 14 k - acr v p o * tal v p o < q.2.2.2.2 then some (v 11 k, v 12 k, o, (k : Int), v 13 k * v 14 k - acr v p o * tal v p o) else s
def wst2 (v : sk_H) (p k : Nat) (s : Option sk_Q) : Option sk_Q := if twoW v p = true then wst v p k 1 (wst v p k 0 s) else wst v p k 0 s
def wF (v : sk_H) (p : Nat) : Option sk_Q := fld (v 0 5).toNat (fun k s => wst2 v p k s) none
theorem mul_rng {a b A B : Int} (h1 : 0 ≤ a) (h2 : a ≤ A) (h3 : 0 ≤ b) (h4 : b ≤ B) : 0 ≤ a * b ∧ a * b ≤ A * B :=
  ⟨Int.mul_nonneg h1 h3, Int.mul_le_mul h2 h4 h3 (by omega)⟩
theorem left_rng {v : sk_H} (hV : VO v) {p k : Nat} (hp : (p : Int) < v 0 1) (hk : (k : Int) < v 0 5) (o : Int) : 0 ≤ v 13 k * v 14 k ∧ v 13 k * v 14 k ≤ 6000 ∧ 0 ≤ acr v p o * tal v p o ∧ acr v p o * tal v p o ≤ 420 := by
  obtain ⟨n1, n2, n3, n4, n5, n6, n7, n8, n9, n10, n11, n12⟩ := hV.1
  have hw := hV.2.2.2.2 k hk
  have ha := acr_rng hV.1 (vo_p hV hp) o
  have ht := tal_rng hV.1 (vo_p hV hp) o
  have e1 := mul_rng (a := v 13 k) (b := v 14 k) (A := 20) (B := 300) (by omega) (by omega) (by omega) (by omega)
  have e2 := mul_rng (a := acr v p o) (b := tal v p o) (A := 20) (B := 21) (by omega) (by omega) (by omega) (by omega)
  omega
theorem wst_none {v : sk_H} {p k : Nat} {o : Int} (h1 : ¬ v 13 k < acr v p o) (h2 : ¬ v 14 k < tal v p o) (h3 : mayl v p (v 11 k) (v 12 k) 0 = true) : wst v p k o none = some (v 11 k, v 12 k, o, (k : Int), v 13 k * v 14 k - acr v p o * tal v p o) := by
  unfold wst
  rw [if_neg (by simp [h1, h2, h3])]
theorem wst_some {v : sk_H} {p k : Nat} {o : Int} (h1 : ¬ v 13 k < acr v p o) (h2 : ¬ v 14 k < tal v p o) (h3 : mayl v p (v 11 k) (v 12 k) 0 = true) (q : sk_Q) : wst v p k o (some q) = if v 13 k * v 14 k - acr v p o * tal v p o < q.2.2.2.2 then some (v 11 k, v 12 k, o, (k : Int), v 13 k * v 14 k - acr v p o * tal v p o) else some q := by
  unfold wst
  rw [if_neg (by simp [h1, h2, h3])]
theorem wst_QB {v : sk_H} (hV : VO v) {p k : Nat} (hp : (p : Int) < v 0 1) (hk : (k : Int) < v 0 5) {o : Int} (ho : o = 0 ∨ o = 1) {s : Option sk_Q} (hs : QB s) : QB (wst v p k o s) := by
  obtain ⟨n1, n2, n3, n4, n5, n6, n7, n8, n9, n10, n11, n12⟩ := hV.1
  have hw := hV.2.2.2.2 k hk
  have hl := left_rng hV hp hk o
  have hn : QB (some (v 11 k, v 12 k, o, (k : Int), v 13 k * v 14 k - acr v p o * tal v p o)) := ⟨by dsimp only; omega, by dsimp only; omega, by dsimp only; omega, by dsimp only; omega, ho, by dsimp only; omega, by dsimp only; omega, by dsimp only; omega, by dsimp only; omega⟩
  unfold wst
  split
  · exact hs
  · split
    · exact hn
    · split
      · exact hn
      · exact hs
section FND
variable {S : List sk_Sh} {I v : sk_H} {a : Nat}
theorem m83 {d : Nat} (hd : 1 ≤ d) (hS : sk_G S) {x y o r c : Int} (ho : o = 0 ∨ o = 1) : ∃ I', sk_c d 83 [.ref 73, .int (sj x), .int (sj y), .int (sj o), .int (sj r), .int (sj c)] (sk_mk S I) = some (none, sk_mk S I') ∧ CS I' (some (x, y, o, r, c)) ∧ ∀ b, b ≠ 73 → I' b = I b := by
  refine ⟨u2 (u2 (u2 (u2 (u2 (u2 I 73 0 1) 73 1 x) 73 2 y) 73 3 o) 73 4 r) 73 5 c, ?_, ?_, ?_⟩
  · obtain ⟨d, rfl⟩ : ∃ e, d = e + 1 := ⟨d - 1, by omega⟩; rw [sk_e83]
    simp (disch := omega) only [g72_r0 hS, g72_o hS, g73_i0 hS, g73_u0 hS, g73_i1 hS, g73_u1 hS, g73_i2 hS, g73_u2 hS, g73_i3 hS, g73_u3 hS, g73_i4 hS, g73_u4 hS, g73_i5 hS, g73_u5 hS, g73_o hS, Option.bind_some, sk_ci_some, sk_cv_some, sk_cf_some, if_true, eq_self, ite_self, sj_v01]
    rw [if_pos ho]
  · simp [CS, u2]
  · intro b hb
    funext j
    simp [u2, hb]
theorem m21_st {d : Nat} (hd : 9 ≤ d + 1) (hS : sk_G S) (ha : sk_isP a) (hv : vC I a = v) (hV : VO v) {p : Nat} (hp : (p : Int) < v 0 1) {k : Nat} (hk : (k : Int) < v 0 5) {o : Int} (ho : o = 0 ∨ o = 1) {s : Option sk_Q} (hs : CS I s) (hb : QB s) (ways : Int) (hw : o < ways) (hw2 : ways ≤ 2) (o1 o7 o8 o9 o10 : Option Value) : ∃ I' o7' o8' o9' o10', sk_D21 d 30 [some (.ref 72), o1, some (.ref (a + 9 + p)), some (.ref (a + 4)), some (.int (sj ways)), some (.int (sj k)), some (.int (sj o)), o7, o8, o9, o10] [] (sk_mk S I) = sk_D21 d 30 [some (.ref 72), o1, some (.ref (a + 9 + p)), some (.ref (a + 4)), some (.int (sj ways)), some (.int (sj k)), some (.int (sj (o + 1))), o7', o8', o9', o10'] [] (sk_mk S I') ∧ CS I' (wst v p k o s) ∧ ∀ b, b ≠ 73 → I' b = I b := by
  obtain ⟨n1, n2, n3, n4, n5, n6, n7, n8, n9, n10, n11, n12⟩ := hV.1
  have hW := hV.2.2.2.2 k hk
  have hl := left_rng hV hp hk o
  have ha1 := acr_rng hV.1 (vo_p hV hp) o
  have ht1 := tal_rng hV.1 (vo_p hV hp) o
  have e48 : sk_D21 d 30 [some (.ref 72), o1, some (.ref (a + 9 + p)), some (.ref (a + 4)), some (.int (sj ways)), some (.int (sj k)), some (.int (sj o)), o7, o8, o9, o10] [] (sk_mk S I) = sk_D21 d 48 [some (.ref 72), o1, some (.ref (a + 9 + p)), some (.ref (a + 4)), some (.int (sj ways)), some (.int (sj k)), some (.int (sj o)), o7, o8, o9, o10] [.int (sj o)] (sk_mk S I) := by
    rw [sk_e21_30]
    simp (disch := omega) only [pl_r0 hS ha, pl_r1 hS ha, pl_r2 hS ha, pl_r3 hS ha, pl_i4 hS ha, pl_u4 hS ha, pl_i5 hS ha, pl_u5 hS ha, pl_i6 hS ha, pl_u6 hS ha, pl_i7 hS ha, pl_u7 hS ha, pl_i8 hS ha, pl_u8 hS ha, pl_o hS ha, pl_p hS ha, po_a hS ha, po_s hS ha, po_n hS ha, ps_a hS ha, ps_s hS ha, ps_n hS ha, pw_r0 hS ha, pw_r1 hS ha, pw_r2 hS ha, pw_r3 hS ha, pw_i4 hS ha, pw_u4 hS ha, pw_o hS ha, pw0_a hS ha, pw0_s hS ha, pw0_n hS ha, pw1_a hS ha, pw1_s hS ha, pw1_n hS ha, pw2_a hS ha, pw2_s hS ha, pw2_n hS ha, pw3_a hS ha, pw3_s hS ha, pw3_n hS ha, pq_i0 hS ha, pq_u0 hS ha, pq_i1 hS ha, pq_u1 hS ha, pq_i2 hS ha, pq_u2 hS ha, pq_i3 hS ha, pq_u3 hS ha, pq_i4 hS ha, pq_u4 hS ha, pq_i5 hS ha, pq_u5 hS ha, pq_i6 hS ha, pq_u6 hS ha, pq_i7 hS ha, pq_u7 hS ha, pq_i8 hS ha, pq_u8 hS ha, pq_i9 hS ha, pq_u9 hS ha, pq_o hS ha, Option.bind_some, sk_ci_some, sk_cv_some, sk_cf_some, if_true, eq_self, ite_self, vc4 hv, vc5 hv, vc6 hv, vc7 hv, vc8 hv, vcz hv, vp0 hv, vp1 hv, vp2 hv, vp3 hv, vp4 hv, vp5 hv, vp6 hv, vp7 hv, vp8 hv, vp9 hv, vo_ hv, vs_ hv, vx0 hv, vx1 hv, vx2 hv, vx3 hv, Int.toNat_natCast, sj_add, sj_sub, sj_mul, sj_neg, sj_div, sj_ceq, sj_cne, sj_clt, sj_cge, sj_cgt, sj_cle, bi_ceq, bi_cne, bi_01]
    rw [if_neg (by omega)]
    rcases ho with rfl | rfl
    · rw [if_pos (by omega)]
    · rw [if_neg (by omega)]
  rw [e48, sk_e21_48]
  simp (maxSteps := 1000000) (disch := omega) only [pl_r0 hS ha, pl_r1 hS ha, pl_r2 hS ha, pl_r3 hS ha, pl_i4 hS ha, pl_u4 hS ha, pl_i5 hS ha, pl_u5 hS ha, pl_i6 hS ha, pl_u6 hS ha, pl_i7 hS ha, pl_u7 hS ha, pl_i8 hS ha, pl_u8 hS ha, pl_o hS ha, pl_p hS ha, po_a hS ha, po_s hS ha, po_n hS ha, ps_a hS ha, ps_s hS ha, ps_n hS ha, pw_r0 hS ha, pw_r1 hS ha, pw_r2 hS ha, pw_r3 hS ha, pw_i4 hS ha, pw_u4 hS ha, pw_o hS ha, pw0_a hS ha, pw0_s hS ha, pw0_n hS ha, pw1_a hS ha, pw1_s hS ha, pw1_n hS ha, pw2_a hS ha, pw2_s hS ha, pw2_n hS ha, pw3_a hS ha, pw3_s hS ha, pw3_n hS ha, pq_i0 hS ha, pq_u0 hS ha, pq_i1 hS ha, pq_u1 hS ha, pq_i2 hS ha, pq_u2 hS ha, pq_i3 hS ha, pq_u3 hS ha, pq_i4 hS ha, pq_u4 hS ha, pq_i5 hS ha, pq_u5 hS ha, pq_i6 hS ha, pq_u6 hS ha, pq_i7 hS ha, pq_u7 hS ha, pq_i8 hS ha, pq_u8 hS ha, pq_i9 hS ha, pq_u9 hS ha, pq_o hS ha, Option.bind_some, sk_ci_some, sk_cv_some, sk_cf_some, if_true, eq_self, ite_self, vc4 hv, vc5 hv, vc6 hv, vc7 hv, vc8 hv, vcz hv, vp0 hv, vp1 hv, vp2 hv, vp3 hv, vp4 hv, vp5 hv, vp6 hv, vp7 hv, vp8 hv, vp9 hv, vo_ hv, vs_ hv, vx0 hv, vx1 hv, vx2 hv, vx3 hv, Int.toNat_natCast, sj_add, sj_sub, sj_mul, sj_neg, sj_div, sj_ceq, sj_cne, sj_clt, sj_cge, sj_cgt, sj_cle, bi_ceq, bi_cne, bi_01, p31 (v := v), p32 (v := v)]
  by_cases c1 : v 13 k < acr v p o
  · rw [if_pos c1]
    exact ⟨I, _, _, _, _, rfl, by unfold wst; rw [if_pos (Or.inl c1)]; exact hs, fun _ _ => rfl⟩
  rw [if_neg c1]
  by_cases c2 : v 14 k < tal v p o
  · rw [if_neg (by omega)]
    exact ⟨I, _, _, _, _, rfl, by unfold wst; rw [if_pos (Or.inr (Or.inl c2))]; exact hs, fun _ _ => rfl⟩
  rw [if_pos (by omega)]
  simp (disch := omega) only [pl_r0 hS ha, pl_r1 hS ha, pl_r2 hS ha, pl_r3 hS ha, pl_i4 hS ha, pl_u4 hS ha, pl_i5 hS ha, pl_u5 hS ha, pl_i6 hS ha, pl_u6 hS ha, pl_i7 hS ha, pl_u7 hS ha, pl_i8 hS ha, pl_u8 hS ha, pl_o hS ha, pl_p hS ha, po_a hS ha, po_s hS ha, po_n hS ha, ps_a hS ha, ps_s hS ha, ps_n hS ha, pw_r0 hS ha, pw_r1 hS ha, pw_r2 hS ha, pw_r3 hS ha, pw_i4 hS ha, pw_u4 hS ha, pw_o hS ha, pw0_a hS ha, pw0_s hS ha, pw0_n hS ha, pw1_a hS ha, pw1_s hS ha, pw1_n hS ha, pw2_a hS ha, pw2_s hS ha, pw2_n hS ha, pw3_a hS ha, pw3_s hS ha, pw3_n hS ha, pq_i0 hS ha, pq_u0 hS ha, pq_i1 hS ha, pq_u1 hS ha, pq_i2 hS ha, pq_u2 hS ha, pq_i3 hS ha, pq_u3 hS ha, pq_i4 hS ha, pq_u4 hS ha, pq_i5 hS ha, pq_u5 hS ha, pq_i6 hS ha, pq_u6 hS ha, pq_i7 hS ha, pq_u7 hS ha, pq_i8 hS ha, pq_u8 hS ha, pq_i9 hS ha, pq_u9 hS ha, pq_o hS ha, Option.bind_some, sk_ci_some, sk_cv_some, sk_cf_some, if_true, eq_self, ite_self, vc4 hv, vc5 hv, vc6 hv, vc7 hv, vc8 hv, vcz hv, vp0 hv, vp1 hv, vp2 hv, vp3 hv, vp4 hv, vp5 hv, vp6 hv, vp7 hv, vp8 hv, vp9 hv, vo_ hv, vs_ hv, vx0 hv, vx1 hv, vx2 hv, vx3 hv, Int.toNat_natCast, sj_add, sj_sub, sj_mul, sj_neg, sj_div, sj_ceq, sj_cne, sj_clt, sj_cge, sj_cgt, sj_cle, bi_ceq, bi_cne, bi_01, p33 (v := v)]
  cases c3 : mayl v p (v 11 k) (v 12 k) 0 with
  | false =>
    rw [if_neg (by simp)]
    exact ⟨I, _, _, _, _, rfl, by unfold wst; rw [if_pos (Or.inr (Or.inr c3))]; exact hs, fun _ _ => rfl⟩
  | true =>
    rw [if_pos rfl]
    have h163 : ∀ (o8 o9 : Option Value), ∃ I', sk_D21 d 163 [some (.ref 72), o1, some (.ref (a + 9 + p)), some (.ref (a + 4)), some (.int (sj ways)), some (.int (sj k)), some (.int (sj o)), some (.int (sj o)), o8, o9, some (.int (sj (v 13 k * v 14 k - acr v p o * tal v p o)))] [] (sk_mk S I) = sk_D21 d 30 [some (.ref 72), o1, some (.ref (a + 9 + p)), some (.ref (a + 4)), some (.int (sj ways)), some (.int (sj k)), some (.int (sj (o + 1))), some (.int (sj o)), o8, o9, some (.int (sj (v 13 k * v 14 k - acr v p o * tal v p o)))] [] (sk_mk S I') ∧ CS I' (some (v 11 k, v 12 k, o, (k : Int), v 13 k * v 14 k - acr v p o * tal v p o)) ∧ ∀ b, b ≠ 73 → I' b = I b := by
      intro o8 o9
      obtain ⟨I', e, h1, h2⟩ := m83 (S := S) (I := I) (d := d) (by omega) hS (x := v 11 k) (y := v 12 k) (r := k) (c := v 13 k * v 14 k - acr v p o * tal v p o) ho
      refine ⟨I', ?_, h1, h2⟩
      rw [sk_e21_163]
      simp (disch := omega) only [pl_r0 hS ha, pl_r1 hS ha, pl_r2 hS ha, pl_r3 hS ha, pl_i4 hS ha, pl_u4 hS ha, pl_i5 hS ha, pl_u5 hS ha, pl_i6 hS ha, pl_u6 hS ha, pl_i7 hS ha, pl_u7 hS ha, pl_i8 hS ha, pl_u8 hS ha, pl_o hS ha, pl_p hS ha, po_a hS ha, po_s hS ha, po_n hS ha, ps_a hS ha, ps_s hS ha, ps_n hS ha, pw_r0 hS ha, pw_r1 hS ha, pw_r2 hS ha, pw_r3 hS ha, pw_i4 hS ha, pw_u4 hS ha, pw_o hS ha, pw0_a hS ha, pw0_s hS ha, pw0_n hS ha, pw1_a hS ha, pw1_s hS ha, pw1_n hS ha, pw2_a hS ha, pw2_s hS ha, pw2_n hS ha, pw3_a hS ha, pw3_s hS ha, pw3_n hS ha, pq_i0 hS ha, pq_u0 hS ha, pq_i1 hS ha, pq_u1 hS ha, pq_i2 hS ha, pq_u2 hS ha, pq_i3 hS ha, pq_u3 hS ha, pq_i4 hS ha, pq_u4 hS ha, pq_i5 hS ha, pq_u5 hS ha, pq_i6 hS ha, pq_u6 hS ha, pq_i7 hS ha, pq_u7 hS ha, pq_i8 hS ha, pq_u8 hS ha, pq_i9 hS ha, pq_u9 hS ha, pq_o hS ha, Option.bind_some, sk_ci_some, sk_cv_some, sk_cf_some, if_true, eq_self, ite_self, vc4 hv, vc5 hv, vc6 hv, vc7 hv, vc8 hv, vcz hv, vp0 hv, vp1 hv, vp2 hv, vp3 hv, vp4 hv, vp5 hv, vp6 hv, vp7 hv, vp8 hv, vp9 hv, vo_ hv, vs_ hv, vx0 hv, vx1 hv, vx2 hv, vx3 hv, Int.toNat_natCast, sj_add, sj_sub, sj_mul, sj_neg, sj_div, sj_ceq, sj_cne, sj_clt, sj_cge, sj_cgt, sj_cle, bi_ceq, bi_cne, bi_01, g72_r0 hS, g72_o hS, g73_i0 hS, g73_u0 hS, g73_i1 hS, g73_u1 hS, g73_i2 hS, g73_u2 hS, g73_i3 hS, g73_u3 hS, g73_i4 hS, g73_u4 hS, g73_i5 hS, g73_u5 hS, g73_o hS, e]
    simp (disch := omega) only [pl_r0 hS ha, pl_r1 hS ha, pl_r2 hS ha, pl_r3 hS ha, pl_i4 hS ha, pl_u4 hS ha, pl_i5 hS ha, pl_u5 hS ha, pl_i6 hS ha, pl_u6 hS ha, pl_i7 hS ha, pl_u7 hS ha, pl_i8 hS ha, pl_u8 hS ha, pl_o hS ha, pl_p hS ha, po_a hS ha, po_s hS ha, po_n hS ha, ps_a hS ha, ps_s hS ha, ps_n hS ha, pw_r0 hS ha, pw_r1 hS ha, pw_r2 hS ha, pw_r3 hS ha, pw_i4 hS ha, pw_u4 hS ha, pw_o hS ha, pw0_a hS ha, pw0_s hS ha, pw0_n hS ha, pw1_a hS ha, pw1_s hS ha, pw1_n hS ha, pw2_a hS ha, pw2_s hS ha, pw2_n hS ha, pw3_a hS ha, pw3_s hS ha, pw3_n hS ha, pq_i0 hS ha, pq_u0 hS ha, pq_i1 hS ha, pq_u1 hS ha, pq_i2 hS ha, pq_u2 hS ha, pq_i3 hS ha, pq_u3 hS ha, pq_i4 hS ha, pq_u4 hS ha, pq_i5 hS ha, pq_u5 hS ha, pq_i6 hS ha, pq_u6 hS ha, pq_i7 hS ha, pq_u7 hS ha, pq_i8 hS ha, pq_u8 hS ha, pq_i9 hS ha, pq_u9 hS ha, pq_o hS ha, Option.bind_some, sk_ci_some, sk_cv_some, sk_cf_some, if_true, eq_self, ite_self, vc4 hv, vc5 hv, vc6 hv, vc7 hv, vc8 hv, vcz hv, vp0 hv, vp1 hv, vp2 hv, vp3 hv, vp4 hv, vp5 hv, vp6 hv, vp7 hv, vp8 hv, vp9 hv, vo_ hv, vs_ hv, vx0 hv, vx1 hv, vx2 hv, vx3 hv, Int.toNat_natCast, sj_add, sj_sub, sj_mul, sj_neg, sj_div, sj_ceq, sj_cne, sj_clt, sj_cge, sj_cgt, sj_cle, bi_ceq, bi_cne, bi_01, g72_r0 hS, g72_o hS, g73_i0 hS, g73_u0 hS, g73_i1 hS, g73_u1 hS, g73_i2 hS, g73_u2 hS, g73_i3 hS, g73_u3 hS, g73_i4 hS, g73_u4 hS, g73_i5 hS, g73_u5 hS, g73_o hS]
    cases s with
    | none =>
      have h0 : I 73 0 = 0 := hs
      rw [wst_none c1 c2 c3, h0]
      simp (disch := omega) only [sj_ceq, sj_cne, sj_clt, sj_cge, sj_cgt, sj_cle, bi_ceq, bi_cne, bi_01, if_true]
      obtain ⟨I', e, h1, h2⟩ := h163 (some (.int (sj (acr v p o)))) (some (.int (sj (tal v p o))))
      exact ⟨I', _, _, _, _, e, h1, h2⟩
    | some q =>
      obtain ⟨q1, q2, q3, q4, q5, q6⟩ := hs
      obtain ⟨b1, b2, b3, b4, b5, b6, b7, b8, b9⟩ := hb
      rw [wst_some c1 c2 c3, q1, q6]
      simp (disch := omega) only [sj_ceq, sj_cne, sj_clt, sj_cge, sj_cgt, sj_cle, bi_ceq, bi_cne, bi_01]
      rw [if_neg (by omega)]
      by_cases c4 : v 13 k * v 14 k - acr v p o * tal v p o < q.2.2.2.2
      · obtain ⟨I', e, h1, h2⟩ := h163 (some (.int (sj (acr v p o)))) (some (.int (sj (tal v p o))))
        exact ⟨I', _, _, _, _, by rw [if_neg (by omega)]; exact e, by rw [if_pos c4]; exact h1, h2⟩
      · exact ⟨I, _, _, _, _, by rw [if_pos (by omega)], by rw [if_neg c4]; exact ⟨q1, q2, q3, q4, q5, q6⟩, fun _ _ => rfl⟩
theorem m21 {d : Nat} (hd : 9 ≤ d) (hS : sk_G S) (ha : sk_isP a) (hv : vC I a = v) (hV : VO v) {p : Nat} (hp : (p : Int) < v 0 1) (h0 : CS I none) : ∃ I', sk_c d 21 [.ref 72, .ref a, .ref (a + 9 + p)] (sk_mk S I) = some (none, sk_mk S I') ∧ CS I' (wF v p) ∧ QB (wF v p) ∧ ∀ b, b ≠ 73 → I' b = I b := by
  obtain ⟨n1, n2, n3, n4, n5, n6, n7, n8, n9, n10, n11, n12⟩ := hV.1
  obtain ⟨d, rfl⟩ : ∃ e, d = e + 1 := ⟨d - 1, by omega⟩; rw [sk_e21]
  simp (disch := omega) only [pl_r0 hS ha, pl_r1 hS ha, pl_r2 hS ha, pl_r3 hS ha, pl_i4 hS ha, pl_u4 hS ha, pl_i5 hS ha, pl_u5 hS ha, pl_i6 hS ha, pl_u6 hS ha, pl_i7 hS ha, pl_u7 hS ha, pl_i8 hS ha, pl_u8 hS ha, pl_o hS ha, pl_p hS ha, po_a hS ha, po_s hS ha, po_n hS ha, ps_a hS ha, ps_s hS ha, ps_n hS ha, pw_r0 hS ha, pw_r1 hS ha, pw_r2 hS ha, pw_r3 hS ha, pw_i4 hS ha, pw_u4 hS ha, pw_o hS ha, pw0_a hS ha, pw0_s hS ha, pw0_n hS ha, pw1_a hS ha, pw1_s hS ha, pw1_n hS ha, pw2_a hS ha, pw2_s hS ha, pw2_n hS ha, pw3_a hS ha, pw3_s hS ha, pw3_n hS ha, pq_i0 hS ha, pq_u0 hS ha, pq_i1 hS ha, pq_u1 hS ha, pq_i2 hS ha, pq_u2 hS ha, pq_i3 hS ha, pq_u3 hS ha, pq_i4 hS ha, pq_u4 hS ha, pq_i5 hS ha, pq_u5 hS ha, pq_i6 hS ha, pq_u6 hS ha, pq_i7 hS ha, pq_u7 hS ha, pq_i8 hS ha, pq_u8 hS ha, pq_i9 hS ha, pq_u9 hS ha, pq_o hS ha, Option.bind_some, sk_ci_some, sk_cv_some, sk_cf_some, if_true, eq_self, ite_self, vc4 hv, vc5 hv, vc6 hv, vc7 hv, vc8 hv, vcz hv, vp0 hv, vp1 hv, vp2 hv, vp3 hv, vp4 hv, vp5 hv, vp6 hv, vp7 hv, vp8 hv, vp9 hv, vo_ hv, vs_ hv, vx0 hv, vx1 hv, vx2 hv, vx3 hv, Int.toNat_natCast, sj_add, sj_sub, sj_mul, sj_neg, sj_div, sj_ceq, sj_cne, sj_clt, sj_cge, sj_cgt, sj_cle, bi_ceq, bi_cne, bi_01, p30 (v := v)]
  have key := lp_run (fun k (X : Option sk_R) => ∃ I' o6 o7 o8 o9 o10, X = sk_D21 d 18 [some (.ref 72), some (.ref a), some (.ref (a + 9 + p)), some (.ref (a + 4)), some (.int (sj (if twoW v p = true then 2 else 1))), some (.int (sj (k : Int))), o6, o7, o8, o9, o10] [] (sk_mk S I') ∧ CS I' (fld k (fun k s => wst2 v p k s) none) ∧ QB (fld k (fun k s => wst2 v p k s) none) ∧ ∀ b, b ≠ 73 → I' b = I b) (v 0 5).toNat (fun k X hk hX => by
    obtain ⟨I1, o6, o7, o8, o9, o10, rfl, hc, hq, hf⟩ := hX
    have hv1 : vC I1 a = v := (vC_fr (fun b h1 h2 => hf b (by rcases ha with rfl | rfl | rfl <;> omega))).trans hv
    rw [sk_e21_18]
    have hkk : (k : Int) < v 0 5 := by omega
    simp (disch := omega) only [pw_r0 hS ha, pw_r1 hS ha, pw_r2 hS ha, pw_r3 hS ha, pw_i4 hS ha, pw_u4 hS ha, pw_o hS ha, pw0_a hS ha, pw0_s hS ha, pw0_n hS ha, pw1_a hS ha, pw1_s hS ha, pw1_n hS ha, pw2_a hS ha, pw2_s hS ha, pw2_n hS ha, pw3_a hS ha, pw3_s hS ha, pw3_n hS ha, Option.bind_some, sk_ci_some, sk_cv_some, sk_cf_some, if_true, eq_self, ite_self, sj_ceq, sj_cne, sj_clt, sj_cge, sj_cgt, sj_cle, bi_ceq, bi_cne, bi_01, vcz hv1]
    rw [if_neg (by omega)]
    obtain ⟨I2, p7, p8, p9, p10, e2, hc2, hf2⟩ := m21_st hd hS ha hv1 hV hp hkk (Or.inl rfl) hc hq (if twoW v p = true then 2 else 1) (by split <;> omega) (by split <;> omega) (some (.ref a)) o7 o8 o9 o10
    have hq2 := wst_QB hV hp hkk (o := 0) (Or.inl rfl) hq
    have hv2 : vC I2 a = v := (vC_fr (fun b h1 h2 => hf2 b (by rcases ha with rfl | rfl | rfl <;> omega))).trans hv1
    rw [e2]
    cases ht : twoW v p with
    | false =>
      refine ⟨I2, some (.int (sj 1)), p7, p8, p9, p10, ?_, ?_, ?_, fun b hb => (hf2 b hb).trans (hf b hb)⟩
      · rw [sk_e21_30]
        simp (disch := omega) only [Option.bind_some, sk_ci_some, sk_cv_some, sk_cf_some, if_true, eq_self, ite_self, sj_ceq, sj_cne, sj_clt, sj_cge, sj_cgt, sj_cle, bi_ceq, bi_cne, bi_01, sj_add, sj_sub, sj_mul, sj_neg, sj_div, Int.natCast_add, Int.cast_ofNat_Int, ← Int.add_assoc]
        simp
      · show CS I2 (wst2 v p k _)
        rw [show ∀ s, wst2 v p k s = wst v p k 0 s from fun s => by simp [wst2, ht]]
        exact hc2
      · show QB (wst2 v p k _)
        rw [show ∀ s, wst2 v p k s = wst v p k 0 s from fun s => by simp [wst2, ht]]
        exact hq2
    | true =>
      obtain ⟨I3, r7, r8, r9, r10, e3, hc3, hf3⟩ := m21_st hd hS ha hv2 hV hp hkk (o := 1) (Or.inr rfl) hc2 hq2 (if twoW v p = true then 2 else 1) (by rw [ht]; decide) (by split <;> omega) (some (.ref a)) p7 p8 p9 p10
      have hq3 := wst_QB hV hp hkk (o := 1) (Or.inr rfl) hq2
      rw [ht] at e3
      refine ⟨I3, some (.int (sj 2)), r7, r8, r9, r10, ?_, ?_, ?_, fun b hb => (hf3 b hb).trans ((hf2 b hb).trans (hf b hb))⟩
      · refine e3.trans ?_
        rw [sk_e21_30]
        simp (disch := omega) only [Option.bind_some, sk_ci_some, sk_cv_some, sk_cf_some, if_true, eq_self, ite_self, sj_ceq, sj_cne, sj_clt, sj_cge, sj_cgt, sj_cle, bi_ceq, bi_cne, bi_01, sj_add, sj_sub, sj_mul, sj_neg, sj_div, Int.natCast_add, Int.cast_ofNat_Int, ← Int.add_assoc]
        simp
      · show CS I3 (wst2 v p k _)
        rw [show ∀ s, wst2 v p k s = wst v p k 1 (wst v p k 0 s) from fun s => by simp [wst2, ht]]
        exact hc3
      · show QB (wst2 v p k _)
        rw [show ∀ s, wst2 v p k s = wst v p k 1 (wst v p k 0 s) from fun s => by simp [wst2, ht]]
        exact hq3) ⟨I, none, none, none, none, none, rfl, h0, trivial, fun _ _ => rfl⟩
  obtain ⟨I1, o6, o7, o8, o9, o10, e, hc, hq, hf⟩ := key
  have hv1 : vC I1 a = v := (vC_fr (fun b h1 h2 => hf b (by rcases ha with rfl | rfl | rfl <;> omega))).trans hv
  refine ⟨I1, ?_, hc, hq, hf⟩
  refine e.trans ?_
  rw [sk_e21_18]
  simp (disch := omega) only [pw_r0 hS ha, pw_r1 hS ha, pw_r2 hS ha, pw_r3 hS ha, pw_i4 hS ha, pw_u4 hS ha, pw_o hS ha, pw0_a hS ha, pw0_s hS ha, pw0_n hS ha, pw1_a hS ha, pw1_s hS ha, pw1_n hS ha, pw2_a hS ha, pw2_s hS ha, pw2_n hS ha, pw3_a hS ha, pw3_s hS ha, pw3_n hS ha, Option.bind_some, sk_ci_some, sk_cv_some, sk_cf_some, if_true, eq_self, ite_self, sj_ceq, sj_cne, sj_clt, sj_cge, sj_cgt, sj_cle, bi_ceq, bi_cne, bi_01, vcz hv1]
  rw [if_pos (by omega)]
end FND
