/-! ===== where a part would be laid on the skyline ===== -/
section FN0
variable {S : List sk_Sh} {I v : sk_H} {a : Nat}
theorem i52 {d : Nat} (hd : 2 ≤ d) (hS : sk_G S) (ha : sk_isP a) (hv : vC I a = v) (hV : VO v) {x : Nat} {w t : Int} (hw : 0 ≤ w) (h : (x : Int) + w ≤ v 0 0) (h1 : 0 ≤ t) (h2 : t ≤ 400) : sk_c d 52 [.ref a, .int (sj x), .int (sj w), .int (sj t)] (sk_mk S I) = some (some (.int (sj (restV v x w.toNat t))), sk_mk S I) := by
  have := m52 hd hS ha hv hV (x := x) (w := w.toNat) (t := t) (by omega) h1 h2
  rwa [Int.toNat_of_nonneg hw] at this
theorem i53 {d : Nat} (hd : 1 ≤ d) (hS : sk_G S) (ha : sk_isP a) (hv : vC I a = v) (hV : VO v) {x : Nat} {w y : Int} (hw : 0 ≤ w) (h : (x : Int) + w ≤ v 0 0) (h1 : 0 ≤ y) (h2 : y ≤ 400) : sk_c d 53 [.ref a, .int (sj x), .int (sj y), .int (sj w)] (sk_mk S I) = some (some (.int (sj (wstV v x w.toNat y))), sk_mk S I) := by
  have := m53 hd hS ha hv hV (x := x) (w := w.toNat) (y := y) (by omega) h1 h2
  rwa [Int.toNat_of_nonneg hw] at this
theorem i55 {d : Nat} (hd : 2 ≤ d) (hS : sk_G S) (ha : sk_isP a) (hv : vC I a = v) (hV : VO v) {x : Nat} {w y t ws : Int} (hw : 0 ≤ w) (h : (x : Int) + w ≤ v 0 0) (h1 : 0 ≤ y) (h2 : y ≤ 400) (h3 : 0 ≤ t) (h4 : t ≤ 400) : sk_c d 55 [.ref a, .int (sj x), .int (sj y), .int (sj w), .int (sj t), .int (sj ws)] (sk_mk S I) = some (some (.int (sj (costV v x w.toNat y t ws))), sk_mk S I) := by
  have := m55 hd hS ha hv hV (x := x) (w := w.toNat) (y := y) (t := t) (ws := ws) (by omega) h1 h2 h3 h4
  rwa [Int.toNat_of_nonneg hw] at this
theorem i174 {d : Nat} (hd : 1 ≤ d) (hS : sk_G S) (hR : RP I 107 v) (hV : VO v) {x : Nat} {w y : Int} (hw : 0 ≤ w) (h : (x : Int) + w ≤ v 0 0) (h1 : 0 ≤ y) (h2 : y ≤ 400) : sk_c d 174 [.ref 105, .int (sj x), .int (sj y), .int (sj w)] (sk_mk S I) = some (some (.int (sj (wstV v x w.toNat y))), sk_mk S I) := by
  have := m174 hd hS hR hV (x := x) (w := w.toNat) (y := y) (by omega) h1 h2
  rwa [Int.toNat_of_nonneg hw] at this
theorem i175 {d : Nat} (hd : 4 ≤ d) (hS : sk_G S) (hR : RP I 107 v) (hV : VO v) {x : Nat} {w t : Int} (hw : 0 ≤ w) (h : (x : Int) + w ≤ v 0 0) (h1 : 0 ≤ t) (h2 : t ≤ 400) : sk_c d 175 [.ref 105, .int (sj x), .int (sj w), .int (sj t)] (sk_mk S I) = some (some (.int (sj (restV v x w.toNat t))), sk_mk S I) := by
  have := m175 hd hS hR hV (x := x) (w := w.toNat) (t := t) (by omega) h1 h2
  rwa [Int.toNat_of_nonneg hw] at this
theorem i177 {d : Nat} (hd : 2 ≤ d) (hS : sk_G S) (hR : RP I 107 v) (hV : VO v) {x : Nat} {w t y : Int} (hw : 0 ≤ w) (ht : 0 ≤ t) (h : (x : Int) + w ≤ v 0 0) (h1 : 0 ≤ y) (h2 : y ≤ 400) (h4 : t ≤ 400) : sk_c d 177 [.ref 105, .int (sj x), .int (sj y), .int (sj w), .int (sj t)] (sk_mk S I) = some (some (.int (sj (costV v x w.toNat y t (wstV v x w.toNat y)))), sk_mk S I) := by
  have := m177 hd hS hR hV (x := x) (w := w.toNat) (y := y) (t := t.toNat) (by omega) h1 h2 (by omega)
  rwa [Int.toNat_of_nonneg hw, Int.toNat_of_nonneg ht] at this
end FN0
def rsY (v : sk_H) (p x : Nat) (o : Int) : Int := restV v x (acr v p o).toNat (tal v p o)
def rsW (v : sk_H) (p x : Nat) (o : Int) : Int := wstV v x (acr v p o).toNat (rsY v p x o)
def rsC (v : sk_H) (p x : Nat) (o : Int) : Int := costV v x (acr v p o).toNat (rsY v p x o) (tal v p o) (rsW v p x o)
def fea (v : sk_H) (p x : Nat) (o : Int) : Bool := decide ((x : Int) + acr v p o ≤ v 0 0) && mayl v p x (rsY v p x o) (rsW v p x o)
def cnd (v : sk_H) (p x : Nat) (o : Int) : sk_Q := ((x : Int), rsY v p x o, o, -1, rsC v p x o)
def sst (v : sk_H) (p x : Nat) (o : Int) (s : Option sk_Q) : Option sk_Q := if fea v p x o = true then (match s with
    | none => some (cnd v p x o)
    | some q => if rsC v p x o < q.2.2.2.2 ∨ (rsC v p x o = q.2.2.2.2 ∧ rsY v p x o < q.2.1) then some (cnd v p x o) else s) else s
def sst2 (v : sk_H) (p x : Nat) (s : Option sk_Q) : Option sk_Q := if twoW v p = true then sst v p x 1 (sst v p x 0 s) else sst v p x 0 s
def sF (v : sk_H) (p : Nat) : Option sk_Q := fld (v 0 0).toNat (fun x s => sst2 v p x s) none
theorem cnd_rng {v : sk_H} (hV : VO v) {p : Nat} (hp : (p : Int) < v 0 1) {x : Nat} {o : Int} (ho : o = 0 ∨ o = 1) (h : (x : Int) + acr v p o ≤ v 0 0) : 0 ≤ rsY v p x o ∧ rsY v p x o ≤ 400 ∧ -8000 ≤ rsW v p x o ∧ rsW v p x o ≤ 8000 ∧ -8000 ≤ rsC v p x o ∧ rsC v p x o ≤ 8000 ∧ QB (some (cnd v p x o)) := by
  obtain ⟨n1, n2, n3, n4, n5, n6, n7, n8, n9, n10, n11, n12⟩ := hV.1
  have ha := acr_rng hV.1 (vo_p hV hp) o
  have ht := tal_rng hV.1 (vo_p hV hp) o
  have hx : (x : Int) + ((acr v p o).toNat : Int) ≤ v 0 0 := by omega
  have h1 : 0 ≤ rsY v p x o ∧ rsY v p x o ≤ 400 := restV_rng hV hx
  have h2 : -8000 ≤ rsW v p x o ∧ rsW v p x o ≤ 8000 := wstV_rng hV hx h1.1 h1.2
  have h3 := tchV_rng hV hx h1.1 h1.2 (t := tal v p o) (by omega) (by omega)
  have h4 : -8000 ≤ rsC v p x o ∧ rsC v p x o ≤ 8000 := by
    unfold rsC costV
    split
    · exact h2
    · split
      · omega
      · split <;> omega
  refine ⟨h1.1, h1.2, h2.1, h2.2, h4.1, h4.2, ?_⟩
  refine ⟨?_, ?_, h1.1, h1.2, ho, ?_, ?_, ?_, ?_⟩ <;> dsimp only [cnd] <;> omega
theorem sst_QB {v : sk_H} (hV : VO v) {p : Nat} (hp : (p : Int) < v 0 1) {x : Nat} {o : Int} (ho : o = 0 ∨ o = 1) {s : Option sk_Q} (hs : QB s) : QB (sst v p x o s) := by
  unfold sst
  split
  · next hf =>
    have hx : (x : Int) + acr v p o ≤ v 0 0 := by
      unfold fea at hf
      rw [Bool.and_eq_true, decide_eq_true_eq] at hf
      exact hf.1
    have hn := (cnd_rng hV hp ho hx).2.2.2.2.2.2
    split
    · exact hn
    · split
      · exact hn
      · exact hs
  · exact hs
theorem sst_no {v : sk_H} {p x : Nat} {o : Int} (s : Option sk_Q) (h : fea v p x o = false) : sst v p x o s = s := by
  unfold sst
  rw [h]
  rfl
theorem sst_none {v : sk_H} {p x : Nat} {o : Int} (h : fea v p x o = true) : sst v p x o none = some (cnd v p x o) := by
  unfold sst
  rw [h]
  rfl
theorem sst_some {v : sk_H} {p x : Nat} {o : Int} (q : sk_Q) (h : fea v p x o = true) : sst v p x o (some q) = if rsC v p x o < q.2.2.2.2 ∨ (rsC v p x o = q.2.2.2.2 ∧ rsY v p x o < q.2.1) then some (cnd v p x o) else some q := by
  unfold sst
  rw [h]
  rfl
section FND
variable {S : List sk_Sh} {I v : sk_H} {a : Nat}
theorem m22_st {d : Nat} (hd : 9 ≤ d + 1) (hS : sk_G S) (ha : sk_isP a) (hv : vC I a = v) (hV : VO v) {p : Nat} (hp : (p : Int) < v 0 1) {x : Nat} (hx : (x : Int) < v 0 0) {o : Int} (ho : o = 0 ∨ o = 1) {s : Option sk_Q} (hs : CS I s) (hb : QB s) (ways : Int) (hw : o < ways) (hw2 : ways ≤ 2) (o6 o7 o8 o9 o10 o11 o12 : Option Value) : ∃ I' p6 p7 p8 p9 p10 p11 p12, sk_D22 d 24 [some (.ref 72), some (.ref a), some (.ref (a + 9 + p)), some (.int (sj ways)), some (.int (sj x)), some (.int (sj o)), o6, o7, o8, o9, o10, o11, o12] [] (sk_mk S I) = sk_D22 d 24 [some (.ref 72), some (.ref a), some (.ref (a + 9 + p)), some (.int (sj ways)), some (.int (sj x)), some (.int (sj (o + 1))), p6, p7, p8, p9, p10, p11, p12] [] (sk_mk S I') ∧ CS I' (sst v p x o s) ∧ ∀ b, b ≠ 73 → I' b = I b := by
  obtain ⟨n1, n2, n3, n4, n5, n6, n7, n8, n9, n10, n11, n12⟩ := hV.1
  have ha1 := acr_rng hV.1 (vo_p hV hp) o
  have ht1 := tal_rng hV.1 (vo_p hV hp) o
  have e41 : sk_D22 d 24 [some (.ref 72), some (.ref a), some (.ref (a + 9 + p)), some (.int (sj ways)), some (.int (sj x)), some (.int (sj o)), o6, o7, o8, o9, o10, o11, o12] [] (sk_mk S I) = sk_D22 d 41 [some (.ref 72), some (.ref a), some (.ref (a + 9 + p)), some (.int (sj ways)), some (.int (sj x)), some (.int (sj o)), o6, o7, o8, o9, o10, o11, o12] [.int (sj o)] (sk_mk S I) := by
    rw [sk_e22_24]
    simp (disch := omega) only [Option.bind_some, sk_ci_some, sk_cv_some, sk_cf_some, if_true, eq_self, ite_self, sj_ceq, sj_cne, sj_clt, sj_cge, sj_cgt, sj_cle, bi_ceq, bi_cne, bi_01]
    rw [if_neg (by omega)]
    rcases ho with rfl | rfl
    · rw [if_pos (by omega)]
    · rw [if_neg (by omega)]
  rw [e41, sk_e22_41, if_pos (pq_o hS ha (by omega)), p31 (by omega) hS ha hv hV hp ho, sk_ci_some, if_pos (pq_o hS ha (by omega)), p32 (by omega) hS ha hv hV hp ho, sk_ci_some, pl_i4 hS ha, Option.bind_some, vc4 hv, sj_add, sj_add o]
  have hcc : (sk_cond .le (sj ((x : Int) + acr v p o)) (sj (v 0 0)) = true) = ((x : Int) + acr v p o ≤ v 0 0) := sj_cle (by omega) (by omega) (by omega) (by omega)
  by_cases c1 : (x : Int) + acr v p o ≤ v 0 0
  · obtain ⟨r1, r2, r3, r4, r5, r6, r7⟩ := cnd_rng hV hp ho c1
    have e52 := i52 (S := S) (I := I) (d := d) (by omega) hS ha hv hV (x := x) (w := acr v p o) (t := tal v p o) (by omega) c1 (by omega) (by omega)
    have e53 := i53 (S := S) (I := I) (d := d) (by omega) hS ha hv hV (x := x) (w := acr v p o) (y := rsY v p x o) (by omega) c1 r1 r2
    have e55 := i55 (S := S) (I := I) (d := d) (by omega) hS ha hv hV (x := x) (w := acr v p o) (y := rsY v p x o) (t := tal v p o) (ws := rsW v p x o) (by omega) c1 r1 r2 (by omega) (by omega)
    have e33 := p33 (S := S) (I := I) (d := d) (by omega) hS ha hv hV hp (x := x) (y := rsY v p x o) (ws := rsW v p x o) (by omega) (by omega) r1 (by omega) (by omega) (by omega)
    rw [if_pos (by rw [hcc]; exact c1), if_pos (pl_o hS ha), e52]
    change _ = some (some (Value.int (sj (rsW v p x o))), _) at e53
    change _ = some (some (Value.int (sj (rsC v p x o))), _) at e55
    change ∃ I' p6 p7 p8 p9 p10 p11 p12, sk_ci (some (some (Value.int (sj (rsY v p x o))), _)) _ = _ ∧ _
    rw [sk_ci_some]
    simp (maxSteps := 1000000) (disch := omega) only [Option.bind_some, sk_ci_some, sk_cv_some, sk_cf_some, if_true, eq_self, ite_self, pl_o hS ha, pq_o hS ha, e53, e33, bi_cne]
    cases c3 : mayl v p x (rsY v p x o) (rsW v p x o) with
    | false =>
      have hf : fea v p x o = false := by unfold fea; rw [c3, Bool.and_false]
      rw [if_neg (by simp)]
      exact ⟨I, _, _, _, _, _, _, _, rfl, by rw [sst_no _ hf]; exact hs, fun _ _ => rfl⟩
    | true =>
      have hf : fea v p x o = true := by unfold fea; rw [c3, Bool.and_true]; exact decide_eq_true c1
      rw [if_pos rfl]
      simp (maxSteps := 1000000) (disch := omega) only [Option.bind_some, sk_ci_some, sk_cv_some, sk_cf_some, if_true, eq_self, ite_self, pl_o hS ha, e55, g72_r0 hS, g72_o hS, g73_i0 hS, g73_u0 hS, g73_i1 hS, g73_u1 hS, g73_i2 hS, g73_u2 hS, g73_i3 hS, g73_u3 hS, g73_i4 hS, g73_u4 hS, g73_i5 hS, g73_u5 hS, g73_o hS, sj_ceq, sj_cne, sj_clt, sj_cge, sj_cgt, sj_cle, bi_ceq, bi_cne, bi_01]
      have h181 : ∀ (o7 o8 o10 o12 : Option Value), ∃ I' p12, sk_D22 d 181 [some (.ref 72), some (.ref a), some (.ref (a + 9 + p)), some (.int (sj ways)), some (.int (sj x)), some (.int (sj o)), some (.int (sj o)), o7, o8, some (.int (sj (rsY v p x o))), o10, some (.int (sj (rsC v p x o))), o12] [.int (sj 1)] (sk_mk S I) = sk_D22 d 24 [some (.ref 72), some (.ref a), some (.ref (a + 9 + p)), some (.int (sj ways)), some (.int (sj x)), some (.int (sj (o + 1))), some (.int (sj o)), o7, o8, some (.int (sj (rsY v p x o))), o10, some (.int (sj (rsC v p x o))), p12] [] (sk_mk S I') ∧ CS I' (some (cnd v p x o)) ∧ ∀ b, b ≠ 73 → I' b = I b := by
        intro o7 o8 o10 o12
        obtain ⟨I', e, h1, h2⟩ := m83 (S := S) (I := I) (d := d) (by omega) hS (x := x) (y := rsY v p x o) (r := -1) (c := rsC v p x o) ho
        refine ⟨I', some (.int (sj 1)), ?_, h1, h2⟩
        rw [sk_e22_181]
        simp (disch := omega) only [g72_r0 hS, g72_o hS, g73_i0 hS, g73_u0 hS, g73_i1 hS, g73_u1 hS, g73_i2 hS, g73_u2 hS, g73_i3 hS, g73_u3 hS, g73_i4 hS, g73_u4 hS, g73_i5 hS, g73_u5 hS, g73_o hS, Option.bind_some, sk_ci_some, sk_cv_some, sk_cf_some, if_true, eq_self, ite_self, sj_ceq, sj_cne, sj_clt, sj_cge, sj_cgt, sj_cle, bi_ceq, bi_cne, bi_01, sj_add, sj_sub, sj_mul, sj_neg, sj_div, e]
        rw [if_neg (by omega)]
      have h181n : ∀ (o7 o8 o10 o12 : Option Value), sk_D22 d 181 [some (.ref 72), some (.ref a), some (.ref (a + 9 + p)), some (.int (sj ways)), some (.int (sj x)), some (.int (sj o)), some (.int (sj o)), o7, o8, some (.int (sj (rsY v p x o))), o10, some (.int (sj (rsC v p x o))), o12] [.int (sj 0)] (sk_mk S I) = sk_D22 d 24 [some (.ref 72), some (.ref a), some (.ref (a + 9 + p)), some (.int (sj ways)), some (.int (sj x)), some (.int (sj (o + 1))), some (.int (sj o)), o7, o8, some (.int (sj (rsY v p x o))), o10, some (.int (sj (rsC v p x o))), some (.int (sj 0))] [] (sk_mk S I) := by
        intro o7 o8 o10 o12
        rw [sk_e22_181]
        simp (disch := omega) only [g72_r0 hS, g72_o hS, g73_i0 hS, g73_u0 hS, g73_i1 hS, g73_u1 hS, g73_i2 hS, g73_u2 hS, g73_i3 hS, g73_u3 hS, g73_i4 hS, g73_u4 hS, g73_i5 hS, g73_u5 hS, g73_o hS, Option.bind_some, sk_ci_some, sk_cv_some, sk_cf_some, if_true, eq_self, ite_self, sj_ceq, sj_cne, sj_clt, sj_cge, sj_cgt, sj_cle, bi_ceq, bi_cne, bi_01, sj_add, sj_sub, sj_mul, sj_neg, sj_div]
      cases s with
      | none =>
        have h0 : I 73 0 = 0 := hs
        rw [sst_none hf, h0]
        simp (disch := omega) only [sj_ceq, sj_cne, sj_clt, sj_cge, sj_cgt, sj_cle, bi_ceq, bi_cne, bi_01, if_true]
        obtain ⟨I', p12, e, h1, h2⟩ := h181 (some (.int (sj (acr v p o)))) (some (.int (sj (tal v p o)))) (some (.int (sj (rsW v p x o)))) o12
        exact ⟨I', _, _, _, _, _, _, _, e, h1, h2⟩
      | some q =>
        obtain ⟨q1, q2, q3, q4, q5, q6⟩ := hs
        obtain ⟨b1, b2, b3, b4, b5, b6, b7, b8, b9⟩ := hb
        rw [sst_some q hf, q1, q3, q6]
        simp (disch := omega) only [sj_ceq, sj_cne, sj_clt, sj_cge, sj_cgt, sj_cle, bi_ceq, bi_cne, bi_01]
        rw [if_neg (by omega)]
        obtain ⟨I', p12, e, h1, h2⟩ := h181 (some (.int (sj (acr v p o)))) (some (.int (sj (tal v p o)))) (some (.int (sj (rsW v p x o)))) o12
        by_cases c4 : rsC v p x o < q.2.2.2.2
        · rw [if_pos c4, if_pos (Or.inl c4)]
          exact ⟨I', _, _, _, _, _, _, _, e, h1, h2⟩
        · rw [if_neg c4]
          by_cases c5 : rsC v p x o = q.2.2.2.2
          · rw [if_neg (by omega)]
            by_cases c6 : q.2.1 ≤ rsY v p x o
            · rw [if_pos c6, if_neg (by omega)]
              exact ⟨I, _, _, _, _, _, _, _, h181n _ _ _ _, ⟨q1, q2, q3, q4, q5, q6⟩, fun _ _ => rfl⟩
            · rw [if_neg c6, if_pos (by omega)]
              exact ⟨I', _, _, _, _, _, _, _, e, h1, h2⟩
          · rw [if_pos c5, if_neg (by omega)]
            exact ⟨I, _, _, _, _, _, _, _, h181n _ _ _ _, ⟨q1, q2, q3, q4, q5, q6⟩, fun _ _ => rfl⟩
  · have hf : fea v p x o = false := by unfold fea; rw [decide_eq_false c1, Bool.false_and]
    rw [if_neg (by rw [hcc]; exact c1)]
    exact ⟨I, _, _, _, _, _, _, _, rfl, by rw [sst_no _ hf]; exact hs, fun _ _ => rfl⟩
theorem m22 {d : Nat} (hd : 9 ≤ d) (hS : sk_G S) (ha : sk_isP a) (hv : vC I a = v) (hV : VO v) {p : Nat} (hp : (p : Int) < v 0 1) (h0 : CS I none) : ∃ I', sk_c d 22 [.ref 72, .ref a, .ref (a + 9 + p)] (sk_mk S I) = some (none, sk_mk S I') ∧ CS I' (sF v p) ∧ QB (sF v p) ∧ ∀ b, b ≠ 73 → I' b = I b := by
  obtain ⟨n1, n2, n3, n4, n5, n6, n7, n8, n9, n10, n11, n12⟩ := hV.1
  obtain ⟨d, rfl⟩ : ∃ e, d = e + 1 := ⟨d - 1, by omega⟩; rw [sk_e22]
  simp (disch := omega) only [pl_r0 hS ha, pl_r1 hS ha, pl_r2 hS ha, pl_r3 hS ha, pl_i4 hS ha, pl_u4 hS ha, pl_i5 hS ha, pl_u5 hS ha, pl_i6 hS ha, pl_u6 hS ha, pl_i7 hS ha, pl_u7 hS ha, pl_i8 hS ha, pl_u8 hS ha, pl_o hS ha, pl_p hS ha, po_a hS ha, po_s hS ha, po_n hS ha, ps_a hS ha, ps_s hS ha, ps_n hS ha, pw_r0 hS ha, pw_r1 hS ha, pw_r2 hS ha, pw_r3 hS ha, pw_i4 hS ha, pw_u4 hS ha, pw_o hS ha, pw0_a hS ha, pw0_s hS ha, pw0_n hS ha, pw1_a hS ha, pw1_s hS ha, pw1_n hS ha, pw2_a hS ha, pw2_s hS ha, pw2_n hS ha, pw3_a hS ha, pw3_s hS ha, pw3_n hS ha, pq_i0 hS ha, pq_u0 hS ha, pq_i1 hS ha, pq_u1 hS ha, pq_i2 hS ha, pq_u2 hS ha, pq_i3 hS ha, pq_u3 hS ha, pq_i4 hS ha, pq_u4 hS ha, pq_i5 hS ha, pq_u5 hS ha, pq_i6 hS ha, pq_u6 hS ha, pq_i7 hS ha, pq_u7 hS ha, pq_i8 hS ha, pq_u8 hS ha, pq_i9 hS ha, pq_u9 hS ha, pq_o hS ha, Option.bind_some, sk_ci_some, sk_cv_some, sk_cf_some, if_true, eq_self, ite_self, vc4 hv, vc5 hv, vc6 hv, vc7 hv, vc8 hv, vcz hv, vp0 hv, vp1 hv, vp2 hv, vp3 hv, vp4 hv, vp5 hv, vp6 hv, vp7 hv, vp8 hv, vp9 hv, vo_ hv, vs_ hv, vx0 hv, vx1 hv, vx2 hv, vx3 hv, Int.toNat_natCast, sj_add, sj_sub, sj_mul, sj_neg, sj_div, sj_ceq, sj_cne, sj_clt, sj_cge, sj_cgt, sj_cle, bi_ceq, bi_cne, bi_01, p30 (v := v)]
  have key := lp_run (fun k (X : Option sk_R) => ∃ I' o5 o6 o7 o8 o9 o10 o11 o12, X = sk_D22 d 12 [some (.ref 72), some (.ref a), some (.ref (a + 9 + p)), some (.int (sj (if twoW v p = true then 2 else 1))), some (.int (sj (k : Int))), o5, o6, o7, o8, o9, o10, o11, o12] [] (sk_mk S I') ∧ CS I' (fld k (fun k s => sst2 v p k s) none) ∧ QB (fld k (fun k s => sst2 v p k s) none) ∧ ∀ b, b ≠ 73 → I' b = I b) (v 0 0).toNat (fun k X hk hX => by
    obtain ⟨I1, o5, o6, o7, o8, o9, o10, o11, o12, rfl, hc, hq, hf⟩ := hX
    have hv1 : vC I1 a = v := (vC_fr (fun b h1 h2 => hf b (by rcases ha with rfl | rfl | rfl <;> omega))).trans hv
    rw [sk_e22_12]
    have hkk : (k : Int) < v 0 0 := by omega
    simp (disch := omega) only [pl_r0 hS ha, pl_r1 hS ha, pl_r2 hS ha, pl_r3 hS ha, pl_i4 hS ha, pl_u4 hS ha, pl_i5 hS ha, pl_u5 hS ha, pl_i6 hS ha, pl_u6 hS ha, pl_i7 hS ha, pl_u7 hS ha, pl_i8 hS ha, pl_u8 hS ha, pl_o hS ha, pl_p hS ha, po_a hS ha, po_s hS ha, po_n hS ha, ps_a hS ha, ps_s hS ha, ps_n hS ha, Option.bind_some, sk_ci_some, sk_cv_some, sk_cf_some, if_true, eq_self, ite_self, sj_ceq, sj_cne, sj_clt, sj_cge, sj_cgt, sj_cle, bi_ceq, bi_cne, bi_01, vc4 hv1]
    rw [if_neg (by omega)]
    obtain ⟨I2, p6, p7, p8, p9, p10, p11, p12, e2, hc2, hf2⟩ := m22_st hd hS ha hv1 hV hp hkk (Or.inl rfl) hc hq (if twoW v p = true then 2 else 1) (by split <;> omega) (by split <;> omega) o6 o7 o8 o9 o10 o11 o12
    have hq2 := sst_QB hV hp (x := k) (o := 0) (Or.inl rfl) hq
    have hv2 : vC I2 a = v := (vC_fr (fun b h1 h2 => hf2 b (by rcases ha with rfl | rfl | rfl <;> omega))).trans hv1
    rw [e2]
    cases ht : twoW v p with
    | false =>
      refine ⟨I2, some (.int (sj 1)), p6, p7, p8, p9, p10, p11, p12, ?_, ?_, ?_, fun b hb => (hf2 b hb).trans (hf b hb)⟩
      · rw [sk_e22_24]
        simp (disch := omega) only [Option.bind_some, sk_ci_some, sk_cv_some, sk_cf_some, if_true, eq_self, ite_self, sj_ceq, sj_cne, sj_clt, sj_cge, sj_cgt, sj_cle, bi_ceq, bi_cne, bi_01, sj_add, sj_sub, sj_mul, sj_neg, sj_div, Int.natCast_add, Int.cast_ofNat_Int, ← Int.add_assoc]
        simp
      · show CS I2 (sst2 v p k _)
        rw [show ∀ s, sst2 v p k s = sst v p k 0 s from fun s => by simp [sst2, ht]]
        exact hc2
      · show QB (sst2 v p k _)
        rw [show ∀ s, sst2 v p k s = sst v p k 0 s from fun s => by simp [sst2, ht]]
        exact hq2
    | true =>
      obtain ⟨I3, r6, r7, r8, r9, r10, r11, r12, e3, hc3, hf3⟩ := m22_st hd hS ha hv2 hV hp hkk (o := 1) (Or.inr rfl) hc2 hq2 (if twoW v p = true then 2 else 1) (by rw [ht]; decide) (by split <;> omega) p6 p7 p8 p9 p10 p11 p12
      have hq3 := sst_QB hV hp (x := k) (o := 1) (Or.inr rfl) hq2
      rw [ht] at e3
      refine ⟨I3, some (.int (sj 2)), r6, r7, r8, r9, r10, r11, r12, ?_, ?_, ?_, fun b hb => (hf3 b hb).trans ((hf2 b hb).trans (hf b hb))⟩
      · refine e3.trans ?_
        rw [sk_e22_24]
        simp (disch := omega) only [Option.bind_some, sk_ci_some, sk_cv_some, sk_cf_some, if_true, eq_self, ite_self, sj_ceq, sj_cne, sj_clt, sj_cge, sj_cgt, sj_cle, bi_ceq, bi_cne, bi_01, sj_add, sj_sub, sj_mul, sj_neg, sj_div, Int.natCast_add, Int.cast_ofNat_Int, ← Int.add_assoc]
        simp
      · show CS I3 (sst2 v p k _)
        rw [show ∀ s, sst2 v p k s = sst v p k 1 (sst v p k 0 s) from fun s => by simp [sst2, ht]]
        exact hc3
      · show QB (sst2 v p k _)
        rw [show ∀ s, sst2 v p k s = sst v p k 1 (sst v p k 0 s) from fun s => by simp [sst2, ht]]
        exact hq3) ⟨I, none, none, none, none, none, none, none, none, rfl, h0, trivial, fun _ _ => rfl⟩
  obtain ⟨I1, o5, o6, o7, o8, o9, o10, o11, o12, e, hc, hq, hf⟩ := key
  have hv1 : vC I1 a = v := (vC_fr (fun b h1 h2 => hf b (by rcases ha with rfl | rfl | rfl <;> omega))).trans hv
  refine ⟨I1, ?_, hc, hq, hf⟩
  refine e.trans ?_
  rw [sk_e22_12]
  simp (disch := omega) only [pl_r0 hS ha, pl_r1 hS ha, pl_r2 hS ha, pl_r3 hS ha, pl_i4 hS ha, pl_u4 hS ha, pl_i5 hS ha, pl_u5 hS ha, pl_i6 hS ha, pl_u6 hS ha, pl_i7 hS ha, pl_u7 hS ha, pl_i8 hS ha, pl_u8 hS ha, pl_o hS ha, pl_p hS ha, po_a hS ha, po_s hS ha, po_n hS ha, ps_a hS ha, ps_s hS ha, ps_n hS ha, Option.bind_some, sk_ci_some, sk_cv_some, sk_cf_some, if_true, eq_self, ite_self, sj_ceq, sj_cne, sj_clt, sj_cge, sj_cgt, sj_cle, bi_ceq, bi_cne, bi_01, vc4 hv1]
  rw [if_pos (by omega)]
/-- where a part would be laid -/
def fF (v : sk_H) (p : Nat) : Option sk_Q := if v 0 4 = 0 then sF v p else match wF v p with
  | none => sF v p
  | some q => some q
theorem m20 {d : Nat} (hd : 10 ≤ d) (hS : sk_G S) (ha : sk_isP a) (hv : vC I a = v) (hV : VO v) {p : Nat} (hp : (p : Int) < v 0 1) : ∃ I', sk_c d 20 [.ref 72, .ref a, .ref (a + 9 + p)] (sk_mk S I) = some (none, sk_mk S I') ∧ CS I' (fF v p) ∧ QB (fF v p) ∧ ∀ b, b ≠ 73 → I' b = I b := by
  obtain ⟨n1, n2, n3, n4, n5, n6, n7, n8, n9, n10, n11, n12⟩ := hV.1
  obtain ⟨d, rfl⟩ : ∃ e, d = e + 1 := ⟨d - 1, by omega⟩; rw [sk_e20]
  simp (disch := omega) only [pl_r0 hS ha, pl_r1 hS ha, pl_r2 hS ha, pl_r3 hS ha, pl_i4 hS ha, pl_u4 hS ha, pl_i5 hS ha, pl_u5 hS ha, pl_i6 hS ha, pl_u6 hS ha, pl_i7 hS ha, pl_u7 hS ha, pl_i8 hS ha, pl_u8 hS ha, pl_o hS ha, pl_p hS ha, po_a hS ha, po_s hS ha, po_n hS ha, ps_a hS ha, ps_s hS ha, ps_n hS ha, pw_r0 hS ha, pw_r1 hS ha, pw_r2 hS ha, pw_r3 hS ha, pw_i4 hS ha, pw_u4 hS ha, pw_o hS ha, pw0_a hS ha, pw0_s hS ha, pw0_n hS ha, pw1_a hS ha, pw1_s hS ha, pw1_n hS ha, pw2_a hS ha, pw2_s hS ha, pw2_n hS ha, pw3_a hS ha, pw3_s hS ha, pw3_n hS ha, pq_i0 hS ha, pq_u0 hS ha, pq_i1 hS ha, pq_u1 hS ha, pq_i2 hS ha, pq_u2 hS ha, pq_i3 hS ha, pq_u3 hS ha, pq_i4 hS ha, pq_u4 hS ha, pq_i5 hS ha, pq_u5 hS ha, pq_i6 hS ha, pq_u6 hS ha, pq_i7 hS ha, pq_u7 hS ha, pq_i8 hS ha, pq_u8 hS ha, pq_i9 hS ha, pq_u9 hS ha, pq_o hS ha, Option.bind_some, sk_ci_some, sk_cv_some, sk_cf_some, if_true, eq_self, ite_self, vc4 hv, vc5 hv, vc6 hv, vc7 hv, vc8 hv, vcz hv, vp0 hv, vp1 hv, vp2 hv, vp3 hv, vp4 hv, vp5 hv, vp6 hv, vp7 hv, vp8 hv, vp9 hv, vo_ hv, vs_ hv, vx0 hv, vx1 hv, vx2 hv, vx3 hv, Int.toNat_natCast, sj_add, sj_sub, sj_mul, sj_neg, sj_div, sj_ceq, sj_cne, sj_clt, sj_cge, sj_cgt, sj_cle, bi_ceq, bi_cne, bi_01, g72_r0 hS, g72_o hS, g73_i0 hS, g73_u0 hS, g73_i1 hS, g73_u1 hS, g73_i2 hS, g73_u2 hS, g73_i3 hS, g73_u3 hS, g73_i4 hS, g73_u4 hS, g73_i5 hS, g73_u5 hS, g73_o hS]
  have hf0 : ∀ b, b ≠ 73 → u2 I 73 0 0 b = I b := fun b hb => funext fun j => by simp [u2, hb]
  have hv0 : vC (u2 I 73 0 0) a = v := (vC_fr (fun b h1 h2 => hf0 b (by rcases ha with rfl | rfl | rfl <;> omega))).trans hv
  have h00 : CS (u2 I 73 0 0) none := by simp [CS, u2]
  have h01 : u2 I 73 0 0 73 0 = 0 := h00
  simp (disch := omega) only [sj_ceq, sj_cne, sj_clt, sj_cge, sj_cgt, sj_cle, bi_ceq, bi_cne, bi_01, Option.bind_some, sk_ci_some, sk_cv_some, sk_cf_some, if_true, eq_self, ite_self, vc8 hv0, h01]
  obtain ⟨J, ej, cj, qj, fj⟩ := m22 (d := d) (by omega) hS ha hv0 hV hp h00
  by_cases c : v 0 4 = 0
  · rw [if_pos c, if_neg (by simp), ej]
    refine ⟨J, rfl, ?_, ?_, fun b hb => (fj b hb).trans (hf0 b hb)⟩
    · unfold fF; rw [if_pos c]; exact cj
    · unfold fF; rw [if_pos c]; exact qj
  · rw [if_neg c]
    obtain ⟨K, ek, ck, qk, fk⟩ := m21 (d := d) (by omega) hS ha hv0 hV hp h00
    rw [ek, sk_cv_some]
    have hvk : vC K a = v := (vC_fr (fun b h1 h2 => fk b (by rcases ha with rfl | rfl | rfl <;> omega))).trans hv0
    simp (disch := omega) only [g72_r0 hS, g72_o hS, g73_i0 hS, g73_u0 hS, g73_i1 hS, g73_u1 hS, g73_i2 hS, g73_u2 hS, g73_i3 hS, g73_u3 hS, g73_i4 hS, g73_u4 hS, g73_i5 hS, g73_u5 hS, g73_o hS, Option.bind_some, sk_ci_some, sk_cv_some, sk_cf_some, if_true, eq_self, ite_self]
    cases hw : wF v p with
    | none =>
      rw [hw] at ck
      obtain ⟨J, ej, cj, qj, fj⟩ := m22 (d := d) (by omega) hS ha hvk hV hp ck
      have h02 : K 73 0 = 0 := ck
      rw [h02, ej]
      refine ⟨J, rfl, ?_, ?_, fun b hb => (fj b hb).trans ((fk b hb).trans (hf0 b hb))⟩
      · unfold fF; rw [if_neg c, hw]; exact cj
      · unfold fF; rw [if_neg c, hw]; exact qj
    | some q =>
      rw [hw] at ck qk
      rw [ck.1]
      refine ⟨K, rfl, ?_, ?_, fun b hb => (fk b hb).trans (hf0 b hb)⟩
      · unfold fF; rw [if_neg c, hw]; exact ck
      · unfold fF; rw [if_neg c, hw]; exact qk
end FND
