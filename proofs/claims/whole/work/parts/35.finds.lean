/-! ===== where a part would be laid: the reference's way ===== -/
def RS (I : sk_H) (s : Option sk_Q) : Prop := match s with
  | none => True
  | some q => I 105 7 = q.1 ∧ I 105 8 = q.2.1 ∧ I 105 9 = q.2.2.1 ∧ I 105 10 = q.2.2.2.1
def lst (n : Int) (s : Option sk_Q) : Int := match s with
  | none => n
  | some q => q.2.2.2.2
def QW (s : Option sk_Q) : Prop := match s with
  | none => True
  | some q => 0 ≤ q.2.2.2.2 ∧ 0 ≤ q.2.2.2.1
/-- only what was found changes -/
def FR (I I' : sk_H) : Prop := (∀ b, b ≠ 105 → I' b = I b) ∧ ∀ k, ¬ (7 ≤ k ∧ k ≤ 10) → I' 105 k = I 105 k
theorem FR.rfl' (I : sk_H) : FR I I := ⟨fun _ _ => rfl, fun _ _ => rfl⟩
theorem FR.trans {I J K : sk_H} (h1 : FR I J) (h2 : FR J K) : FR I K := ⟨fun b hb => (h2.1 b hb).trans (h1.1 b hb), fun k hk => (h2.2 k hk).trans (h1.2 k hk)⟩
theorem RP.fr {I I' v : sk_H} {m : Nat} (h : RP I m v) (e : I' m = I m) : RP I' m v := by
  unfold RP
  rw [e]
  exact h
theorem RP.FR {I I' v : sk_H} (h : RP I 107 v) (e : FR I I') : RP I' 107 v := h.fr (e.1 107 (by omega))
theorem wst_QW {v : sk_H} (hV : VO v) {p k : Nat} (hp : (p : Int) < v 0 1) (hk : (k : Int) < v 0 5) {o : Int} {s : Option sk_Q} (hs : QW s) : QW (wst v p k o s) := by
  obtain ⟨n1, n2, n3, n4, n5, n6, n7, n8, n9, n10, n11, n12⟩ := hV.1
  have hw := hV.2.2.2.2 k hk
  have ha1 := acr_rng hV.1 (vo_p hV hp) o
  have ht1 := tal_rng hV.1 (vo_p hV hp) o
  unfold wst
  split
  · exact hs
  · next hc =>
    have hle : acr v p o * tal v p o ≤ v 13 k * v 14 k := Int.mul_le_mul (by omega) (by omega) (by omega) (by omega)
    have hn : QW (some (v 11 k, v 12 k, o, (k : Int), v 13 k * v 14 k - acr v p o * tal v p o)) := ⟨by dsimp only; omega, by dsimp only; omega⟩
    split
    · exact hn
    · split
      · exact hn
      · exact hs
section FND
variable {S : List sk_Sh} {I v : sk_H}
theorem r178_st {d : Nat} (hd : 5 ≤ d + 1) (hS : sk_G S) (hR : RP I 107 v) (hV : VO v) {p : Nat} (hp : (p : Int) < v 0 1) {k : Nat} (hk : (k : Int) < v 0 5) {o : Int} (ho : o = 0 ∨ o = 1) {s : Option sk_Q} (hs : RS I s) (hb : QB s) (hq : QW s) (ways : Int) (hw : o < ways) (hw2 : ways ≤ 2) (o6 o7 : Option Value) : ∃ I' p6 p7, sk_D178 d 43 [some (.ref 105), some (.int (sj p)), some (.int (sj ways)), some (.int (sj (lst (-1) s))), some (.int (sj k)), some (.int (sj o)), o6, o7, none, none, none] [] (sk_mk S I) = sk_D178 d 43 [some (.ref 105), some (.int (sj p)), some (.int (sj ways)), some (.int (sj (lst (-1) (wst v p k o s)))), some (.int (sj k)), some (.int (sj (o + 1))), p6, p7, none, none, none] [] (sk_mk S I') ∧ RS I' (wst v p k o s) ∧ FR I I' := by
  obtain ⟨n1, n2, n3, n4, n5, n6, n7, n8, n9, n10, n11, n12⟩ := hV.1
  have hW := hV.2.2.2.2 k hk
  have hl := left_rng hV hp hk o
  have ha1 := acr_rng hV.1 (vo_p hV hp) o
  have ht1 := tal_rng hV.1 (vo_p hV hp) o
  obtain ⟨z0, z1, z2, z3⟩ := rz_ hR (p := (k : Int)) (by omega) hk
  rw [Int.toNat_natCast] at z0 z1 z2 z3
  have hls : -1 ≤ lst (-1) s ∧ lst (-1) s ≤ 100000 := by
    cases s with
    | none => exact ⟨by decide, by decide⟩
    | some q => exact ⟨by have := hq.1; show -1 ≤ q.2.2.2.2; omega, hb.2.2.2.2.2.2.2.2⟩
  have e151 := m151 (S := S) (I := I) (d := d) (by omega) hS hR hV hp ho
  have e152 := m152 (S := S) (I := I) (d := d) (by omega) hS hR hV hp ho
  have e153 := m153 (S := S) (I := I) (d := d) (by omega) hS hR hV hp (x := v 11 k) (y := v 12 k) (ws := 0) (by omega) (by omega) (by omega) (by omega) (by omega) (by omega)
  rw [sk_e178_43]
  simp only [sj_add, sj_mul]
  rw [if_neg (by rw [sj_cge (by omega) (by omega) (by omega) (by omega)]; omega), if_pos (g105_o hS), e151, sk_ci_some, g105_r1 hS, Option.bind_some, g107_a hS (by omega) (by omega), Option.bind_some, z2]
  by_cases c1 : v 13 k < acr v p o
  · rw [if_pos (by rw [sj_cgt (by omega) (by omega) (by omega) (by omega)]; exact c1)]
    have e : wst v p k o s = s := by unfold wst; rw [if_pos (Or.inl c1)]
    rw [e]
    exact ⟨I, _, _, rfl, hs, FR.rfl' I⟩
  rw [if_neg (by rw [sj_cgt (by omega) (by omega) (by omega) (by omega)]; exact c1), if_pos (g105_o hS), e152, sk_ci_some, g105_r1 hS, Option.bind_some, g107_a hS (by omega) (by omega), Option.bind_some, z3]
  by_cases c2 : v 14 k < tal v p o
  · rw [if_pos (by rw [sj_cgt (by omega) (by omega) (by omega) (by omega)]; exact c2)]
    have e : wst v p k o s = s := by unfold wst; rw [if_pos (Or.inr (Or.inl c2))]
    rw [e]
    exact ⟨I, _, _, rfl, hs, FR.rfl' I⟩
  rw [if_neg (by rw [sj_cgt (by omega) (by omega) (by omega) (by omega)]; exact c2)]
  simp (maxSteps := 1000000) (disch := omega) only [↓g105_r1b hS, ↓g105_ob hS, ↓g107_ab hS, e151, e152, e153, ↓Option.bind_some, ↓sk_ci_some, ↓sk_cv_some, ↓sk_cf_some, if_true, eq_self, ite_self, sj_add, sj_sub, sj_mul, sj_neg, sj_div, sj_ceq, sj_cne, sj_clt, sj_cge, sj_cgt, sj_cle, bi_ceq, bi_cne, bi_01, z0, z1, z2, z3]
  cases c3 : mayl v p (v 11 k) (v 12 k) 0 with
  | false =>
    rw [if_neg (by simp)]
    have e : wst v p k o s = s := by unfold wst; rw [if_pos (Or.inr (Or.inr c3))]
    rw [e]
    exact ⟨I, _, _, rfl, hs, FR.rfl' I⟩
  | true =>
    rw [if_pos rfl]
    have h171 : ∀ (o3 : Option Value), ∃ I', sk_D178 d 171 [some (.ref 105), some (.int (sj p)), some (.int (sj ways)), o3, some (.int (sj k)), some (.int (sj o)), some (.int (sj (117 + 4 * (k : Int)))), some (.int (sj (v 13 k * v 14 k - acr v p o * tal v p o))), none, none, none] [] (sk_mk S I) = sk_D178 d 43 [some (.ref 105), some (.int (sj p)), some (.int (sj ways)), some (.int (sj (v 13 k * v 14 k - acr v p o * tal v p o))), some (.int (sj k)), some (.int (sj (o + 1))), some (.int (sj (117 + 4 * (k : Int)))), some (.int (sj (v 13 k * v 14 k - acr v p o * tal v p o))), none, none, none] [] (sk_mk S I') ∧ RS I' (some (v 11 k, v 12 k, o, (k : Int), v 13 k * v 14 k - acr v p o * tal v p o)) ∧ FR I I' := by
      intro o3
      refine ⟨u2 (u2 (u2 (u2 I 105 10 k) 105 9 o) 105 7 (v 11 k)) 105 8 (v 12 k), ?_, ?_, ?_⟩
      · rw [sk_e178_171]
        have w7 : ∀ (J : sk_H) (j : Nat) (x : Int), u2 J 105 j x 107 = J 107 := fun J j x => funext fun q => by simp [u2]
        simp (maxSteps := 1000000) (disch := omega) only [↓g105_r1b hS, ↓g107_ab hS, ↓g105_u7b hS, ↓g105_u8b hS, ↓g105_u9b hS, ↓g105_u10b hS, ↓Option.bind_some, ↓sk_ci_some, ↓sk_cv_some, ↓sk_cf_some, if_true, eq_self, ite_self, sj_add, sj_sub, sj_mul, sj_neg, sj_div, w7, z0, z1]
      · simp [RS, u2]
      · refine ⟨fun b hb => funext fun j => by simp [u2, hb], fun j hj => ?_⟩
        unfold u2
        rw [if_neg (by omega), if_neg (by omega), if_neg (by omega), if_neg (by omega)]
    cases s with
    | none =>
      rw [wst_none c1 c2 c3]
      obtain ⟨I', e, h1, h2⟩ := h171 (some (.int (sj (-1))))
      rw [if_pos (show lst (-1) none < 0 by decide)]
      exact ⟨I', _, _, e, h1, h2⟩
    | some q =>
      have hq1 : 0 ≤ lst (-1) (some q) := hq.1
      rw [wst_some c1 c2 c3 q, if_neg (by omega)]
      by_cases c4 : v 13 k * v 14 k - acr v p o * tal v p o < q.2.2.2.2
      · obtain ⟨I', e, h1, h2⟩ := h171 (some (.int (sj (lst (-1) (some q)))))
        rw [if_neg (show ¬ lst (-1) (some q) ≤ _ by show ¬ q.2.2.2.2 ≤ _; omega), if_pos c4]
        exact ⟨I', _, _, e, h1, h2⟩
      · rw [if_pos (show lst (-1) (some q) ≤ _ by show q.2.2.2.2 ≤ _; omega), if_neg c4]
        exact ⟨I, _, _, rfl, hs, FR.rfl' I⟩
theorem r178_w {d : Nat} (hd : 5 ≤ d + 1) (hS : sk_G S) (hR : RP I 107 v) (hV : VO v) {p : Nat} (hp : (p : Int) < v 0 1) (o6 o7 : Option Value) : ∃ I' o5 p6 p7, sk_D178 d 29 [some (.ref 105), some (.int (sj p)), some (.int (sj (if twoW v p = true then 2 else 1))), some (.int (sj (-1))), some (.int (sj 0)), none, o6, o7, none, none, none] [] (sk_mk S I) = (if (wF v p).isSome = true then some (some (.int (sj 1)), sk_mk S I') else sk_D178 d 236 [some (.ref 105), some (.int (sj p)), some (.int (sj (if twoW v p = true then 2 else 1))), some (.int (sj 0)), some (.int (sj 0)), some (.int (sj o5)), p6, p7, none, none, none] [] (sk_mk S I')) ∧ o5 = 0 ∧ RS I' (wF v p) ∧ FR I I' := by
  obtain ⟨n1, n2, n3, n4, n5, n6, n7, n8, n9, n10, n11, n12⟩ := hV.1
  have key := lp_run (fun k (X : Option sk_R) => ∃ I' o5 o6 o7, X = sk_D178 d 29 [some (.ref 105), some (.int (sj p)), some (.int (sj (if twoW v p = true then 2 else 1))), some (.int (sj (lst (-1) (fld k (fun k s => wst2 v p k s) none)))), some (.int (sj (k : Int))), o5, o6, o7, none, none, none] [] (sk_mk S I') ∧ RS I' (fld k (fun k s => wst2 v p k s) none) ∧ QB (fld k (fun k s => wst2 v p k s) none) ∧ QW (fld k (fun k s => wst2 v p k s) none) ∧ FR I I') (v 0 5).toNat (fun k X hk hX => by
    obtain ⟨I1, o5, o6, o7, rfl, hc, hq, hw, hf⟩ := hX
    have hR1 := hR.FR hf
    have hkk : (k : Int) < v 0 5 := by omega
    rw [sk_e178_29]
    simp (disch := omega) only [↓g105_r1b hS, ↓g107_ab hS, ↓Option.bind_some, ↓sk_ci_some, ↓sk_cv_some, ↓sk_cf_some, if_true, eq_self, ite_self, rq5 hR1, sj_ceq, sj_cne, sj_clt, sj_cge, sj_cgt, sj_cle, bi_ceq, bi_cne, bi_01]
    rw [if_neg (by omega)]
    obtain ⟨I2, p6, p7, e2, hc2, hf2⟩ := r178_st hd hS hR1 hV hp hkk (Or.inl rfl) hc hq hw (if twoW v p = true then 2 else 1) (by split <;> omega) (by split <;> omega) o6 o7
    have hq2 := wst_QB hV hp hkk (o := 0) (Or.inl rfl) hq
    have hw2 := wst_QW hV hp hkk (o := 0) hw
    have hR2 := hR1.FR hf2
    rw [e2]
    cases ht : twoW v p with
    | false =>
      have hx := show ∀ s, wst2 v p k s = wst v p k 0 s from fun s => by simp [wst2, ht]
      refine ⟨I2, some (.int (sj 1)), p6, p7, ?_, ?_, ?_, ?_, hf.trans hf2⟩
      · rw [sk_e178_43, if_pos (by decide)]
        simp only [sj_add, Int.natCast_add, Int.cast_ofNat_Int, ← Int.add_assoc]
        rw [show fld (k + 1) (fun k s => wst2 v p k s) none = wst2 v p k (fld k (fun k s => wst2 v p k s) none) from rfl, hx]
        rfl
      · show RS I2 (wst2 v p k _)
        rw [hx]
        exact hc2
      · show QB (wst2 v p k _)
        rw [hx]
        exact hq2
      · show QW (wst2 v p k _)
        rw [hx]
        exact hw2
    | true =>
      obtain ⟨I3, r6, r7, e3, hc3, hf3⟩ := r178_st hd hS hR2 hV hp hkk (o := 1) (Or.inr rfl) hc2 hq2 hw2 (if twoW v p = true then 2 else 1) (by rw [ht]; decide) (by split <;> omega) p6 p7
      have hq3 := wst_QB hV hp hkk (o := 1) (Or.inr rfl) hq2
      have hw3 := wst_QW hV hp hkk (o := 1) hw2
      rw [ht] at e3
      have hx := show ∀ s, wst2 v p k s = wst v p k 1 (wst v p k 0 s) from fun s => by simp [wst2, ht]
      refine ⟨I3, some (.int (sj 2)), r6, r7, ?_, ?_, ?_, ?_, (hf.trans hf2).trans hf3⟩
      · refine e3.trans ?_
        rw [sk_e178_43, if_pos (by decide)]
        simp only [sj_add, Int.natCast_add, Int.cast_ofNat_Int, ← Int.add_assoc]
        rw [show fld (k + 1) (fun k s => wst2 v p k s) none = wst2 v p k (fld k (fun k s => wst2 v p k s) none) from rfl, hx]
        rfl
      · show RS I3 (wst2 v p k _)
        rw [hx]
        exact hc3
      · show QB (wst2 v p k _)
        rw [hx]
        exact hq3
      · show QW (wst2 v p k _)
        rw [hx]
        exact hw3) ⟨I, none, o6, o7, rfl, trivial, trivial, trivial, FR.rfl' I⟩
  obtain ⟨I1, o5, p6, p7, e, hc, hq, hw, hf⟩ := key
  have hR1 := hR.FR hf
  refine ⟨I1, 0, p6, p7, ?_, rfl, hc, hf⟩
  refine e.trans ?_
  have hwf : fld (v 0 5).toNat (fun k s => wst2 v p k s) none = wF v p := rfl
  rw [hwf] at hc hq hw ⊢
  rw [sk_e178_29]
  have hls : -1 ≤ lst (-1) (wF v p) ∧ lst (-1) (wF v p) ≤ 100000 := by
    cases hs : wF v p with
    | none => exact ⟨by decide, by decide⟩
    | some q =>
      rw [hs] at hq hw
      exact ⟨by have := hw.1; show -1 ≤ q.2.2.2.2; omega, hq.2.2.2.2.2.2.2.2⟩
  simp (disch := omega) only [↓g105_r1b hS, ↓g107_ab hS, ↓Option.bind_some, ↓sk_ci_some, ↓sk_cv_some, ↓sk_cf_some, if_true, eq_self, ite_self, rq5 hR1, sj_ceq, sj_cne, sj_clt, sj_cge, sj_cgt, sj_cle, bi_ceq, bi_cne, bi_01]
  rw [if_pos (by omega)]
  cases hs : wF v p with
  | none => rfl
  | some q =>
    rw [hs] at hw
    rw [if_neg (show ¬ lst (-1) (some q) < 0 by show ¬ q.2.2.2.2 < 0; have := hw.1; omega)]
    rfl
end FND
