/-! ===== the reference's way over the skyline; the least of all places, both ways ===== -/
def rst (v : sk_H) (p x : Nat) (o : Int) (s : Option sk_Q) : Option sk_Q := if fea v p x o = true then (match s with
    | none => some (cnd v p x o)
    | some q => if rsC v p x o < q.2.2.2.2 ∨ (rsC v p x o = q.2.2.2.2 ∧ (rsY v p x o < q.2.1 ∨ (rsY v p x o = q.2.1 ∧ (x : Int) < q.1))) then some (cnd v p x o) else s) else s
theorem rst_no {v : sk_H} {p x : Nat} {o : Int} (s : Option sk_Q) (h : fea v p x o = false) : rst v p x o s = s := by
  unfold rst
  rw [h]
  rfl
theorem rst_none {v : sk_H} {p x : Nat} {o : Int} (h : fea v p x o = true) : rst v p x o none = some (cnd v p x o) := by
  unfold rst
  rw [h]
  rfl
theorem rst_some {v : sk_H} {p x : Nat} {o : Int} (q : sk_Q) (h : fea v p x o = true) : rst v p x o (some q) = if rsC v p x o < q.2.2.2.2 ∨ (rsC v p x o = q.2.2.2.2 ∧ (rsY v p x o < q.2.1 ∨ (rsY v p x o = q.2.1 ∧ (x : Int) < q.1))) then some (cnd v p x o) else some q := by
  unfold rst
  rw [h]
  rfl
def rP (v : sk_H) (p : Nat) (o : Int) (n : Nat) (s : Option sk_Q) : Option sk_Q := fld n (fun x s => rst v p x o s) s
def rF (v : sk_H) (p : Nat) : Option sk_Q := if twoW v p = true then rP v p 1 (v 0 0).toNat (rP v p 0 (v 0 0).toNat none) else rP v p 0 (v 0 0).toNat none
/-! the least -/
def KL (v : sk_H) (p x : Nat) (o : Int) (x' : Nat) (o' : Int) : Prop := rsC v p x o < rsC v p x' o' ∨ (rsC v p x o = rsC v p x' o' ∧ (rsY v p x o < rsY v p x' o' ∨ (rsY v p x o = rsY v p x' o' ∧ (x < x' ∨ (x = x' ∧ o ≤ o')))))
def BO (v : sk_H) (p : Nat) (A : Nat → Int → Prop) (s : Option sk_Q) : Prop := match s with
  | none => ∀ x o, A x o → fea v p x o = false
  | some q => ∃ x o, A x o ∧ fea v p x o = true ∧ q = cnd v p x o ∧ ∀ x' o', A x' o' → fea v p x' o' = true → KL v p x o x' o'
theorem BO_uniq {v : sk_H} {p : Nat} {A : Nat → Int → Prop} {s s' : Option sk_Q} (h : BO v p A s) (h' : BO v p A s') : s = s' := by
  cases s with
  | none =>
    cases s' with
    | none => rfl
    | some q' =>
      obtain ⟨x, o, h1, h2, -⟩ := h'
      rw [h x o h1] at h2
      cases h2
  | some q =>
    obtain ⟨x, o, h1, h2, h3, h4⟩ := h
    cases s' with
    | none =>
      rw [h' x o h1] at h2
      cases h2
    | some q' =>
      obtain ⟨x', o', g1, g2, g3, g4⟩ := h'
      have k1 := h4 x' o' g1 g2
      have k2 := g4 x o h1 h2
      unfold KL at k1 k2
      have e1 : x = x' := by omega
      have e2 : o = o' := by omega
      rw [h3, g3, e1, e2]
theorem BO_iff {v : sk_H} {p : Nat} {A B : Nat → Int → Prop} (h : ∀ x o, A x o ↔ B x o) {s : Option sk_Q} (hs : BO v p A s) : BO v p B s := by
  have : A = B := funext fun x => funext fun o => propext (h x o)
  rw [← this]
  exact hs
theorem BO_no {v : sk_H} {p : Nat} {A : Nat → Int → Prop} {x : Nat} {o : Int} {s : Option sk_Q} (hf : fea v p x o = false) (h : BO v p A s) : BO v p (fun x' o' => A x' o' ∨ (x' = x ∧ o' = o)) s := by
  cases s with
  | none =>
    rintro x' o' (h1 | ⟨rfl, rfl⟩)
    · exact h x' o' h1
    · exact hf
  | some q =>
    obtain ⟨x0, o0, h1, h2, h3, h4⟩ := h
    refine ⟨x0, o0, Or.inl h1, h2, h3, ?_⟩
    rintro x' o' (g1 | ⟨rfl, rfl⟩) g2
    · exact h4 x' o' g1 g2
    · rw [hf] at g2; cases g2
theorem BO_new {v : sk_H} {p : Nat} {A : Nat → Int → Prop} {x : Nat} {o : Int} (hf : fea v p x o = true) (h : BO v p A none) : BO v p (fun x' o' => A x' o' ∨ (x' = x ∧ o' = o)) (some (cnd v p x o)) := by
  refine ⟨x, o, Or.inr ⟨rfl, rfl⟩, hf, rfl, ?_⟩
  rintro x' o' (g1 | ⟨rfl, rfl⟩) g2
  · rw [h x' o' g1] at g2; cases g2
  · unfold KL; omega
theorem BO_sst {v : sk_H} {p : Nat} {A : Nat → Int → Prop} {x : Nat} {o : Int} (hA : ∀ x' o', A x' o' → x' < x ∨ (x' = x ∧ o' < o)) {s : Option sk_Q} (h : BO v p A s) : BO v p (fun x' o' => A x' o' ∨ (x' = x ∧ o' = o)) (sst v p x o s) := by
  cases hf : fea v p x o with
  | false => rw [sst_no s hf]; exact BO_no hf h
  | true =>
    cases s with
    | none => rw [sst_none hf]; exact BO_new hf h
    | some q =>
      obtain ⟨x0, o0, h1, h2, rfl, h4⟩ := h
      rw [sst_some _ hf]
      show BO v p _ (if rsC v p x o < rsC v p x0 o0 ∨ (rsC v p x o = rsC v p x0 o0 ∧ rsY v p x o < rsY v p x0 o0) then _ else _)
      have h0 := hA x0 o0 h1
      split
      · refine ⟨x, o, Or.inr ⟨rfl, rfl⟩, hf, rfl, ?_⟩
        rintro x' o' (g1 | ⟨rfl, rfl⟩) g2
        · have := h4 x' o' g1 g2
          unfold KL at *
          omega
        · unfold KL; omega
      · refine ⟨x0, o0, Or.inl h1, h2, rfl, ?_⟩
        rintro x' o' (g1 | ⟨rfl, rfl⟩) g2
        · exact h4 x' o' g1 g2
        · unfold KL; omega
theorem BO_rst {v : sk_H} {p : Nat} {A : Nat → Int → Prop} {x : Nat} {o : Int} (hA : ∀ x' o', A x' o' → o' < o ∨ (o' = o ∧ x' < x)) {s : Option sk_Q} (h : BO v p A s) : BO v p (fun x' o' => A x' o' ∨ (x' = x ∧ o' = o)) (rst v p x o s) := by
  cases hf : fea v p x o with
  | false => rw [rst_no s hf]; exact BO_no hf h
  | true =>
    cases s with
    | none => rw [rst_none hf]; exact BO_new hf h
    | some q =>
      obtain ⟨x0, o0, h1, h2, rfl, h4⟩ := h
      rw [rst_some _ hf]
      show BO v p _ (if rsC v p x o < rsC v p x0 o0 ∨ (rsC v p x o = rsC v p x0 o0 ∧ (rsY v p x o < rsY v p x0 o0 ∨ (rsY v p x o = rsY v p x0 o0 ∧ (x : Int) < (x0 : Int)))) then _ else _)
      have h0 := hA x0 o0 h1
      split
      · refine ⟨x, o, Or.inr ⟨rfl, rfl⟩, hf, rfl, ?_⟩
        rintro x' o' (g1 | ⟨rfl, rfl⟩) g2
        · have := h4 x' o' g1 g2
          unfold KL at *
          omega
        · unfold KL; omega
      · refine ⟨x0, o0, Or.inl h1, h2, rfl, ?_⟩
        rintro x' o' (g1 | ⟨rfl, rfl⟩) g2
        · exact h4 x' o' g1 g2
        · unfold KL; omega
theorem sF_BO (v : sk_H) (p : Nat) : BO v p (fun x o => x < (v 0 0).toNat ∧ (o = 0 ∨ (o = 1 ∧ twoW v p = true))) (sF v p) := by
  refine fld_inv (fun k s => BO v p (fun x o => x < k ∧ (o = 0 ∨ (o = 1 ∧ twoW v p = true))) s) (fun k s hk hs => ?_) (fun x o h => by omega)
  have h1 := BO_sst (x := k) (o := 0) (fun x' o' h => by omega) hs
  unfold sst2
  cases ht : twoW v p with
  | false =>
    rw [ht] at h1
    refine BO_iff (fun x o => ?_) h1
    simp
    omega
  | true =>
    have h2 := BO_sst (x := k) (o := 1) (fun x' o' h => by omega) h1
    rw [ht] at h2
    refine BO_iff (fun x o => ?_) h2
    simp
    omega
theorem rF_BO (v : sk_H) (p : Nat) : BO v p (fun x o => x < (v 0 0).toNat ∧ (o = 0 ∨ (o = 1 ∧ twoW v p = true))) (rF v p) := by
  have h1 : BO v p (fun x o => x < (v 0 0).toNat ∧ o = 0) (rP v p 0 (v 0 0).toNat none) := by
    refine fld_inv (fun k s => BO v p (fun x o => x < k ∧ o = 0) s) (fun k s hk hs => ?_) (fun x o h => by omega)
    refine BO_iff (fun x o => ?_) (BO_rst (x := k) (o := 0) (fun x' o' h => by omega) hs)
    omega
  unfold rF
  cases ht : twoW v p with
  | false =>
    refine BO_iff (fun x o => ?_) h1
    simp
  | true =>
    have h2 : BO v p (fun x o => (x < (v 0 0).toNat ∧ o = 0) ∨ (x < (v 0 0).toNat ∧ o = 1)) (rP v p 1 (v 0 0).toNat (rP v p 0 (v 0 0).toNat none)) := by
      refine fld_inv (fun k s => BO v p (fun x o => (x < (v 0 0).toNat ∧ o = 0) ∨ (x < k ∧ o = 1)) s) (fun k s hk hs => ?_) (BO_iff (fun x o => by omega) h1)
      refine BO_iff (fun x o => ?_) (BO_rst (x := k) (o := 1) (fun x' o' h => by omega) hs)
      omega
    refine BO_iff (fun x o => ?_) h2
    simp
    omega
theorem rF_eq (v : sk_H) (p : Nat) : rF v p = sF v p := BO_uniq (rF_BO v p) (sF_BO v p)
theorem rst_QB {v : sk_H} (hV : VO v) {p : Nat} (hp : (p : Int) < v 0 1) {x : Nat} {o : Int} (ho : o = 0 ∨ o = 1) {s : Option sk_Q} (hs : QB s) : QB (rst v p x o s) := by
  cases hf : fea v p x o with
  | false => rw [rst_no s hf]; exact hs
  | true =>
    have hx : (x : Int) + acr v p o ≤ v 0 0 := by
      unfold fea at hf
      rw [Bool.and_eq_true, decide_eq_true_eq] at hf
      exact hf.1
    have hn := (cnd_rng hV hp ho hx).2.2.2.2.2.2
    cases s with
    | none => rw [rst_none hf]; exact hn
    | some q =>
      rw [rst_some _ hf]
      split
      · exact hn
      · exact hs
theorem rP_tail {v : sk_H} {p : Nat} {o : Int} {s : Option sk_Q} : ∀ m n : Nat, (v 0 0 : Int) < n + acr v p o → rP v p o (n + m) s = rP v p o n s := by
  intro m n hn
  induction m with
  | zero => rfl
  | succ m ih =>
    show rst v p (n + m) o (rP v p o (n + m) s) = _
    rw [ih, rst_no]
    unfold fea
    rw [decide_eq_false (by omega), Bool.false_and]
section FND
variable {S : List sk_Sh} {I v : sk_H}
theorem r178_sk {d : Nat} (hd : 5 ≤ d + 1) (hS : sk_G S) (hR : RP I 107 v) (hV : VO v) {p : Nat} (hp : (p : Int) < v 0 1) {x : Nat} {o : Int} (ho : o = 0 ∨ o = 1) (hx : (x : Int) + acr v p o ≤ v 0 0) {s : Option sk_Q} (hs : RS I s) (hb : QB s) (ways : Int) (o7 o8 o9 o10 : Option Value) : ∃ I' p7 p8 p9 p10, sk_D178 d 245 [some (.ref 105), some (.int (sj p)), some (.int (sj ways)), some (.int (sj (bi s.isSome))), some (.int (sj (lst 0 s))), some (.int (sj o)), some (.int (sj x)), o7, o8, o9, o10] [] (sk_mk S I) = sk_D178 d 245 [some (.ref 105), some (.int (sj p)), some (.int (sj ways)), some (.int (sj (bi (rst v p x o s).isSome))), some (.int (sj (lst 0 (rst v p x o s)))), some (.int (sj o)), some (.int (sj ((x + 1 : Nat) : Int))), p7, p8, p9, p10] [] (sk_mk S I') ∧ RS I' (rst v p x o s) ∧ FR I I' := by
  obtain ⟨n1, n2, n3, n4, n5, n6, n7, n8, n9, n10, n11, n12⟩ := hV.1
  have ha1 := acr_rng hV.1 (vo_p hV hp) o
  have ht1 := tal_rng hV.1 (vo_p hV hp) o
  obtain ⟨r1, r2, r3, r4, r5, r6, r7⟩ := cnd_rng hV hp ho hx
  have e175 := i175 (S := S) (I := I) (d := d) (by omega) hS hR hV (x := x) (w := acr v p o) (t := tal v p o) (by omega) hx (by omega) (by omega)
  have e174 := i174 (S := S) (I := I) (d := d) (by omega) hS hR hV (x := x) (w := acr v p o) (y := rsY v p x o) (by omega) hx r1 r2
  have e177 := i177 (S := S) (I := I) (d := d) (by omega) hS hR hV (x := x) (w := acr v p o) (y := rsY v p x o) (t := tal v p o) (by omega) (by omega) hx r1 r2 (by omega)
  change _ = some (some (Value.int (sj (rsY v p x o))), _) at e175
  change _ = some (some (Value.int (sj (rsW v p x o))), _) at e174
  change _ = some (some (Value.int (sj (rsC v p x o))), _) at e177
  have e153 := m153 (S := S) (I := I) (d := d) (by omega) hS hR hV hp (x := x) (y := rsY v p x o) (ws := rsW v p x o) (by omega) (by omega) r1 (by omega) (by omega) (by omega)
  have e151 := m151 (S := S) (I := I) (d := d) (by omega) hS hR hV hp ho
  have e152 := m152 (S := S) (I := I) (d := d) (by omega) hS hR hV hp ho
  have hnc : (x : Int) + 1 = ((x + 1 : Nat) : Int) := rfl
  have h378 : ∀ (o3 o4 : Option Value), ∃ I', sk_D178 d 378 [some (.ref 105), some (.int (sj p)), some (.int (sj ways)), o3, o4, some (.int (sj o)), some (.int (sj x)), some (.int (sj (acr v p o))), some (.int (sj (tal v p o))), some (.int (sj (rsY v p x o))), some (.int (sj (rsC v p x o)))] [] (sk_mk S I) = sk_D178 d 245 [some (.ref 105), some (.int (sj p)), some (.int (sj ways)), some (.int (sj 1)), some (.int (sj (rsC v p x o))), some (.int (sj o)), some (.int (sj ((x + 1 : Nat) : Int))), some (.int (sj (acr v p o))), some (.int (sj (tal v p o))), some (.int (sj (rsY v p x o))), some (.int (sj (rsC v p x o)))] [] (sk_mk S I') ∧ RS I' (some (cnd v p x o)) ∧ FR I I' := by
    intro o3 o4
    refine ⟨u2 (u2 (u2 (u2 I 105 7 x) 105 8 (rsY v p x o)) 105 9 o) 105 10 (-1), ?_, ?_, ?_⟩
    · rw [sk_e178_378]
      simp (disch := omega) only [↓g105_u7b hS, ↓g105_u8b hS, ↓g105_u9b hS, ↓g105_u10b hS, ↓Option.bind_some, ↓sk_ci_some, ↓sk_cv_some, ↓sk_cf_some, if_true, eq_self, ite_self, sj_add, sj_sub, sj_mul, sj_neg, sj_div, hnc]
    · simp [RS, u2, cnd]
    · refine ⟨fun b hb => funext fun j => by simp [u2, hb], fun j hj => ?_⟩
      unfold u2
      rw [if_neg (by omega), if_neg (by omega), if_neg (by omega), if_neg (by omega)]
  rw [sk_e178_245]
  simp (maxSteps := 1000000) (disch := omega) only [↓g105_r1b hS, ↓g105_ob hS, ↓g107_ab hS, ↓sk_ci_of e151, ↓sk_ci_of e152, ↓sk_ci_of e153, ↓sk_ci_of e174, ↓sk_ci_of e175, ↓sk_ci_of e177, rq0 hR, ↓Option.bind_some, ↓sk_ci_some, ↓sk_cv_some, ↓sk_cf_some, if_true, eq_self, ite_self, sj_add, sj_sub, sj_mul, sj_neg, sj_div, sj_ceq, sj_cne, sj_clt, sj_cge, sj_cgt, sj_cle, bi_ceq, bi_cne, bi_01, hnc]
  rw [if_neg (by omega)]
  cases c3 : mayl v p x (rsY v p x o) (rsW v p x o) with
  | false =>
    have hf : fea v p x o = false := by unfold fea; rw [c3, Bool.and_false]
    rw [if_neg (by simp), rst_no s hf]
    exact ⟨I, _, _, _, _, rfl, hs, FR.rfl' I⟩
  | true =>
    have hf : fea v p x o = true := by unfold fea; rw [c3, Bool.and_true]; exact decide_eq_true hx
    rw [if_pos rfl]
    cases s with
    | none =>
      rw [rst_none hf]
      simp only [Option.isSome, bi_f, bi_t]
      rw [if_pos trivial]
      obtain ⟨I', e, h1, h2⟩ := h378 (some (.int (sj 0))) (some (.int (sj (lst 0 none))))
      exact ⟨I', _, _, _, _, e, h1, h2⟩
    | some q =>
      obtain ⟨q1, q2, q3, q4⟩ := hs
      obtain ⟨b1, b2, b3, b4, b5, b6, b7, b8, b9⟩ := hb
      have hl : lst 0 (some q) = q.2.2.2.2 := rfl
      rw [rst_some q hf]
      simp (disch := omega) only [hl, ↓g105_i7b hS, ↓g105_i8b hS, q1, q2, ↓Option.bind_some, ↓sk_ci_some, ↓sk_cv_some, ↓sk_cf_some, if_true, eq_self, ite_self, sj_ceq, sj_cne, sj_clt, sj_cge, sj_cgt, sj_cle, bi_ceq, bi_cne, bi_01]
      obtain ⟨I', e, h1, h2⟩ := h378 (some (.int (sj 1))) (some (.int (sj q.2.2.2.2)))
      have yes : ∃ I' p7 p8 p9 p10, sk_D178 d 378 [some (.ref 105), some (.int (sj p)), some (.int (sj ways)), some (.int (sj 1)), some (.int (sj q.2.2.2.2)), some (.int (sj o)), some (.int (sj x)), some (.int (sj (acr v p o))), some (.int (sj (tal v p o))), some (.int (sj (rsY v p x o))), some (.int (sj (rsC v p x o)))] [] (sk_mk S I) = sk_D178 d 245 [some (.ref 105), some (.int (sj p)), some (.int (sj ways)), some (.int (sj (bi (some (cnd v p x o)).isSome))), some (.int (sj (lst 0 (some (cnd v p x o))))), some (.int (sj o)), some (.int (sj ((x + 1 : Nat) : Int))), p7, p8, p9, p10] [] (sk_mk S I') ∧ RS I' (some (cnd v p x o)) ∧ FR I I' := ⟨I', _, _, _, _, e, h1, h2⟩
      have no : ∃ I' p7 p8 p9 p10, sk_D178 d 245 [some (.ref 105), some (.int (sj p)), some (.int (sj ways)), some (.int (sj 1)), some (.int (sj q.2.2.2.2)), some (.int (sj o)), some (.int (sj ((x + 1 : Nat) : Int))), some (.int (sj (acr v p o))), some (.int (sj (tal v p o))), some (.int (sj (rsY v p x o))), some (.int (sj (rsC v p x o)))] [] (sk_mk S I) = sk_D178 d 245 [some (.ref 105), some (.int (sj p)), some (.int (sj ways)), some (.int (sj (bi (some q).isSome))), some (.int (sj (lst 0 (some q)))), some (.int (sj o)), some (.int (sj ((x + 1 : Nat) : Int))), p7, p8, p9, p10] [] (sk_mk S I') ∧ RS I' (some q) ∧ FR I I' := ⟨I, _, _, _, _, rfl, ⟨q1, q2, q3, q4⟩, FR.rfl' I⟩
      rw [if_neg (show ¬ (some q).isSome = false by simp)]
      by_cases c4 : rsC v p x o < q.2.2.2.2
      · rw [if_pos c4, if_pos (Or.inl c4)]; exact yes
      rw [if_neg c4]
      by_cases c5 : rsC v p x o = q.2.2.2.2
      · rw [if_neg (show ¬ ¬ rsC v p x o = q.2.2.2.2 from fun h => h c5)]
        by_cases c6 : rsY v p x o < q.2.1
        · rw [if_pos c6, if_pos (Or.inr ⟨c5, Or.inl c6⟩)]; exact yes
        rw [if_neg c6]
        by_cases c7 : rsY v p x o = q.2.1
        · rw [if_neg (show ¬ ¬ rsY v p x o = q.2.1 from fun h => h c7)]
          by_cases c8 : q.1 ≤ (x : Int)
          · rw [if_pos c8, if_neg (by omega)]; exact no
          · rw [if_neg c8, if_pos (by omega)]; exact yes
        · rw [if_pos c7, if_neg (by omega)]; exact no
      · rw [if_pos c5, if_neg (by omega)]; exact no
/-- one way over all of the skyline -/
theorem r178_way {d : Nat} (hd : 5 ≤ d + 1) (hS : sk_G S) (hR : RP I 107 v) (hV : VO v) {p : Nat} (hp : (p : Int) < v 0 1) {o : Int} (ho : o = 0 ∨ o = 1) (hw : acr v p o ≤ v 0 0) {s : Option sk_Q} (hs : RS I s) (hb : QB s) (ways : Int) (hw1 : o < ways) (hw2 : ways ≤ 2) (o6 o7 o8 o9 o10 : Option Value) : ∃ I' p6 p7 p8 p9 p10, sk_D178 d 236 [some (.ref 105), some (.int (sj p)), some (.int (sj ways)), some (.int (sj (bi s.isSome))), some (.int (sj (lst 0 s))), some (.int (sj o)), o6, o7, o8, o9, o10] [] (sk_mk S I) = sk_D178 d 236 [some (.ref 105), some (.int (sj p)), some (.int (sj ways)), some (.int (sj (bi (rP v p o (v 0 0).toNat s).isSome))), some (.int (sj (lst 0 (rP v p o (v 0 0).toNat s)))), some (.int (sj (o + 1))), p6, p7, p8, p9, p10] [] (sk_mk S I') ∧ RS I' (rP v p o (v 0 0).toNat s) ∧ QB (rP v p o (v 0 0).toNat s) ∧ FR I I' := by
  obtain ⟨n1, n2, n3, n4, n5, n6, n7, n8, n9, n10, n11, n12⟩ := hV.1
  have ha1 := acr_rng hV.1 (vo_p hV hp) o
  have key := lp_run (fun k (X : Option sk_R) => ∃ I' p7 p8 p9 p10, X = sk_D178 d 245 [some (.ref 105), some (.int (sj p)), some (.int (sj ways)), some (.int (sj (bi (rP v p o k s).isSome))), some (.int (sj (lst 0 (rP v p o k s)))), some (.int (sj o)), some (.int (sj (k : Int))), p7, p8, p9, p10] [] (sk_mk S I') ∧ RS I' (rP v p o k s) ∧ QB (rP v p o k s) ∧ FR I I') (v 0 0 - acr v p o + 1).toNat (fun k X hk hX => by
    obtain ⟨I1, o7, o8, o9, o10, rfl, hc, hq, hf⟩ := hX
    obtain ⟨I2, p7, p8, p9, p10, e2, hc2, hf2⟩ := r178_sk hd hS (hR.FR hf) hV hp (x := k) ho (by omega) hc hq ways o7 o8 o9 o10
    exact ⟨I2, p7, p8, p9, p10, e2, hc2, rst_QB hV hp ho hq, hf.trans hf2⟩) ⟨I, o7, o8, o9, o10, rfl, hs, hb, FR.rfl' I⟩
  obtain ⟨I1, p7, p8, p9, p10, e, hc, hq, hf⟩ := key
  have hR1 := hR.FR hf
  have e151 := m151 (S := S) (I := I1) (d := d) (by omega) hS hR1 hV hp ho
  have ht : rP v p o (v 0 0).toNat s = rP v p o (v 0 0 - acr v p o + 1).toNat s := by
    have := rP_tail (v := v) (p := p) (o := o) (s := s) ((v 0 0).toNat - (v 0 0 - acr v p o + 1).toNat) (v 0 0 - acr v p o + 1).toNat (by omega)
    rw [← this]
    congr 1
    omega
  rw [ht]
  refine ⟨I1, some (.int (sj (((v 0 0 - acr v p o + 1).toNat : Nat) : Int))), p7, p8, p9, p10, ?_, hc, hq, hf⟩
  rw [sk_e178_236]
  simp (disch := omega) only [sj_ceq, sj_cne, sj_clt, sj_cge, sj_cgt, sj_cle, bi_ceq, bi_cne, bi_01]
  rw [if_neg (by omega)]
  refine e.trans ?_
  rw [sk_e178_245]
  simp only [sj_add]
  rw [if_pos (g105_o hS), e151, sk_ci_some, g105_r1 hS, Option.bind_some, g107_a hS (by omega) (by omega), Option.bind_some, rq0 hR1, sj_add, if_pos (by rw [sj_cgt (by omega) (by omega) (by omega) (by omega)]; omega)]
theorem acr1_le {v : sk_H} {p : Nat} (h : twoW v p = true) : acr v p 1 ≤ v 0 0 := by
  unfold twoW at h
  rw [Bool.and_eq_true, decide_eq_true_eq] at h
  exact h.2
theorem acr0_le {v : sk_H} (hV : VO v) {p : Nat} (hp : (p : Int) < v 0 1) : acr v p 0 ≤ v 0 0 := (vo_p hV hp).2.2.2.1
theorem r178_all {d : Nat} (hd : 5 ≤ d + 1) (hS : sk_G S) (hR : RP I 107 v) (hV : VO v) {p : Nat} (hp : (p : Int) < v 0 1) (o6 o7 : Option Value) : ∃ I', sk_D178 d 236 [some (.ref 105), some (.int (sj p)), some (.int (sj (if twoW v p = true then 2 else 1))), some (.int (sj 0)), some (.int (sj 0)), some (.int (sj 0)), o6, o7, none, none, none] [] (sk_mk S I) = some (some (.int (sj (bi (sF v p).isSome))), sk_mk S I') ∧ RS I' (sF v p) ∧ QB (sF v p) ∧ FR I I' := by
  obtain ⟨n1, n2, n3, n4, n5, n6, n7, n8, n9, n10, n11, n12⟩ := hV.1
  obtain ⟨I1, p6, p7, p8, p9, p10, e1, hc1, hq1, hf1⟩ := r178_way (I := I) hd hS hR hV hp (o := 0) (Or.inl rfl) (acr0_le hV hp) (s := none) trivial trivial (if twoW v p = true then 2 else 1) (by split <;> omega) (by split <;> omega) o6 o7 none none none
  have hR1 := hR.FR hf1
  rw [← rF_eq]
  cases ht : twoW v p with
  | false =>
    have hx : rF v p = rP v p 0 (v 0 0).toNat none := by unfold rF; rw [ht]; rfl
    rw [ht] at e1
    rw [hx]
    refine ⟨I1, ?_, hc1, hq1, hf1⟩
    refine e1.trans ?_
    rw [sk_e178_236]
    have hb := bi_rng (rP v p 0 (v 0 0).toNat none).isSome
    simp (disch := omega) only [sj_ceq, sj_cne, sj_clt, sj_cge, sj_cgt, sj_cle, bi_ceq, bi_cne, bi_01]
    simp
  | true =>
    have hx : rF v p = rP v p 1 (v 0 0).toNat (rP v p 0 (v 0 0).toNat none) := by unfold rF; rw [ht]; rfl
    obtain ⟨I2, r6, r7, r8, r9, r10, e2, hc2, hq2, hf2⟩ := r178_way hd hS hR1 hV hp (o := 1) (Or.inr rfl) (acr1_le ht) hc1 hq1 (if twoW v p = true then 2 else 1) (by rw [ht]; decide) (by split <;> omega) p6 p7 p8 p9 p10
    rw [ht] at e1 e2
    rw [hx]
    refine ⟨I2, ?_, hc2, hq2, hf1.trans hf2⟩
    refine e1.trans (e2.trans ?_)
    rw [sk_e178_236]
    simp (disch := omega) only [sj_ceq, sj_cne, sj_clt, sj_cge, sj_cgt, sj_cle, bi_ceq, bi_cne, bi_01]
    simp
theorem m178 {d : Nat} (hd : 5 ≤ d) (hS : sk_G S) (hR : RP I 107 v) (hV : VO v) {p : Nat} (hp : (p : Int) < v 0 1) : ∃ I', sk_c d 178 [.ref 105, .int (sj p)] (sk_mk S I) = some (some (.int (sj (bi (fF v p).isSome))), sk_mk S I') ∧ RS I' (fF v p) ∧ QB (fF v p) ∧ FR I I' := by
  obtain ⟨n1, n2, n3, n4, n5, n6, n7, n8, n9, n10, n11, n12⟩ := hV.1
  obtain ⟨d, rfl⟩ : ∃ e, d = e + 1 := ⟨d - 1, by omega⟩; rw [sk_e178]
  have e150 := m150 (S := S) (I := I) (d := d) (by omega) hS hR hV hp
  have e13 : ∀ (K : Int), sk_D178 d 13 [some (.ref 105), some (.int (sj p)), none, none, none, none, none, none, none, none, none] [.int (sj K)] (sk_mk S I) = if v 0 4 = 0 then sk_D178 d 236 [some (.ref 105), some (.int (sj p)), some (.int (sj K)), some (.int (sj 0)), some (.int (sj 0)), some (.int (sj 0)), none, none, none, none, none] [] (sk_mk S I) else sk_D178 d 29 [some (.ref 105), some (.int (sj p)), some (.int (sj K)), some (.int (sj (-1))), some (.int (sj 0)), none, none, none, none, none, none] [] (sk_mk S I) := by
    intro K
    rw [sk_e178_13]
    simp (disch := omega) only [↓g105_r1b hS, ↓g107_ab hS, rq4 hR, ↓Option.bind_some, ↓sk_ci_some, ↓sk_cv_some, ↓sk_cf_some, if_true, eq_self, ite_self, sj_ceq, sj_cne, sj_clt, sj_cge, sj_cgt, sj_cle, bi_ceq, bi_cne, bi_01]
    by_cases c : v 0 4 = 0
    · rw [if_pos (by omega), if_pos c]
    · rw [if_neg (by omega), if_neg c]
  have e0 : (if sk_isO (sk_mk S I) 105 11 = true then sk_ci (sk_c d 150 [.ref 105, .int (sj p)] (sk_mk S I)) fun v2 w1 => if sk_cond .eq v2 (sj 0) = true then sk_D178 d 13 [some (.ref 105), some (.int (sj p)), none, none, none, none, none, none, none, none, none] [.int (sj 1)] w1 else sk_D178 d 13 [some (.ref 105), some (.int (sj p)), none, none, none, none, none, none, none, none, none] [.int (sj 2)] w1 else none) = sk_D178 d 13 [some (.ref 105), some (.int (sj p)), none, none, none, none, none, none, none, none, none] [.int (sj (if twoW v p = true then 2 else 1))] (sk_mk S I) := by
    simp (disch := omega) only [↓g105_ob hS, e150, ↓Option.bind_some, ↓sk_ci_some, ↓sk_cv_some, ↓sk_cf_some, if_true, eq_self, ite_self, bi_ceq]
    cases twoW v p <;> rfl
  rw [e0, e13]
  unfold fF
  by_cases c : v 0 4 = 0
  · rw [if_pos c, if_pos c]
    exact r178_all hd hS hR hV hp none none
  · rw [if_neg c, if_neg c]
    obtain ⟨I1, o5, p6, p7, e1, rfl, hc, hf⟩ := r178_w (I := I) hd hS hR hV hp none none
    rw [e1]
    have hqb : QB (wF v p) := fld_inv (fun k s => QB s) (fun k s hk hs => by
      unfold wst2
      have hkk : (k : Int) < v 0 5 := by omega
      split
      · exact wst_QB hV hp hkk (Or.inr rfl) (wst_QB hV hp hkk (Or.inl rfl) hs)
      · exact wst_QB hV hp hkk (Or.inl rfl) hs) trivial
    cases hw : wF v p with
    | none =>
      obtain ⟨I2, e2, h1, h2, h3⟩ := r178_all hd hS (hR.FR hf) hV hp p6 p7
      exact ⟨I2, by rw [if_neg (by simp)]; exact e2, h1, h2, hf.trans h3⟩
    | some q =>
      rw [hw] at hc hqb
      exact ⟨I1, by rw [if_pos (by rfl)]; rfl, hc, hqb, hf⟩
end FND
