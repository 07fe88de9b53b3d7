/-! ===== best ===== -/
section BES
variable {S : List sk_Sh} {I v : sk_H}
def bUp (n : Nat) (v : sk_H) (b : Int) : Bool := decide ((rnV v).2 = n ∧ (b = -1 ∨ topV (rnV v).1 < b))
def bst (n : Nat) : Nat → sk_H → Int → (Nat → Int) → Int × (Nat → Int)
  | 0, _, b, o => (b, o)
  | m + 1, v, b, o => match nxF leI n ((rnV v).1 9) with
    | none => (if bUp n v b = true then topV (rnV v).1 else b, if bUp n v b = true then (rnV v).1 9 else o)
    | some g => bst n m (st9 (rnV v).1 g) (if bUp n v b = true then topV (rnV v).1 else b) (if bUp n v b = true then (rnV v).1 9 else o)
def bR (b : Int) : Prop := b = -1 ∨ (0 ≤ b ∧ b ≤ 1000)
theorem bR_up {n : Nat} (hV : VO v) {b : Int} (hb : bR b) : bR (if bUp n v b = true then topV (rnV v).1 else b) := by
  split
  · exact Or.inr (topV_rng (rnV_inv hV).1.1)
  · exact hb
theorem bst_rng {n : Nat} : ∀ (m : Nat) (v : sk_H) (b : Int) (o : Nat → Int), VT v → v 0 2 = n → bR b → bR (bst n m v b o).1 := by
  intro m
  induction m with
  | zero => intro v b o _ _ h; exact h
  | succ m ih =>
    intro v b o hT hn hb
    have r := rnV_inv hT.1
    have h2 : (rnV v).1 0 2 = n := (r.2.1 0 2 (by omega) (by omega)).trans hn
    unfold bst
    cases hx : nxF leI n ((rnV v).1 9) with
    | none => exact bR_up hT.1 hb
    | some g => exact ih _ _ _ (VT_nx r.1 h2 hx) ((st9_ne _ _ _ (by omega)).trans h2) (bR_up hT.1 hb)
theorem c69 {d : Nat} (hd : 12 ≤ d + 1) (hS : sk_G S) {n : Nat} (h5 : n ≤ 5) : ∀ (m x3 : Nat) (K v : sk_H) (b : Int) (o : Nat → Int) (o4 : Option Value), x3 + m = 120 → vC K 53 = v → VT v → v 0 2 = n → K 74 1 = b → bR b → (∀ k, k < n → K 75 k = o k) → ∃ K', sk_D69 d 18 [some (.ref 74), some (.ref 53), some (.ref 72), some (.int (sj (x3 : Int))), o4] [] (sk_mk S K) = some (none, sk_mk S K') ∧ K' 74 1 = (bst n m v b o).1 ∧ (∀ k, k < n → K' 75 k = (bst n m v b o).2 k) ∧ ∀ c, ¬ (53 ≤ c ∧ c < 87) → K' c = K c := by
  have ha : sk_isP 53 := Or.inr (Or.inr rfl)
  intro m
  induction m with
  | zero =>
    intro x3 K v b o o4 hx hv hT hn hb hbr ho
    refine ⟨K, ?_, hb, ho, fun _ _ => rfl⟩
    rw [sk_e69_18, if_pos (ky_ge (by omega) (by omega) (by omega) (by omega) (by omega))]
  | succ m ih =>
    intro x3 K v b o o4 hx hv hT hn hb hbr ho
    obtain ⟨K1, e1, k1, f1⟩ := m18 (S := S) (I := K) (d := d) (by omega) hS ha hv hT.1
    have r := rnV_inv hT.1
    have h2 : (rnV v).1 0 2 = n := (r.2.1 0 2 (by omega) (by omega)).trans hn
    have tr := topV_rng r.1.1
    have t2 : (x3 : Int) + 1 = ((x3 + 1 : Nat) : Int) := rfl
    have go : ∀ (J : sk_H) (b' : Int) (o' : Nat → Int) (p4 : Option Value), vC J 53 = (rnV v).1 → J 74 1 = b' → bR b' → (∀ k, k < n → J 75 k = o' k) → (∀ c, ¬ (53 ≤ c ∧ c < 87) → J c = K c) → ∃ K', (sk_ci (sk_c d 72 [.ref 74, .ref 53] (sk_mk S J)) fun v2 w1 => if sk_cond .ne v2 (sj 0) = true then sk_D69 d 18 [some (.ref 74), some (.ref 53), some (.ref 72), some (.int (sj (x3 : Int) + sj 1)), p4] [] w1 else some (none, w1)) = some (none, sk_mk S K') ∧ K' 74 1 = (match nxF leI n ((rnV v).1 9) with | none => (b', o') | some g => bst n m (st9 (rnV v).1 g) b' o').1 ∧ (∀ k, k < n → K' 75 k = (match nxF leI n ((rnV v).1 9) with | none => (b', o') | some g => bst n m (st9 (rnV v).1 g) b' o').2 k) ∧ ∀ c, ¬ (53 ≤ c ∧ c < 87) → K' c = K c := by
      intro J b' o' p4 j1 j2 j3 j4 j5
      obtain ⟨no, so⟩ := m72 (S := S) (I := J) (d := d) (by omega) hS j1 r.1 h2 74
      cases hx2 : nxF leI n ((rnV v).1 9) with
      | none =>
        refine ⟨J, ?_, j2, j4, j5⟩
        rw [no hx2, sk_ci_some, if_neg (kn_ne rfl)]
      | some g =>
        obtain ⟨L, el, l1, l2⟩ := so g hx2
        obtain ⟨K', e, a1, a2, a3⟩ := ih (x3 + 1) L (st9 (rnV v).1 g) b' o' p4 (by omega) l1 (VT_nx r.1 h2 hx2) ((st9_ne _ _ _ (by omega)).trans h2) (by rw [l2 74 (by omega)]; exact j2) j3 (fun k hk => by rw [l2 75 (by omega)]; exact j4 k hk)
        refine ⟨K', ?_, a1, a2, fun c hc => (a3 c hc).trans ((l2 c (by omega)).trans (j5 c hc))⟩
        rw [el, sk_ci_some, if_pos (by decide), sj_add, t2]
        exact e
    have kb : K1 74 1 = b := by rw [f1 74 (by omega) (by omega)]; exact hb
    have ko : ∀ k, k < n → K1 75 k = o k := fun k hk => by rw [f1 75 (by omega) (by omega)]; exact ho k hk
    have kf : ∀ c, ¬ (53 ≤ c ∧ c < 87) → K1 c = K c := fun c hc => f1 c (by omega) (by omega)
    unfold bst
    have hbr' : -1 ≤ b ∧ b ≤ 1000 := by unfold bR at hbr; omega
    rw [sk_e69_18, if_neg (kn_ge (by omega) (by omega) (by omega) (by omega) (by omega)), g72_ob hS, e1, sk_ci_some, pl_i6b hS ha, vc6 k1, h2]
    by_cases c : (rnV v).2 = n
    rotate_left
    · have eu : bUp n v b = false := decide_eq_false (fun h => c h.1)
      rw [if_pos (ky_ne (by omega) (by omega) (by omega) (by omega) c), sk_e69_41, if_pos (by decide), g74_ob hS, eu, if_neg (show ¬ (false = true) by decide), if_neg (show ¬ (false = true) by decide)]
      exact go K1 b o (some (.int (sj 0))) k1 kb hbr ko kf
    rw [if_neg (kn_ne c), sk_e69_41, if_neg (by decide), g74_i1b hS, kb]
    have e67 : ∀ o4 : Option Value, bUp n v b = true → ∃ K', sk_D69 d 67 [some (.ref 74), some (.ref 53), some (.ref 72), some (.int (sj (x3 : Int))), o4] [] (sk_mk S K1) = some (none, sk_mk S K') ∧ K' 74 1 = (match nxF leI n ((rnV v).1 9) with | none => (topV (rnV v).1, (rnV v).1 9) | some g => bst n m (st9 (rnV v).1 g) (topV (rnV v).1) ((rnV v).1 9)).1 ∧ (∀ k, k < n → K' 75 k = (match nxF leI n ((rnV v).1 9) with | none => (topV (rnV v).1, (rnV v).1 9) | some g => bst n m (st9 (rnV v).1 g) (topV (rnV v).1) ((rnV v).1 9)).2 k) ∧ ∀ c, ¬ (53 ≤ c ∧ c < 87) → K' c = K c := by
      intro o4 _
      have c0 : vC (u2 K1 74 1 (topV (rnV v).1)) 53 = (rnV v).1 := (vC_fr (fun b b1 b2 => funext fun k => u2_ne _ _ (by omega))).trans k1
      have ec := mk_copy (S := S) (I := u2 K1 74 1 (topV (rnV v).1)) (a0 := 55) (a := 75) (n0 := 10) (n1 := 5) (sp := 0) (dp := 0) (n := n) (sh_po hS ha) (sh_75 hS) (by omega) (by omega) (by omega) (by omega) (by omega) (by omega) (by omega) (by omega) (by omega)
      have c1 : vC (cpy2 (u2 K1 74 1 (topV (rnV v).1)) 55 (0 : Int).toNat 75 (0 : Int).toNat (n : Int).toNat) 53 = (rnV v).1 := (vC_fr (fun b b1 b2 => cpy_ne (by omega))).trans c0
      have x9 : ∀ k, (u2 K1 74 1 (topV (rnV v).1)) 55 k = (rnV v).1 9 k := fun k => vo_ c0
      obtain ⟨K', e, a⟩ := go _ (topV (rnV v).1) ((rnV v).1 9) o4 c1 (by rw [cpy_ne (by omega), u2_eq]) (Or.inr tr) (fun k hk => by
        rw [cpy_at (by omega) (by omega), show (0 : Int).toNat + (k - (0 : Int).toNat) = k by omega]; exact x9 k) (fun c hc => by
        rw [cpy_ne (by omega), show (u2 K1 74 1 (topV (rnV v).1)) c = K1 c from funext fun k => u2_ne _ _ (by omega)]; exact kf c hc)
      refine ⟨K', ?_, a⟩
      rw [sk_e69_67, pl_ob hS ha, m43 (by omega) hS ha k1 r.1.1, sk_ci_some, g74_u1b hS, pl_r1b hS ha, g74_r0b hS, pl_i6b hS ha, vc6 c0, h2, ec, Option.bind_some, g74_ob hS]
      exact e
    by_cases b1 : b = -1
    · have eu : bUp n v b = true := decide_eq_true ⟨c, Or.inl b1⟩
      rw [if_pos (ky_eq b1), eu, if_pos (show (true = true) from rfl), if_pos (show (true = true) from rfl)]
      exact e67 _ eu
    · rw [if_neg (kn_eq (by omega) (by omega) (by omega) (by omega) b1), pl_ob hS ha, m43 (by omega) hS ha k1 r.1.1, sk_ci_some, g74_i1b hS, kb]
      by_cases b2 : b ≤ topV (rnV v).1
      · have eu : bUp n v b = false := decide_eq_false (fun h => by have := h.2; omega)
        rw [if_pos (ky_ge (by omega) (by omega) (by omega) (by omega) b2), g74_ob hS, eu, if_neg (show ¬ (false = true) by decide), if_neg (show ¬ (false = true) by decide)]
        exact go K1 b o (some (.int (sj 1))) k1 kb hbr ko kf
      · have eu : bUp n v b = true := decide_eq_true ⟨c, Or.inr (by omega)⟩
        rw [if_neg (kn_ge (by omega) (by omega) (by omega) (by omega) (by omega)), eu, if_pos (show (true = true) from rfl), if_pos (show (true = true) from rfl)]
        exact e67 _ eu
def RLB (I J : sk_H) : Prop := (∀ c, c ≠ 105 → c ≠ 107 → c ≠ 112 → J c = I c) ∧ ∀ k, ¬ (7 ≤ k ∧ k ≤ 10) → J 105 k = I 105 k
theorem RLB.trans {I J K : sk_H} (h1 : RLB I J) (h2 : RLB J K) : RLB I K := ⟨fun c a b e => (h2.1 c a b e).trans (h1.1 c a b e), fun k hk => (h2.2 k hk).trans (h1.2 k hk)⟩
theorem RLB.of107 {I J : sk_H} (h : ∀ c, c ≠ 107 → J c = I c) : RLB I J := ⟨fun c _ b _ => h c b, fun k _ => by rw [h 105 (by omega)]⟩
theorem RLB.ofFS {I J : sk_H} (h : FS I J) : RLB I J := ⟨fun c a b _ => h.1 c a b, h.2⟩
theorem r199_11 {d : Nat} (hd : 8 ≤ d + 1) (hS : sk_G S) {n : Nat} (h5 : n ≤ 5) : ∀ (m : Nat) (K v : sk_H) (b : Int) (o : Nat → Int), trmF leI n m (v 9) = true → RP K 107 v → VT v → v 0 2 = n → bR b → (∀ k, k < n → K 112 k = o k) → ∃ K', sk_D199 d 11 [some (.ref 105), some (.int (sj b))] [] (sk_mk S K) = some (some (.int (sj (bst n m v b o).1)), sk_mk S K') ∧ (∀ k, k < n → K' 112 k = (bst n m v b o).2 k) ∧ (∀ k, k < 1141 → K' 107 k = K 109 k) ∧ RLB K K' := by
  intro m
  induction m with
  | zero => intro K v b o ht; cases ht
  | succ m ih =>
    intro K v b o ht hR hT hn hbr ho
    obtain ⟨K1, e1, k1, f1⟩ := m184 (S := S) (I := K) (d := d) (by omega) hS hR hT.1
    have r := rnV_inv hT.1
    have h2 : (rnV v).1 0 2 = n := (r.2.1 0 2 (by omega) (by omega)).trans hn
    have h9 : (rnV v).1 9 = v 9 := funext fun k => r.2.1 9 k (by omega) (by omega)
    have tr := topV_rng r.1.1
    have z2 : (2 : Int).toNat = 2 := rfl
    have q2 : K1 107 2 = n := (k1.1 2 (by omega)).trans h2
    have l1 := RLB.ofFS f1
    have go : ∀ (J : sk_H) (b' : Int) (o' : Nat → Int), RP J 107 (rnV v).1 → bR b' → (∀ k, k < n → J 112 k = o' k) → RLB K J → ∃ K', (sk_ci (sk_c d 198 [.ref 105] (sk_mk S J)) fun v6 w5 => if sk_cond .ne v6 (sj 0) = true then sk_D199 d 11 [some (.ref 105), some (.int (sj b'))] [] w5 else if sk_isO w5 105 11 = true then sk_cv (sk_c d 147 [.ref 105, .int (sj 2)] w5) fun w7 => some (some (.int (sj b')), w7) else none) = some (some (.int (sj (match nxF leI n ((rnV v).1 9) with | none => (b', o') | some g => bst n m (st9 (rnV v).1 g) b' o').1)), sk_mk S K') ∧ (∀ k, k < n → K' 112 k = (match nxF leI n ((rnV v).1 9) with | none => (b', o') | some g => bst n m (st9 (rnV v).1 g) b' o').2 k) ∧ (∀ k, k < 1141 → K' 107 k = K 109 k) ∧ RLB K K' := by
      intro J b' o' j1 j3 j4 j5
      obtain ⟨no, so⟩ := m198 (S := S) (I := J) (d := d) (by omega) hS j1 r.1 h2
      cases hx2 : nxF leI n ((rnV v).1 9) with
      | none =>
        obtain ⟨L, el, c1, f2⟩ := m147 (S := S) (I := J) (d := d) (by omega) hS (m := 2) (by omega)
        have el : sk_c d 147 [.ref 105, .int (sj 2)] (sk_mk S J) = some (none, sk_mk S L) := el
        refine ⟨L, ?_, fun k hk => by rw [f2 112 (by omega)]; exact j4 k hk, fun k hk => ?_, j5.trans (RLB.of107 f2)⟩
        · rw [no hx2, sk_ci_some, if_neg (kn_ne rfl), g105_ob hS, el, sk_cv_some]
        · rw [c1 k hk]
          show J 109 k = _
          rw [j5.1 109 (by omega) (by omega) (by omega)]
      | some g =>
        obtain ⟨L, el, c1, c2⟩ := so g hx2
        have ht2 : trmF leI n m g = true := by
          unfold trmF at ht
          rw [← h9, hx2] at ht
          exact ht
        obtain ⟨K', e, a1, a2, a3⟩ := ih L (st9 (rnV v).1 g) b' o' (by rw [st9_9]; exact ht2) c1 (VT_nx r.1 h2 hx2) ((st9_ne _ _ _ (by omega)).trans h2) j3 (fun k hk => by rw [c2 112 (by omega)]; exact j4 k hk)
        refine ⟨K', ?_, a1, fun k hk => ?_, j5.trans ((RLB.of107 c2).trans a3)⟩
        · rw [el, sk_ci_some, if_pos (by decide)]
          exact e
        · rw [a2 k hk, c2 109 (by omega), j5.1 109 (by omega) (by omega) (by omega)]
    have ko : ∀ k, k < n → K1 112 k = o k := fun k hk => by rw [f1.1 112 (by omega) (by omega)]; exact ho k hk
    have hbr' : -1 ≤ b ∧ b ≤ 1000 := by unfold bR at hbr; omega
    unfold bst
    rw [sk_e199_11, g105_ob hS, e1, sk_ci_some, g105_r1b hS, g107_ab hS (by omega) (by omega), z2, q2]
    by_cases c : (rnV v).2 = n
    rotate_left
    · have eu : bUp n v b = false := decide_eq_false (fun h => c h.1)
      rw [if_pos (ky_ne (by omega) (by omega) (by omega) (by omega) c), g105_ob hS, eu, if_neg (show ¬ (false = true) by decide), if_neg (show ¬ (false = true) by decide)]
      exact go K1 b o k1 hbr ko l1
    rw [if_neg (kn_ne c)]
    have e37 : ∃ K', sk_D199 d 37 [some (.ref 105), some (.int (sj b))] [] (sk_mk S K1) = some (some (.int (sj (match nxF leI n ((rnV v).1 9) with | none => (topV (rnV v).1, (rnV v).1 9) | some g => bst n m (st9 (rnV v).1 g) (topV (rnV v).1) ((rnV v).1 9)).1)), sk_mk S K') ∧ (∀ k, k < n → K' 112 k = (match nxF leI n ((rnV v).1 9) with | none => (topV (rnV v).1, (rnV v).1 9) | some g => bst n m (st9 (rnV v).1 g) (topV (rnV v).1) ((rnV v).1 9)).2 k) ∧ (∀ k, k < 1141 → K' 107 k = K 109 k) ∧ RLB K K' := by
      have ec := mk_copy (S := S) (I := K1) (a0 := 107) (a := 112) (n0 := 1141) (n1 := 10) (sp := 87) (dp := 0) (n := 10) (sh_107 hS) (sh_112 hS) (by omega) (by omega) (by omega) (by omega) (by omega) (by omega) (by omega) (by omega) (by omega)
      obtain ⟨K', e, a⟩ := go (cpy2 K1 107 (87 : Int).toNat 112 (0 : Int).toNat (10 : Int).toNat) (topV (rnV v).1) ((rnV v).1 9) (k1.fr (cpy_ne (by omega))) (Or.inr tr) (fun k hk => by
        rw [cpy_at (by omega) (by omega), show (87 : Int).toNat + (k - (0 : Int).toNat) = 87 + k by omega]
        exact k1.2.2.1 k (by omega)) (l1.trans ⟨fun c _ _ h => cpy_ne h, fun k _ => by rw [cpy_ne (by omega)]⟩)
      refine ⟨K', ?_, a⟩
      rw [sk_e199_37, g105_ob hS, m185 (by omega) hS k1 r.1.1, sk_ci_some, g105_r1b hS, g105_r11b hS, ec, Option.bind_some, g105_ob hS]
      exact e
    by_cases b1 : b = -1
    · have eu : bUp n v b = true := decide_eq_true ⟨c, Or.inl b1⟩
      rw [if_pos (ky_eq b1), eu, if_pos (show (true = true) from rfl), if_pos (show (true = true) from rfl)]
      exact e37
    · rw [if_neg (kn_eq (by omega) (by omega) (by omega) (by omega) b1), g105_ob hS, m185 (by omega) hS k1 r.1.1, sk_ci_some]
      by_cases b2 : b ≤ topV (rnV v).1
      · have eu : bUp n v b = false := decide_eq_false (fun h => by have := h.2; omega)
        rw [if_pos (ky_ge (by omega) (by omega) (by omega) (by omega) b2), g105_ob hS, eu, if_neg (show ¬ (false = true) by decide), if_neg (show ¬ (false = true) by decide)]
        exact go K1 b o k1 hbr ko l1
      · have eu : bUp n v b = true := decide_eq_true ⟨c, Or.inr (by omega)⟩
        rw [if_neg (kn_ge (by omega) (by omega) (by omega) (by omega) (by omega)), eu, if_pos (show (true = true) from rfl), if_pos (show (true = true) from rfl)]
        exact e37
theorem bst_o {n : Nat} : ∀ (m : Nat) (v : sk_H) (b : Int) (o o' : Nat → Int), (bst n m v b o).1 = (bst n m v b o').1 ∧ ((bst n m v b o).2 = (bst n m v b o').2 ∨ (bst n m v b o).1 = b) := by
  intro m
  induction m with
  | zero => intro v b o o'; exact ⟨rfl, Or.inr rfl⟩
  | succ m ih =>
    intro v b o o'
    unfold bst
    cases hx : nxF leI n ((rnV v).1 9) with
    | none =>
      dsimp only
      refine ⟨rfl, ?_⟩
      by_cases c : bUp n v b = true
      · rw [if_pos c, if_pos c]; exact Or.inl rfl
      · exact Or.inr (if_neg c)
    | some g =>
      dsimp only
      by_cases c : bUp n v b = true
      · rw [if_pos c, if_pos c, if_pos c]; exact ⟨rfl, Or.inl rfl⟩
      · rw [if_neg c, if_neg c, if_neg c]; exact ih _ _ _ _
theorem f_best (hS : sk_G S) (hG : GI I v) {x : Int} (x1 : -2147483648 ≤ x) (x2 : x < 2147483648) : FC S I 117 200 [.int (sj x)] := by
  have hG0 := hG
  obtain ⟨hv, hT, hR, hTp, hM, hRk, hSh⟩ := hG; have hV := hT.1; have ha : sk_isP 15 := Or.inl rfl; obtain ⟨n1, n2, n3, n4, n5, n6, n7, n8, n9, n10, n11, n12⟩ := hV.1
  have h53 : sk_isP 53 := Or.inr (Or.inr rfl)
  have z2 : (2 : Int).toNat = 2 := rfl
  obtain ⟨n, hn⟩ : ∃ n : Nat, v 0 2 = n := ⟨(v 0 2).toNat, by omega⟩
  have cc := sk_e117 19 1 (sj x) (sk_mk S I)
  have rr := fun J : sk_H => sk_e200 19 105 (sj x) (sk_mk S J)
  have rr : ∀ J : sk_H, J 107 = I 107 → sk_c 20 200 [.ref 105, .int (sj x)] (sk_mk S J) = _ := fun J hJ => by
    rw [rr, g105_r1b hS, g107_ab hS (by omega) (by omega), z2, hJ, hR.1 2 (by omega), hn]
  rw [g1_r1b hS, pl_i6b hS ha, vc6 hv, hn] at cc
  by_cases h5 : n ≤ 5
  rotate_left
  · rw [if_neg (kn_le (by omega) (by omega) (by omega) (by omega) (by omega))] at cc
    refine FC_same hG0 (-3) cc ?_
    rw [rr I rfl, if_neg (kn_le (by omega) (by omega) (by omega) (by omega) (by omega))]
  rw [if_pos (ky_le (by omega) (by omega) (by omega) (by omega) (by omega))] at cc
  by_cases hx : -1 ≤ x ∧ x ≤ (n : Int) - 1
  rotate_left
  · refine FC_same hG0 (-12) ?_ ?_
    · rw [cc]
      by_cases c : x < -1
      · rw [if_pos (ky_lt (by omega) (by omega) (by omega) (by omega) c)]
      · rw [if_neg (kn_lt (by omega) (by omega) (by omega) (by omega) (by omega)), g1_r1b hS, pl_i6b hS ha, vc6 hv, hn, if_neg (kn_lt (by omega) (by omega) (by omega) (by omega) (by omega))]
    · rw [rr I rfl, if_pos (ky_le (by omega) (by omega) (by omega) (by omega) (by omega)), g105_r1b hS, g107_ab hS (by omega) (by omega), z2, hR.1 2 (by omega), hn, sj_sub, m144 (by omega) x1 x2 (by omega) (by omega) (by omega) (by omega), sk_ci_some, decide_eq_false hx, if_neg cf_bne]
  obtain ⟨I1, e1, h1, f1⟩ := m36 (S := S) (I := I) (d := 19) (by omega) hS (a := 53) (b := 15) h53 ha (by omega) hv hV
  generalize hu : vC I1 53 = u at h1
  have hTu : VT u := VT_VA hT h1
  have un : u 0 2 = n := (h1.1 2 (by omega)).trans hn
  -- the class: sorted, then all orders
  have s0 : vC (u2 I1 74 1 (-1)) 53 = u := (vC_fr (fun b b1 b2 => funext fun k => u2_ne _ _ (by omega))).trans hu
  have hTs := VT_srF hTu n (by omega)
  obtain ⟨I2, e2, a2, f2⟩ := m77 (S := S) (I := u2 I1 74 1 (-1)) (d := 18) (x0 := 55) (L := 10) (n := n) (by omega) (sh_po hS h53) (by omega) (by omega) (by omega) (by omega) (fun k hk => by
    have q := hTu.1.2.2.1.1 k (by omega)
    have e : (u2 I1 74 1 (-1)) 55 k = u 9 k := vo_ s0
    have := hTu.1.1.2.2.2.1
    omega)
  have e9 : (u2 I1 74 1 (-1)) 55 = u 9 := funext fun k => vo_ s0
  rw [e9] at a2
  have s2 : vC I2 53 = st9 u (srF n (u 9)) := vC_55 s0 a2 f2
  have sn2 : st9 u (srF n (u 9)) 0 2 = n := (st9_ne _ _ _ (by omega)).trans un
  obtain ⟨I3, e3, b1, b2, f3⟩ := c69 (S := S) (d := 18) (by omega) hS (n := n) h5 120 0 I2 (st9 u (srF n (u 9))) (-1) (I2 75) none (by omega) s2 hTs sn2 (by rw [f2 74 (by omega), u2_eq]) (Or.inl rfl) (fun _ _ => rfl)
  have br := bst_rng 120 (st9 u (srF n (u 9))) (-1) (I2 75) hTs sn2 (Or.inl rfl)
  have fI : ∀ c, ¬ (53 ≤ c ∧ c < 87) → I3 c = I c := fun c hc => by
    rw [f3 c hc, f2 c (by omega), show (u2 I1 74 1 (-1)) c = I1 c from funext fun k => u2_ne _ _ (by omega), f1 c (by omega)]
  have c69' : sk_c 19 69 [.ref 74, .ref 53, .ref 72] (sk_mk S I1) = some (none, sk_mk S I3) := by
    rw [sk_e69, g74_u1b hS, pl_r1b hS h53, pl_i6b hS h53, vc6 s0, un]
    show sk_cv (sk_c 18 77 [.ref 55, .int (sj (n : Int))] (sk_mk S (u2 I1 74 1 (-1)))) _ = _
    rw [e2, sk_cv_some]
    exact e3
  -- the reference
  have hR3 : RP I3 107 u := (RP_VA hR h1).fr (fI 107 (by omega))
  obtain ⟨K, ek, k1, k2⟩ := m146 (S := S) (I := I3) (d := 18) (by omega) hS (m := 2) (by omega)
  have ek : sk_c 18 146 [.ref 105, .int (sj 2)] (sk_mk S I3) = some (none, sk_mk S K) := ek
  have k1 : ∀ k, k < 1141 → K 109 k = I3 107 k := k1
  have k2 : ∀ c, c ≠ 109 → K c = I3 c := k2
  obtain ⟨K2, ek2, l1, l2⟩ := m197 (S := S) (I := K) (d := 18) (by omega) hS (hR3.fr (k2 107 (by omega))) hTu un
  have htr : trmF leI n 120 (st9 u (srF n (u 9)) 9) = true := by rw [st9_9]; exact trm_srV hTu un h5
  obtain ⟨L, el, g1, g2, g3⟩ := r199_11 (S := S) (d := 18) (by omega) hS (n := n) h5 120 K2 (st9 u (srF n (u 9))) (-1) (K2 112) htr l1 hTs sn2 (Or.inl rfl) (fun _ _ => rfl)
  have e199 : sk_c 19 199 [.ref 105] (sk_mk S I3) = some (some (.int (sj (bst n 120 (st9 u (srF n (u 9))) (-1) (K2 112)).1)), sk_mk S L) := by
    rw [sk_e199, g105_ob hS, ek, sk_cv_some, g105_ob hS, ek2, sk_cv_some]
    exact el
  obtain ⟨o1, o2⟩ := bst_o (n := n) 120 (st9 u (srF n (u 9))) (-1) (K2 112) (I2 75)
  have hG3 : GI L v := by
    refine GI_GF hG0 ⟨fun b c1 c2 c3 c4 => ?_, fun k hk => ?_, fun k hk => ?_, fun k hk => ?_⟩
    · rw [g3.1 b c2 c3 (by unfold Gb at c1; omega), l2 b c3, k2 b (by unfold Gb at c1; omega), fI b (by unfold Gb at c1; omega)]
    · rw [g3.2 k (by omega), l2 105 (by omega), k2 105 (by omega), fI 105 (by omega)]
    · rw [g2 k hk, l2 109 (by omega), k1 k hk, fI 107 (by omega)]
    · rw [g3.1 2 (by omega) (by omega) (by omega), l2 2 (by omega), k2 2 (by omega), fI 2 (by omega)]
  rw [if_neg (kn_lt (by omega) (by omega) (by omega) (by omega) (by omega)), g1_r1b hS, pl_i6b hS ha, vc6 hv, hn, if_pos (ky_lt (by omega) (by omega) (by omega) (by omega) (by omega)), g1_r3b hS, g1_r1b hS, pl_ob hS h53, e1, sk_cv_some, g1_r5b hS, g1_r3b hS, g1_r4b hS, g74_ob hS, c69', sk_cv_some, g1_r5b hS, g74_i1b hS, b1, ← o1] at cc
  have rr := rr I3 (fI 107 (by omega))
  rw [if_pos (ky_le (by omega) (by omega) (by omega) (by omega) (by omega)), g105_r1b hS, g107_ab hS (by omega) (by omega), z2, fI 107 (by omega), hR.1 2 (by omega), hn, sj_sub, m144 (by omega) x1 x2 (by omega) (by omega) (by omega) (by omega), sk_ci_some, decide_eq_true hx, if_pos ct_bne, g105_ob hS, e199, sk_ci_some] at rr
  rw [← o1] at br
  generalize hb : (bst n 120 (st9 u (srF n (u 9))) (-1) (K2 112)) = bb at *
  have br' : -1 ≤ bb.1 ∧ bb.1 ≤ 1000 := by unfold bR at br; omega
  by_cases cb : bb.1 = -1
  · rw [if_neg (kn_ne cb)] at cc
    refine ⟨_, I3, L, v, cc, ?_, hG3⟩
    rw [rr]
    by_cases cx : x = -1
    · rw [if_pos (ky_eq cx), cb]
    · rw [if_neg (kn_eq (by omega) (by omega) (by omega) (by omega) cx), if_neg (kn_ne cb), cb]
  · rw [if_pos (ky_ne (by omega) (by omega) (by omega) (by omega) cb)] at cc
    by_cases cx : x = -1
    · rw [if_neg (kn_ne cx), g1_r5b hS, g74_i1b hS, b1, ← o1] at cc
      refine ⟨_, I3, L, v, cc, ?_, hG3⟩
      rw [rr, if_pos (ky_eq cx)]
    · have eo := o2.resolve_right cb
      obtain ⟨k, rfl⟩ : ∃ k : Nat, x = k := ⟨x.toNat, by omega⟩
      rw [if_pos (ky_ne (by omega) (by omega) (by omega) (by omega) cx), g1_r5b hS, g74_r0b hS, g75_ab hS (by omega) (by omega), Int.toNat_natCast, b2 k (by omega), ← eo] at cc
      refine ⟨_, I3, L, v, cc, ?_, hG3⟩
      rw [rr, if_neg (kn_eq (by omega) (by omega) (by omega) (by omega) cx), if_pos (ky_ne (by omega) (by omega) (by omega) (by omega) cb), g105_r11b hS, g112_ab hS (by omega) (by omega), Int.toNat_natCast, g1 k (by omega)]
end BES
