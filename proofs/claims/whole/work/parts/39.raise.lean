/-! ===== the skyline is raised ===== -/
def adR (v : sk_H) (f : Nat) (low w h : Int) : sk_H := if overV v f low w h = true then v else wAdd v f low w h
/-- over one column: what is behind it decides -/
def rSt (v0 : sk_H) (x w : Nat) (y : Int) (j : Nat) (s : sk_H × Nat) : sk_H × Nat := if j + 1 < w ∧ v0 10 (x + j + 1) = v0 10 (x + j) then s else (adR s.1 s.2 (v0 10 (x + j)) ((x + j + 1 : Nat) - s.2 : Int) (y - v0 10 (x + j)), x + j + 1)
def rG (v : sk_H) (x w : Nat) (y : Int) (k : Nat) : sk_H × Nat := fld k (rSt v x w y) (v, x)
def skyS (v : sk_H) (x w : Nat) (h : Int) : sk_H := fun s k => if s = 10 ∧ x ≤ k ∧ k < x + w then h else v s k
def raisV (v : sk_H) (x w : Nat) (y t : Int) : sk_H := skyS (rG v x w y w).1 x w (y + t)
theorem rG_succ (v : sk_H) (x w : Nat) (y : Int) (k : Nat) : rG v x w y (k + 1) = rSt v x w y k (rG v x w y k) := rfl
theorem adR_same (v : sk_H) (f : Nat) (low w h : Int) {s k : Nat} (hs : ¬ (11 ≤ s ∧ s ≤ 14)) (hk : ¬ (s = 0 ∧ k = 5)) : adR v f low w h s k = v s k := by
  unfold adR
  split
  · rfl
  · exact wAdd_same _ _ _ _ _ hs hk
theorem rG_same (v : sk_H) (x w : Nat) (y : Int) (n : Nat) {s k : Nat} (hs : ¬ (11 ≤ s ∧ s ≤ 14)) (hk : ¬ (s = 0 ∧ k = 5)) : (rG v x w y n).1 s k = v s k := by
  induction n with
  | zero => rfl
  | succ n ih =>
    rw [rG_succ]
    unfold rSt
    split
    · exact ih
    · exact (adR_same _ _ _ _ _ hs hk).trans ih
/-- how many rectangles come -/
def bndN (v : sk_H) (x w k : Nat) : Int := cntTo k (fun j => !decide (j + 1 < w ∧ v 10 (x + j + 1) = v 10 (x + j)))
theorem rG_inv {v : sk_H} (hV : VO v) {x w : Nat} {y : Int} (hx : (x : Int) + w ≤ v 0 0) (hy : ∀ c, x ≤ c → c < x + w → v 10 c ≤ y) (hy2 : y ≤ 300) (hn : v 0 5 + bndN v x w w ≤ 62) : ∀ k, k ≤ w → VO (rG v x w y k).1 ∧ (rG v x w y k).1 0 5 ≤ v 0 5 + bndN v x w k ∧ x ≤ (rG v x w y k).2 ∧ (rG v x w y k).2 ≤ x + k := by
  have hmono : ∀ m k, m + k = w → bndN v x w k ≤ bndN v x w w := by
    intro m
    induction m with
    | zero => intro k hk; obtain rfl : k = w := (by omega); exact Int.le_refl _
    | succ m ih =>
      intro k hk
      have h1 := ih (k + 1) (by omega)
      have h2 : bndN v x w k ≤ bndN v x w (k + 1) := by
        unfold bndN
        rw [cntTo_succ]
        split <;> omega
      omega
  intro k
  induction k with
  | zero => intro _; exact ⟨hV, by show v 0 5 ≤ v 0 5 + 0; omega, Nat.le_refl _, Nat.le_refl _⟩
  | succ k ih =>
    intro hk
    obtain ⟨i1, i2, i3, i4⟩ := ih (by omega)
    have hm := hmono (w - (k + 1)) (k + 1) (by omega)
    have hs : bndN v x w (k + 1) = if (!decide (k + 1 < w ∧ v 10 (x + k + 1) = v 10 (x + k))) = true then bndN v x w k + 1 else bndN v x w k := cntTo_succ _ _
    rw [rG_succ]
    unfold rSt
    by_cases hc : k + 1 < w ∧ v 10 (x + k + 1) = v 10 (x + k)
    · rw [if_pos hc]
      rw [decide_eq_true hc] at hs
      have hs : bndN v x w (k + 1) = bndN v x w k := hs
      exact ⟨i1, by omega, i3, by omega⟩
    · rw [if_neg hc]
      rw [decide_eq_false hc] at hs
      have hs : bndN v x w (k + 1) = bndN v x w k + 1 := hs
      have hE := hV.2.2.2.1 (x + k) (by omega)
      have hyk := hy (x + k) (by omega) (by omega)
      have h00 : (rG v x w y k).1 0 0 = v 0 0 := rG_same v x w y k (by omega) (by omega)
      refine ⟨?_, ?_, by dsimp only; omega, by dsimp only; omega⟩
      · dsimp only
        unfold adR
        split
        · exact i1
        · exact VO_wAdd i1 (by omega) (by omega) (by omega) (by omega) (by omega)
      · dsimp only
        unfold adR
        split
        · omega
        · have := wAdd_n (rG v x w y k).1 (rG v x w y k).2 (v 10 (x + k)) ((x + k + 1 : Nat) - (rG v x w y k).2 : Int) (y - v 10 (x + k))
          omega
theorem over_topIn {v : sk_H} (hV : VO v) (x y w t : Int) : (topIn v x y w t = -1) ↔ overV v x y w t = false := by
  have hp0 : ∀ p, p < (v 0 1).toNat → hit v x y w t p = true → 0 ≤ v 7 p + v 16 p := fun p hp hh => by
    have := vly hV (p := p) (by omega) (by rw [(of_decide_eq_true hh).1]; decide)
    omega
  rcases topIn_spec v x y w t with ⟨h1, h2⟩ | ⟨⟨p, hp, hh, e⟩, h2⟩ | ⟨p, hp, hh, e⟩
  · exact ⟨fun _ => h2, fun _ => h1⟩
  · have := hp0 p hp hh
    have ho : overV v x y w t = true := (anyTo_iff _ _).mpr ⟨p, hp, hh⟩
    rw [ho]
    exact ⟨fun h => by omega, fun h => by cases h⟩
  · have := hp0 p hp hh
    omega
section RAI
variable {S : List sk_Sh} {I v : sk_H} {a : Nat}
theorem m241 {d : Nat} (hd : 1 ≤ d) {n x y : Int} (h1 : 0 ≤ x) (h2 : x ≤ y) (h3 : y ≤ n) (h4 : n ≤ 100000) {w : sk_W} : sk_c d 241 [.int (sj n), .int (sj x), .int (sj y)] w = some (none, w) := by
  obtain ⟨d, rfl⟩ : ∃ e, d = e + 1 := ⟨d - 1, by omega⟩; rw [sk_e241]
  simp (disch := omega) only [sj_ceq, sj_cne, sj_clt, sj_cge, sj_cgt, sj_cle, bi_ceq, bi_cne, bi_01]
  rw [if_pos h2, if_pos h1, if_pos h3]
/-- Arrays.fill of a range -/
theorem m243 {d : Nat} (hd : 2 ≤ d) {b n : Nat} (hb : S[b]? = some (.inl n)) (hb0 : b ≠ 0) (hn : n ≤ 100000) {x y : Nat} (hxy : x ≤ y) (hy : y ≤ n) {h : Int} : ∃ I', sk_c d 243 [.ref b, .int (sj x), .int (sj y), .int (sj h)] (sk_mk S I) = some (none, sk_mk S I') ∧ (∀ k, I' b k = if x ≤ k ∧ k < y then h else I b k) ∧ ∀ c, c ≠ b → I' c = I c := by
  obtain ⟨d, rfl⟩ : ∃ e, d = e + 1 := ⟨d - 1, by omega⟩; rw [sk_e243]
  have e241 := m241 (d := d) (by omega) (n := n) (x := x) (y := y) (by omega) (by omega) (by omega) (by omega) (w := sk_mk S I)
  rw [mk_len hb, Option.bind_some, e241, sk_cv_some]
  have key : ∀ m k : Nat, m + k = y → ∀ I1 : sk_H, (∀ q, I1 b q = if x ≤ q ∧ q < k then h else I b q) → (∀ c, c ≠ b → I1 c = I c) → x ≤ k → ∃ I', sk_D243 d 10 [some (.ref b), some (.int (sj x)), some (.int (sj y)), some (.int (sj h)), some (.int (sj (k : Int)))] [] (sk_mk S I1) = some (none, sk_mk S I') ∧ (∀ k, I' b k = if x ≤ k ∧ k < y then h else I b k) ∧ ∀ c, c ≠ b → I' c = I c := by
    intro m
    induction m with
    | zero =>
      intro k hk I1 h1 h2 h3
      obtain rfl : k = y := by omega
      refine ⟨I1, ?_, h1, h2⟩
      rw [sk_e243_10]
      simp (disch := omega) only [sj_ceq, sj_cne, sj_clt, sj_cge, sj_cgt, sj_cle, bi_ceq, bi_cne, bi_01]
      rw [if_pos (by omega)]
    | succ m ih =>
      intro k hk I1 h1 h2 h3
      have t1 : (k : Int) + 1 = ((k + 1 : Nat) : Int) := rfl
      rw [sk_e243_10, mk_ast (n := n) h hb hb0 (by omega) (by omega) (by omega)]
      simp (disch := omega) only [sj_ceq, sj_cne, sj_clt, sj_cge, sj_cgt, sj_cle, bi_ceq, bi_cne, bi_01, ↓Option.bind_some, ↓sk_ci_some, ↓sk_cv_some, ↓sk_cf_some, if_true, eq_self, ite_self, sj_add, t1, Int.toNat_natCast]
      rw [if_neg (by omega)]
      refine ih (k + 1) (by omega) _ (fun q => ?_) (fun c hc => ?_) (by omega)
      · unfold u2
        by_cases e : q = k
        · rw [if_pos ⟨rfl, e⟩, if_pos (by omega)]
        · rw [if_neg (by omega), h1 q]
          by_cases e2 : x ≤ q ∧ q < k
          · rw [if_pos e2, if_pos (by omega)]
          · rw [if_neg e2, if_neg (by omega)]
      · rw [← h2 c hc]
        funext q
        exact u2_ne _ _ (by omega)
  exact key (y - x) x (by omega) I (fun q => by rw [if_neg (by omega)]) (fun _ _ => rfl) (Nat.le_refl _)
/-- Arrays.fill of all -/
theorem m242 {d : Nat} (hd : 1 ≤ d) {b n : Nat} (hb : S[b]? = some (.inl n)) (hb0 : b ≠ 0) (hn : n ≤ 100000) {h : Int} : ∃ I', sk_c d 242 [.ref b, .int (sj h)] (sk_mk S I) = some (none, sk_mk S I') ∧ (∀ k, I' b k = if k < n then h else I b k) ∧ ∀ c, c ≠ b → I' c = I c := by
  obtain ⟨d, rfl⟩ : ∃ e, d = e + 1 := ⟨d - 1, by omega⟩; rw [sk_e242]
  rw [mk_len hb, Option.bind_some]
  have key : ∀ m k : Nat, m + k = n → ∀ I1 : sk_H, (∀ q, I1 b q = if q < k then h else I b q) → (∀ c, c ≠ b → I1 c = I c) → ∃ I', sk_D242 d 5 [some (.ref b), some (.int (sj h)), some (.int (sj (k : Int))), some (.int (sj n))] [] (sk_mk S I1) = some (none, sk_mk S I') ∧ (∀ k, I' b k = if k < n then h else I b k) ∧ ∀ c, c ≠ b → I' c = I c := by
    intro m
    induction m with
    | zero =>
      intro k hk I1 h1 h2
      obtain rfl : k = n := by omega
      refine ⟨I1, ?_, h1, h2⟩
      rw [sk_e242_5]
      simp (disch := omega) only [sj_ceq, sj_cne, sj_clt, sj_cge, sj_cgt, sj_cle, bi_ceq, bi_cne, bi_01]
      rw [if_pos (by omega)]
    | succ m ih =>
      intro k hk I1 h1 h2
      have t1 : (k : Int) + 1 = ((k + 1 : Nat) : Int) := rfl
      rw [sk_e242_5, mk_ast (n := n) h hb hb0 (by omega) (by omega) (by omega)]
      simp (disch := omega) only [sj_ceq, sj_cne, sj_clt, sj_cge, sj_cgt, sj_cle, bi_ceq, bi_cne, bi_01, ↓Option.bind_some, ↓sk_ci_some, ↓sk_cv_some, ↓sk_cf_some, if_true, eq_self, ite_self, sj_add, t1, Int.toNat_natCast]
      rw [if_neg (by omega)]
      refine ih (k + 1) (by omega) _ (fun q => ?_) (fun c hc => ?_)
      · unfold u2
        by_cases e : q = k
        · rw [if_pos ⟨rfl, e⟩, if_pos (by omega)]
        · rw [if_neg (by omega), h1 q]
          by_cases e2 : q < k
          · rw [if_pos e2, if_pos (by omega)]
          · rw [if_neg e2, if_neg (by omega)]
      · rw [← h2 c hc]
        funext q
        exact u2_ne _ _ (by omega)
  exact key n 0 (by omega) I (fun q => by rw [if_neg (by omega)]) (fun _ _ => rfl)
theorem vC_sky {I I' : sk_H} {a x w : Nat} {h : Int} (h1 : ∀ k, I' (a + 3) k = if x ≤ k ∧ k < x + w then h else I (a + 3) k) (h2 : ∀ c, c ≠ a + 3 → I' c = I c) : vC I' a = skyS (vC I a) x w h := by
  funext s k
  unfold skyS
  by_cases hs : s = 10
  · subst hs
    show I' (a + 3) k = _
    rw [h1 k]
    by_cases hc : x ≤ k ∧ k < x + w
    · rw [if_pos hc, if_pos ⟨rfl, hc⟩]
    · rw [if_neg hc, if_neg (fun h => hc h.2)]
      rfl
  · rw [if_neg (fun h => hs h.1)]
    unfold vC
    split
    all_goals first
      | rfl
      | (exfalso; exact hs rfl)
      | (split <;> first | rfl | rw [h2 _ (by omega)])
      | rw [h2 _ (by omega)]
theorem m56 {d : Nat} (hd : 3 ≤ d) (hS : sk_G S) (ha : sk_isP a) (hv : vC I a = v) (hV : VO v) {x w : Nat} {y t : Int} (hx : (x : Int) + w ≤ v 0 0) (hy : ∀ c, x ≤ c → c < x + w → v 10 c ≤ y) (hy1 : 0 ≤ y) (hy2 : y ≤ 300) (hn : v 0 5 + bndN v x w w ≤ 62) (ht : 0 ≤ t) (ht2 : t ≤ 400) : ∃ I', sk_c d 56 [.ref a, .int (sj x), .int (sj y), .int (sj w), .int (sj t)] (sk_mk S I) = some (none, sk_mk S I') ∧ vC I' a = raisV v x w y t ∧ ∀ b, ¬ (a + 3 ≤ b ∧ b ≤ a + 8) → I' b = I b := by
  obtain ⟨n1, n2, n3, n4, n5, n6, n7, n8, n9, n10, n11, n12⟩ := hV.1
  obtain ⟨d, rfl⟩ : ∃ e, d = e + 1 := ⟨d - 1, by omega⟩; rw [sk_e56]
  have inv := rG_inv hV hx hy hy2 hn
  simp only [sj_add]
  have key := lp_run (fun k (X : Option sk_R) => ∃ I' o8 o9, X = sk_D56 d 11 [some (.ref a), some (.int (sj x)), some (.int (sj y)), some (.int (sj w)), some (.int (sj t)), some (.int (sj ((x : Int) + w))), some (.int (sj ((rG v x w y k).2 : Int))), some (.int (sj ((x + k : Nat) : Int))), o8, o9] [] (sk_mk S I') ∧ vC I' a = (rG v x w y k).1 ∧ ∀ b, ¬ (a + 4 ≤ b ∧ b ≤ a + 8) → I' b = I b) w (fun k X hk hX => by
    obtain ⟨I1, o8, o9, rfl, h1, h2⟩ := hX
    obtain ⟨i1, i2, i3, i4⟩ := inv k (by omega)
    obtain ⟨j1, j2, -, -⟩ := inv (k + 1) (by omega)
    have hE := hV.2.2.2.1 (x + k) (by omega)
    have hyk := hy (x + k) (by omega) (by omega)
    have s0 : I1 (a + 3) (x + k) = v 10 (x + k) := by rw [vs_ h1]; exact rG_same v x w y k (by omega) (by omega)
    have t1 : ((x + k : Nat) : Int) + 1 = ((x + k + 1 : Nat) : Int) := rfl
    have hbn : (rG v x w y k).1 0 5 ≤ 62 := by
      have := inv w (Nat.le_refl _)
      have hm : ∀ m k, m + k = w → bndN v x w k ≤ bndN v x w w := by
        intro m
        induction m with
        | zero => intro k hk; obtain rfl : k = w := (by omega); exact Int.le_refl _
        | succ m ih =>
          intro k hk
          have h1 := ih (k + 1) (by omega)
          have h2 : bndN v x w k ≤ bndN v x w (k + 1) := by
            unfold bndN
            rw [cntTo_succ]
            split <;> omega
          omega
      have := hm (w - k) k (by omega)
      omega
    rw [sk_e56_11]
    simp (disch := omega) only [↓pl_r0b hS ha, ↓pl_r1b hS ha, ↓pl_r2b hS ha, ↓pl_r3b hS ha, ↓pl_i4b hS ha, ↓pl_u4b hS ha, ↓pl_i5b hS ha, ↓pl_u5b hS ha, ↓pl_i6b hS ha, ↓pl_u6b hS ha, ↓pl_i7b hS ha, ↓pl_u7b hS ha, ↓pl_i8b hS ha, ↓pl_u8b hS ha, ↓pl_ob hS ha, ↓pl_pb hS ha, ↓po_ab hS ha, ↓po_sb hS ha, ↓po_nb hS ha, ↓ps_ab hS ha, ↓ps_sb hS ha, ↓ps_nb hS ha, ↓Option.bind_some, ↓sk_ci_some, ↓sk_cv_some, ↓sk_cf_some, if_true, eq_self, ite_self, sj_ceq, sj_cne, sj_clt, sj_cge, sj_cgt, sj_cle, bi_ceq, bi_cne, bi_01, sj_add, t1, Int.toNat_natCast, s0]
    rw [if_neg (by omega), rG_succ]
    have go : ¬ (k + 1 < w ∧ v 10 (x + k + 1) = v 10 (x + k)) → ∃ I' o8' o9', sk_D56 d 53 [some (.ref a), some (.int (sj x)), some (.int (sj y)), some (.int (sj w)), some (.int (sj t)), some (.int (sj ((x : Int) + w))), some (.int (sj ((rG v x w y k).2 : Int))), some (.int (sj ((x + k : Nat) : Int))), some (.int (sj (v 10 (x + k)))), o9] [] (sk_mk S I1) = sk_D56 d 11 [some (.ref a), some (.int (sj x)), some (.int (sj y)), some (.int (sj w)), some (.int (sj t)), some (.int (sj ((x : Int) + w))), some (.int (sj ((rSt v x w y k (rG v x w y k)).2 : Int))), some (.int (sj ((x + (k + 1) : Nat) : Int))), o8', o9'] [] (sk_mk S I') ∧ vC I' a = (rSt v x w y k (rG v x w y k)).1 ∧ ∀ b, ¬ (a + 4 ≤ b ∧ b ≤ a + 8) → I' b = I b := by
      intro hc
      have er : rSt v x w y k (rG v x w y k) = (adR (rG v x w y k).1 (rG v x w y k).2 (v 10 (x + k)) ((x + k + 1 : Nat) - (rG v x w y k).2 : Int) (y - v 10 (x + k)), x + k + 1) := by
        unfold rSt
        rw [if_neg hc]
      rw [er]
      have e51 := m51 (S := S) (I := I1) (d := d) (by omega) hS ha h1 i1 (x := ((rG v x w y k).2 : Int)) (y := v 10 (x + k)) (w := ((x + k + 1 : Nat) - (rG v x w y k).2 : Int)) (t := y - v 10 (x + k)) (by omega) (by omega) (by omega) (by omega) (by omega) (by omega) (by omega) (by omega)
      have hot := over_topIn i1 ((rG v x w y k).2 : Int) (v 10 (x + k)) ((x + k + 1 : Nat) - (rG v x w y k).2 : Int) (y - v 10 (x + k))
      have htr := topIn_rng i1 ((rG v x w y k).2 : Int) (v 10 (x + k)) ((x + k + 1 : Nat) - (rG v x w y k).2 : Int) (y - v 10 (x + k))
      rw [sk_e56_53]
      simp (disch := omega) only [↓pl_r0b hS ha, ↓pl_r1b hS ha, ↓pl_r2b hS ha, ↓pl_r3b hS ha, ↓pl_i4b hS ha, ↓pl_u4b hS ha, ↓pl_i5b hS ha, ↓pl_u5b hS ha, ↓pl_i6b hS ha, ↓pl_u6b hS ha, ↓pl_i7b hS ha, ↓pl_u7b hS ha, ↓pl_i8b hS ha, ↓pl_u8b hS ha, ↓pl_ob hS ha, ↓pl_pb hS ha, ↓po_ab hS ha, ↓po_sb hS ha, ↓po_nb hS ha, ↓ps_ab hS ha, ↓ps_sb hS ha, ↓ps_nb hS ha, ↓Option.bind_some, ↓sk_ci_some, ↓sk_cv_some, ↓sk_cf_some, if_true, eq_self, ite_self, sj_ceq, sj_cne, sj_clt, sj_cge, sj_cgt, sj_cle, bi_ceq, bi_cne, bi_01, sj_add, sj_sub, t1, e51]
      unfold adR
      cases ho : overV (rG v x w y k).1 ((rG v x w y k).2 : Int) (v 10 (x + k)) ((x + k + 1 : Nat) - (rG v x w y k).2 : Int) (y - v 10 (x + k)) with
      | true =>
        have : ¬ topIn (rG v x w y k).1 ((rG v x w y k).2 : Int) (v 10 (x + k)) ((x + k + 1 : Nat) - (rG v x w y k).2 : Int) (y - v 10 (x + k)) = -1 := fun h => by rw [hot.mp h] at ho; cases ho
        rw [if_pos this]
        exact ⟨I1, _, _, rfl, h1, h2⟩
      | false =>
        obtain ⟨I2, e2, c2, f2⟩ := m97 (S := S) (I := I1) (d := d) (by omega) hS ha h1 i1 (by omega) (x := ((rG v x w y k).2 : Int)) (y := v 10 (x + k)) (w := ((x + k + 1 : Nat) - (rG v x w y k).2 : Int)) (h := y - v 10 (x + k)) (by omega) (by omega) (by omega) (by omega) (by omega) (by omega) (by omega) (by omega)
        rw [if_neg (fun h => h (hot.mpr ho))]
        simp (disch := omega) only [↓pl_r0b hS ha, ↓pl_r1b hS ha, ↓pl_r2b hS ha, ↓pl_r3b hS ha, ↓pl_i4b hS ha, ↓pl_u4b hS ha, ↓pl_i5b hS ha, ↓pl_u5b hS ha, ↓pl_i6b hS ha, ↓pl_u6b hS ha, ↓pl_i7b hS ha, ↓pl_u7b hS ha, ↓pl_i8b hS ha, ↓pl_u8b hS ha, ↓pl_ob hS ha, ↓pl_pb hS ha, ↓po_ab hS ha, ↓po_sb hS ha, ↓po_nb hS ha, ↓ps_ab hS ha, ↓ps_sb hS ha, ↓ps_nb hS ha, ↓pw_r0b hS ha, ↓pw_r1b hS ha, ↓pw_r2b hS ha, ↓pw_r3b hS ha, ↓pw_i4b hS ha, ↓pw_u4b hS ha, ↓pw_ob hS ha, ↓pw0_ab hS ha, ↓pw0_sb hS ha, ↓pw0_nb hS ha, ↓pw1_ab hS ha, ↓pw1_sb hS ha, ↓pw1_nb hS ha, ↓pw2_ab hS ha, ↓pw2_sb hS ha, ↓pw2_nb hS ha, ↓pw3_ab hS ha, ↓pw3_sb hS ha, ↓pw3_nb hS ha, ↓Option.bind_some, ↓sk_ci_some, ↓sk_cv_some, ↓sk_cf_some, if_true, eq_self, ite_self, e2]
        exact ⟨I2, _, _, rfl, c2, fun b hb => (f2 b hb).trans (h2 b hb)⟩
    by_cases hc1 : k + 1 < w
    · rw [if_neg (by omega)]
      have hE2 := hV.2.2.2.1 (x + k + 1) (by omega)
      have s1 : I1 (a + 3) (x + k + 1) = v 10 (x + k + 1) := by rw [vs_ h1]; exact rG_same v x w y k (by omega) (by omega)
      simp (disch := omega) only [↓pl_r0b hS ha, ↓pl_r1b hS ha, ↓pl_r2b hS ha, ↓pl_r3b hS ha, ↓pl_i4b hS ha, ↓pl_u4b hS ha, ↓pl_i5b hS ha, ↓pl_u5b hS ha, ↓pl_i6b hS ha, ↓pl_u6b hS ha, ↓pl_i7b hS ha, ↓pl_u7b hS ha, ↓pl_i8b hS ha, ↓pl_u8b hS ha, ↓pl_ob hS ha, ↓pl_pb hS ha, ↓po_ab hS ha, ↓po_sb hS ha, ↓po_nb hS ha, ↓ps_ab hS ha, ↓ps_sb hS ha, ↓ps_nb hS ha, ↓Option.bind_some, ↓sk_ci_some, ↓sk_cv_some, ↓sk_cf_some, if_true, eq_self, ite_self, sj_ceq, sj_cne, sj_clt, sj_cge, sj_cgt, sj_cle, bi_ceq, bi_cne, bi_01, Int.toNat_natCast, s1]
      by_cases hc2 : v 10 (x + k + 1) = v 10 (x + k)
      · rw [if_neg (fun h => h hc2)]
        have er : rSt v x w y k (rG v x w y k) = rG v x w y k := by
          unfold rSt
          rw [if_pos ⟨hc1, hc2⟩]
        rw [er]
        exact ⟨I1, _, _, rfl, h1, h2⟩
      · rw [if_pos hc2]
        exact go (fun h => hc2 h.2)
    · rw [if_pos (by omega)]
      exact go (fun h => hc1 h.1)) ⟨I, none, none, rfl, hv, fun _ _ => rfl⟩
  obtain ⟨I1, o8, o9, e, h1, h2⟩ := key
  obtain ⟨I2, e2, g1, g2⟩ := m243 (S := S) (I := I1) (d := d) (by omega) (sh_ps hS ha) (by omega) (by omega) (x := x) (y := x + w) (by omega) (by omega) (h := y + t)
  refine ⟨I2, ?_, ?_, fun b hb => (g2 b (by omega)).trans (h2 b (by omega))⟩
  · refine e.trans ?_
    rw [sk_e56_11]
    have t1 : (x : Int) + w = ((x + w : Nat) : Int) := rfl
    simp (disch := omega) only [↓pl_r0b hS ha, ↓pl_r1b hS ha, ↓pl_r2b hS ha, ↓pl_r3b hS ha, ↓pl_i4b hS ha, ↓pl_u4b hS ha, ↓pl_i5b hS ha, ↓pl_u5b hS ha, ↓pl_i6b hS ha, ↓pl_u6b hS ha, ↓pl_i7b hS ha, ↓pl_u7b hS ha, ↓pl_i8b hS ha, ↓pl_u8b hS ha, ↓pl_ob hS ha, ↓pl_pb hS ha, ↓po_ab hS ha, ↓po_sb hS ha, ↓po_nb hS ha, ↓ps_ab hS ha, ↓ps_sb hS ha, ↓ps_nb hS ha, ↓Option.bind_some, ↓sk_ci_some, ↓sk_cv_some, ↓sk_cf_some, if_true, eq_self, ite_self, sj_ceq, sj_cne, sj_clt, sj_cge, sj_cgt, sj_cle, bi_ceq, bi_cne, bi_01, sj_add, t1, e2]
    rw [if_pos (by omega)]
  · rw [vC_sky g1 g2, h1]
    rfl
end RAI
