/-! ===== a plan's view changes ===== -/
theorem w4 {I : sk_H} {a : Nat} {x : Int} : vC (u2 I a 4 x) a = u2 (vC I a) 0 0 x := by
  funext s k
  unfold vC u2
  split <;> grind
theorem w5 {I : sk_H} {a : Nat} {x : Int} : vC (u2 I a 5 x) a = u2 (vC I a) 0 1 x := by
  funext s k
  unfold vC u2
  split <;> grind
theorem w6 {I : sk_H} {a : Nat} {x : Int} : vC (u2 I a 6 x) a = u2 (vC I a) 0 2 x := by
  funext s k
  unfold vC u2
  split <;> grind
theorem w7 {I : sk_H} {a : Nat} {x : Int} : vC (u2 I a 7 x) a = u2 (vC I a) 0 3 x := by
  funext s k
  unfold vC u2
  split <;> grind
theorem w8 {I : sk_H} {a : Nat} {x : Int} : vC (u2 I a 8 x) a = u2 (vC I a) 0 4 x := by
  funext s k
  unfold vC u2
  split <;> grind
theorem wz {I : sk_H} {a : Nat} {x : Int} : vC (u2 I (a + 4) 4 x) a = u2 (vC I a) 0 5 x := by
  funext s k
  unfold vC u2
  split <;> grind
theorem wp0 {I : sk_H} {a n : Nat} {x : Int} (hn : n < 10) : vC (u2 I (a + 9 + n) 0 x) a = u2 (vC I a) 1 n x := by
  funext s k
  unfold vC u2
  split <;> grind
theorem wp1 {I : sk_H} {a n : Nat} {x : Int} (hn : n < 10) : vC (u2 I (a + 9 + n) 1 x) a = u2 (vC I a) 2 n x := by
  funext s k
  unfold vC u2
  split <;> grind
theorem wp2 {I : sk_H} {a n : Nat} {x : Int} (hn : n < 10) : vC (u2 I (a + 9 + n) 2 x) a = u2 (vC I a) 3 n x := by
  funext s k
  unfold vC u2
  split <;> grind
theorem wp3 {I : sk_H} {a n : Nat} {x : Int} (hn : n < 10) : vC (u2 I (a + 9 + n) 3 x) a = u2 (vC I a) 4 n x := by
  funext s k
  unfold vC u2
  split <;> grind
theorem wp4 {I : sk_H} {a n : Nat} {x : Int} (hn : n < 10) : vC (u2 I (a + 9 + n) 4 x) a = u2 (vC I a) 5 n x := by
  funext s k
  unfold vC u2
  split <;> grind
theorem wp5 {I : sk_H} {a n : Nat} {x : Int} (hn : n < 10) : vC (u2 I (a + 9 + n) 5 x) a = u2 (vC I a) 6 n x := by
  funext s k
  unfold vC u2
  split <;> grind
theorem wp6 {I : sk_H} {a n : Nat} {x : Int} (hn : n < 10) : vC (u2 I (a + 9 + n) 6 x) a = u2 (vC I a) 7 n x := by
  funext s k
  unfold vC u2
  split <;> grind
theorem wp7 {I : sk_H} {a n : Nat} {x : Int} (hn : n < 10) : vC (u2 I (a + 9 + n) 7 x) a = u2 (vC I a) 8 n x := by
  funext s k
  unfold vC u2
  split <;> grind
theorem wp8 {I : sk_H} {a n : Nat} {x : Int} (hn : n < 10) : vC (u2 I (a + 9 + n) 8 x) a = u2 (vC I a) 15 n x := by
  funext s k
  unfold vC u2
  split <;> grind
theorem wp9 {I : sk_H} {a n : Nat} {x : Int} (hn : n < 10) : vC (u2 I (a + 9 + n) 9 x) a = u2 (vC I a) 16 n x := by
  funext s k
  unfold vC u2
  split <;> grind
theorem wo_ {I : sk_H} {a n : Nat} {x : Int} : vC (u2 I (a + 2) n x) a = u2 (vC I a) 9 n x := by
  funext s k
  unfold vC u2
  split <;> grind
theorem ws_ {I : sk_H} {a n : Nat} {x : Int} : vC (u2 I (a + 3) n x) a = u2 (vC I a) 10 n x := by
  funext s k
  unfold vC u2
  split <;> grind
theorem wx0 {I : sk_H} {a n : Nat} {x : Int} : vC (u2 I (a + 5) n x) a = u2 (vC I a) 11 n x := by
  funext s k
  unfold vC u2
  split <;> grind
theorem wx1 {I : sk_H} {a n : Nat} {x : Int} : vC (u2 I (a + 6) n x) a = u2 (vC I a) 12 n x := by
  funext s k
  unfold vC u2
  split <;> grind
theorem wx2 {I : sk_H} {a n : Nat} {x : Int} : vC (u2 I (a + 7) n x) a = u2 (vC I a) 13 n x := by
  funext s k
  unfold vC u2
  split <;> grind
theorem wx3 {I : sk_H} {a n : Nat} {x : Int} : vC (u2 I (a + 8) n x) a = u2 (vC I a) 14 n x := by
  funext s k
  unfold vC u2
  split <;> grind
/-- a part comes to lie -/
def lieV (v : sk_H) (p : Nat) (x y o how : Int) : sk_H := u2 (u2 (u2 (u2 (u2 (u2 v 6 p x) 7 p y) 8 p o) 5 p how) 15 p (acr v p o)) 16 p (tal v p o)
section PRT
variable {S : List sk_Sh} {I : sk_H} {b : Nat}
theorem m29 {d : Nat} (hd : 9 ≤ d) (hb : pt S b) {x y o how : Int} (ho : o = 0 ∨ o = 1) (h1 : 0 ≤ I b 0) (h2 : I b 0 ≤ 5) : sk_c d 29 [.ref b, .int (sj x), .int (sj y), .int (sj o), .int (sj how)] (sk_mk S I) = some (none, sk_mk S (u2 (u2 (u2 (u2 (u2 (u2 I b 5 x) b 6 y) b 7 o) b 4 how) b 8 (if o = 0 then I b 1 else I b 2)) b 9 ((if o = 0 then I b 2 else I b 1) + if I b 0 = 3 then 1 else 0))) := by
  obtain ⟨d, rfl⟩ : ∃ e, d = e + 1 := ⟨d - 1, by omega⟩; rw [sk_e29]
  have e31 := m31 (S := S) (I := u2 (u2 (u2 (u2 I b 5 x) b 6 y) b 7 o) b 4 how) (d := d) (by omega) hb ho
  have e32 := m32 (S := S) (I := u2 (u2 (u2 (u2 (u2 I b 5 x) b 6 y) b 7 o) b 4 how) b 8 (if o = 0 then I b 1 else I b 2)) (d := d) (by omega) hb ho (by simp [u2]; exact h1) (by simp [u2]; exact h2)
  simp (disch := omega) only [u2_ne] at e31 e32
  simp (disch := omega) only [↓pt_i0b hb, ↓pt_u0b hb, ↓pt_i1b hb, ↓pt_u1b hb, ↓pt_i2b hb, ↓pt_u2b hb, ↓pt_i3b hb, ↓pt_u3b hb, ↓pt_i4b hb, ↓pt_u4b hb, ↓pt_i5b hb, ↓pt_u5b hb, ↓pt_i6b hb, ↓pt_u6b hb, ↓pt_i7b hb, ↓pt_u7b hb, ↓pt_i8b hb, ↓pt_u8b hb, ↓pt_i9b hb, ↓pt_u9b hb, ↓pt_ob hb, ↓Option.bind_some, ↓sk_ci_some, ↓sk_cv_some, ↓sk_cf_some, if_true, eq_self, ite_self, sj_add, sj_sub, sj_mul, sj_neg, sj_div, sj_ceq, sj_cne, sj_clt, sj_cge, sj_cgt, sj_cle, bi_ceq, bi_cne, bi_01, sj_v01, ho, e31, e32]
end PRT
def insP (v : sk_H) (x y : Int) : Nat → Nat
  | 0 => 0
  | n + 1 => if y < v 12 n ∨ (v 12 n = y ∧ x < v 11 n) then insP v x y n else n + 1
def shU (v : sk_H) (i n : Nat) : sk_H := fun s k => if (11 ≤ s ∧ s ≤ 14) ∧ i < k ∧ k ≤ n then v s (k - 1) else v s k
def putV (v : sk_H) (i n : Nat) (x y w h : Int) : sk_H := u2 (u2 (u2 (u2 (u2 (shU v i n) 11 i x) 12 i y) 13 i w) 14 i h) 0 5 (v 0 5 + 1)
def wAdd (v : sk_H) (x y w h : Int) : sk_H := if w ≤ 0 ∨ h ≤ 0 then v else putV v (insP v x y (v 0 5).toNat) (v 0 5).toNat x y w h
theorem insP_le (v : sk_H) (x y : Int) (n : Nat) : insP v x y n ≤ n := by
  induction n with
  | zero => exact Nat.le_refl _
  | succ n ih => unfold insP; split <;> omega
theorem shU_n (v : sk_H) (n : Nat) : shU v n n = v := by
  funext s k
  unfold shU
  rw [if_neg (by omega)]
theorem shU_st (v : sk_H) {i n : Nat} (hi : i + 1 ≤ n) : u2 (u2 (u2 (u2 (shU v (i + 1) n) 11 (i + 1) (v 11 i)) 12 (i + 1) (v 12 i)) 13 (i + 1) (v 13 i)) 14 (i + 1) (v 14 i) = shU v i n := by
  funext s k
  unfold u2 shU
  by_cases hk : k = i + 1
  · subst hk
    by_cases h11 : s = 11
    · subst h11; simp; omega
    by_cases h12 : s = 12
    · subst h12; simp; omega
    by_cases h13 : s = 13
    · subst h13; simp; omega
    by_cases h14 : s = 14
    · subst h14; simp; omega
    rw [if_neg (by omega), if_neg (by omega), if_neg (by omega), if_neg (by omega), if_neg (by omega), if_neg (by omega)]
  · rw [if_neg (by omega), if_neg (by omega), if_neg (by omega), if_neg (by omega)]
    have : ((11 ≤ s ∧ s ≤ 14) ∧ i + 1 < k ∧ k ≤ n) = ((11 ≤ s ∧ s ≤ 14) ∧ i < k ∧ k ≤ n) := propext (by omega)
    simp only [this]
def dropV (v : sk_H) (k : Nat) : sk_H := fun s j => if (11 ≤ s ∧ s ≤ 14) ∧ k ≤ j ∧ (j : Int) < v 0 5 - 1 then v s (j + 1) else if s = 0 ∧ j = 5 then v 0 5 - 1 else v s j
def cornV (v : sk_H) (k : Nat) (w t : Int) : sk_H := wAdd (wAdd (dropV v k) (v 11 k + w) (v 12 k) (v 13 k - w) (v 14 k)) (v 11 k) (v 12 k + t) w (v 14 k - t)
/-! ===== what holds still holds ===== -/
theorem VO_ww {v v' : sk_H} (hV : VO v) (hA : ∀ s k, ¬ (11 ≤ s ∧ s ≤ 14) → ¬ (s = 0 ∧ k = 5) → v' s k = v s k) (h0 : 0 ≤ v' 0 5) (h1 : v' 0 5 ≤ 63) (hW : VW v') : VO v' := by
  obtain ⟨hN, hP, hD, hE, -⟩ := hV
  have z := fun k (hk : k ≠ 5) => hA 0 k (by omega) (by omega)
  have y := fun s k (hs : ¬ (11 ≤ s ∧ s ≤ 14)) (h0 : s ≠ 0) => hA s k hs (by omega)
  refine ⟨?_, ?_, ?_, ?_, hW⟩
  · unfold VN at hN ⊢
    rw [z 0 (by omega), z 1 (by omega), z 2 (by omega), z 3 (by omega), z 4 (by omega)]
    omega
  · intro p hp
    rw [z 1 (by omega)] at hp
    have := hP p hp
    unfold VP acr tal at this ⊢
    rw [z 0 (by omega), y 1 p (by omega) (by omega), y 2 p (by omega) (by omega), y 3 p (by omega) (by omega), y 4 p (by omega) (by omega), y 5 p (by omega) (by omega), y 6 p (by omega) (by omega), y 7 p (by omega) (by omega), y 8 p (by omega) (by omega), y 15 p (by omega) (by omega), y 16 p (by omega) (by omega)]
    exact this
  · unfold VD at hD ⊢
    rw [z 1 (by omega), z 2 (by omega)]
    have e9 : v' 9 = v 9 := funext fun k => y 9 k (by omega) (by omega)
    have e5 : v' 5 = v 5 := funext fun k => y 5 k (by omega) (by omega)
    rw [e9, e5]
    exact hD
  · unfold VE at hE ⊢
    have e10 : v' 10 = v 10 := funext fun k => y 10 k (by omega) (by omega)
    rw [z 0 (by omega), e10]
    exact hE
theorem VO_putV {v : sk_H} (hV : VO v) {i n : Nat} (hi : i ≤ n) (hn : v 0 5 = n) (hn2 : n ≤ 62) {x y w h : Int} (h1 : 0 ≤ x) (h2 : x + w ≤ v 0 0) (h3 : 0 ≤ y) (h4 : y + h ≤ 300) (h5 : 1 ≤ w) (h6 : 1 ≤ h) : VO (putV v i n x y w h) := by
  have e : putV v i n x y w h 0 5 = v 0 5 + 1 := by simp [putV, u2]
  have e0 : putV v i n x y w h 0 0 = v 0 0 := by simp [putV, u2, shU]
  refine VO_ww hV (fun s k hs hk => ?_) (by omega) (by omega) ?_
  · unfold putV u2 shU
    rw [if_neg (by omega), if_neg (by omega), if_neg (by omega), if_neg (by omega), if_neg (by omega), if_neg (by omega)]
  · intro k hk
    rw [e] at hk
    rw [e0]
    have hW := hV.2.2.2.2
    by_cases hki : k = i
    · subst hki
      have : putV v k n x y w h 11 k = x ∧ putV v k n x y w h 12 k = y ∧ putV v k n x y w h 13 k = w ∧ putV v k n x y w h 14 k = h := by simp [putV, u2]
      omega
    · have ex : ∀ s, 11 ≤ s → s ≤ 14 → putV v i n x y w h s k = v s (if i < k then k - 1 else k) := by
        intro s s1 s2
        unfold putV u2 shU
        rw [if_neg (by omega), if_neg (by omega), if_neg (by omega), if_neg (by omega), if_neg (by omega)]
        by_cases hik : i < k
        · rw [if_pos (by omega), if_pos hik]
        · rw [if_neg (by omega), if_neg hik]
      rw [ex 11 (by omega) (by omega), ex 12 (by omega) (by omega), ex 13 (by omega) (by omega), ex 14 (by omega) (by omega)]
      by_cases hik : i < k
      · rw [if_pos hik]; exact hW (k - 1) (by omega)
      · rw [if_neg hik]; exact hW k (by omega)
theorem VO_wAdd {v : sk_H} (hV : VO v) (hn : v 0 5 ≤ 62) {x y w h : Int} (h1 : 0 ≤ x) (h2 : x + w ≤ v 0 0) (h3 : 0 ≤ y) (h4 : y + h ≤ 300) : VO (wAdd v x y w h) := by
  obtain ⟨n1, n2, n3, n4, n5, n6, n7, n8, n9, n10, n11, n12⟩ := hV.1
  unfold wAdd
  split
  · exact hV
  · exact VO_putV hV (insP_le _ _ _ _) (by omega) (by omega) h1 h2 h3 h4 (by omega) (by omega)
theorem wAdd_n (v : sk_H) (x y w h : Int) : v 0 5 ≤ wAdd v x y w h 0 5 ∧ wAdd v x y w h 0 5 ≤ v 0 5 + 1 := by
  unfold wAdd
  split
  · omega
  · have : putV v (insP v x y (v 0 5).toNat) (v 0 5).toNat x y w h 0 5 = v 0 5 + 1 := by simp [putV, u2]
    omega
theorem wAdd_same (v : sk_H) (x y w h : Int) {s k : Nat} (hs : ¬ (11 ≤ s ∧ s ≤ 14)) (hk : ¬ (s = 0 ∧ k = 5)) : wAdd v x y w h s k = v s k := by
  unfold wAdd
  split
  · rfl
  · unfold putV u2 shU
    rw [if_neg (by omega), if_neg (by omega), if_neg (by omega), if_neg (by omega), if_neg (by omega), if_neg (by omega)]
theorem dropV_same (v : sk_H) (i : Nat) {s k : Nat} (hs : ¬ (11 ≤ s ∧ s ≤ 14)) (hk : ¬ (s = 0 ∧ k = 5)) : dropV v i s k = v s k := by
  unfold dropV
  rw [if_neg (by omega), if_neg hk]
theorem VO_dropV {v : sk_H} (hV : VO v) {k : Nat} (hk : (k : Int) < v 0 5) : VO (dropV v k) := by
  obtain ⟨n1, n2, n3, n4, n5, n6, n7, n8, n9, n10, n11, n12⟩ := hV.1
  have e : dropV v k 0 5 = v 0 5 - 1 := by simp [dropV]
  refine VO_ww hV (fun s j hs hj => dropV_same v k hs hj) (by omega) (by omega) ?_
  intro j hj
  rw [e] at hj
  rw [dropV_same v k (s := 0) (k := 0) (by omega) (by omega)]
  have ex : ∀ s, 11 ≤ s → s ≤ 14 → dropV v k s j = v s (if k ≤ j then j + 1 else j) := by
    intro s s1 s2
    unfold dropV
    by_cases hkj : k ≤ j
    · rw [if_pos (by omega), if_pos hkj]
    · rw [if_neg (by omega), if_neg (by omega), if_neg hkj]
  rw [ex 11 (by omega) (by omega), ex 12 (by omega) (by omega), ex 13 (by omega) (by omega), ex 14 (by omega) (by omega)]
  by_cases hkj : k ≤ j
  · rw [if_pos hkj]; exact hV.2.2.2.2 (j + 1) (by omega)
  · rw [if_neg hkj]; exact hV.2.2.2.2 j (by omega)
theorem VO_cornV {v : sk_H} (hV : VO v) {k : Nat} (hk : (k : Int) < v 0 5) (hn : v 0 5 ≤ 60) {w t : Int} (h1 : 0 ≤ w) (h2 : w ≤ v 13 k) (h3 : 0 ≤ t) (h4 : t ≤ v 14 k) : VO (wAdd (dropV v k) (v 11 k + w) (v 12 k) (v 13 k - w) (v 14 k)) ∧ VO (cornV v k w t) := by
  have hW := hV.2.2.2.2 k hk
  have hd := VO_dropV hV hk
  have e : dropV v k 0 5 = v 0 5 - 1 := by simp [dropV]
  have e0 : dropV v k 0 0 = v 0 0 := dropV_same v k (by omega) (by omega)
  have h1 := VO_wAdd hd (by omega) (x := v 11 k + w) (y := v 12 k) (w := v 13 k - w) (h := v 14 k) (by omega) (by omega) (by omega) (by omega)
  have h2 := wAdd_n (dropV v k) (v 11 k + w) (v 12 k) (v 13 k - w) (v 14 k)
  have h3 : wAdd (dropV v k) (v 11 k + w) (v 12 k) (v 13 k - w) (v 14 k) 0 0 = v 0 0 := (wAdd_same _ _ _ _ _ (by omega) (by omega)).trans e0
  exact ⟨h1, VO_wAdd h1 (by omega) (by omega) (by omega) (by omega) (by omega)⟩
/-! ===== the class's waste ===== -/
section WST
variable {S : List sk_Sh} {I v : sk_H} {a : Nat}
theorem m100 {d : Nat} (hd : 1 ≤ d) (hS : sk_G S) (ha : sk_isP a) {k : Nat} (hk : k < 64) (h1 : 0 ≤ I (a + 6) k) (h2 : I (a + 6) k ≤ 1000) (h3 : 0 ≤ I (a + 5) k) (h4 : I (a + 5) k ≤ 1000) {x y : Int} (g1 : 0 ≤ x) (g2 : x ≤ 1000) (g3 : 0 ≤ y) (g4 : y ≤ 1000) : sk_c d 100 [.ref (a + 4), .int (sj k), .int (sj x), .int (sj y)] (sk_mk S I) = some (some (.int (sj (bi (decide (y < I (a + 6) k ∨ (I (a + 6) k = y ∧ x < I (a + 5) k)))))), sk_mk S I) := by
  obtain ⟨d, rfl⟩ : ∃ e, d = e + 1 := ⟨d - 1, by omega⟩; rw [sk_e100]
  simp (disch := omega) only [↓pw_r0b hS ha, ↓pw_r1b hS ha, ↓pw_r2b hS ha, ↓pw_r3b hS ha, ↓pw_i4b hS ha, ↓pw_u4b hS ha, ↓pw_ob hS ha, ↓pw0_ab hS ha, ↓pw0_sb hS ha, ↓pw0_nb hS ha, ↓pw1_ab hS ha, ↓pw1_sb hS ha, ↓pw1_nb hS ha, ↓pw2_ab hS ha, ↓pw2_sb hS ha, ↓pw2_nb hS ha, ↓pw3_ab hS ha, ↓pw3_sb hS ha, ↓pw3_nb hS ha, ↓Option.bind_some, ↓sk_ci_some, ↓sk_cv_some, ↓sk_cf_some, if_true, eq_self, ite_self, Int.toNat_natCast, sj_ceq, sj_cne, sj_clt, sj_cge, sj_cgt, sj_cle, bi_ceq, bi_cne, bi_01]
  grind [bi]
theorem m97 {d : Nat} (hd : 2 ≤ d) (hS : sk_G S) (ha : sk_isP a) (hv : vC I a = v) (hV : VO v) (hn : v 0 5 ≤ 63) {x y w h : Int} (g1 : 0 ≤ x) (g2 : x ≤ 1000) (g3 : 0 ≤ y) (g4 : y ≤ 1000) (g5 : -1000 ≤ w) (g6 : w ≤ 1000) (g7 : -1000 ≤ h) (g8 : h ≤ 1000) : ∃ I', sk_c d 97 [.ref (a + 4), .int (sj x), .int (sj y), .int (sj w), .int (sj h)] (sk_mk S I) = some (none, sk_mk S I') ∧ vC I' a = wAdd v x y w h ∧ ∀ b, ¬ (a + 4 ≤ b ∧ b ≤ a + 8) → I' b = I b := by
  obtain ⟨n1, n2, n3, n4, n5, n6, n7, n8, n9, n10, n11, n12⟩ := hV.1
  obtain ⟨d, rfl⟩ : ∃ e, d = e + 1 := ⟨d - 1, by omega⟩; rw [sk_e97]
  simp (disch := omega) only [↓pl_r0b hS ha, ↓pl_r1b hS ha, ↓pl_r2b hS ha, ↓pl_r3b hS ha, ↓pl_i4b hS ha, ↓pl_u4b hS ha, ↓pl_i5b hS ha, ↓pl_u5b hS ha, ↓pl_i6b hS ha, ↓pl_u6b hS ha, ↓pl_i7b hS ha, ↓pl_u7b hS ha, ↓pl_i8b hS ha, ↓pl_u8b hS ha, ↓pl_ob hS ha, ↓pl_pb hS ha, ↓po_ab hS ha, ↓po_sb hS ha, ↓po_nb hS ha, ↓ps_ab hS ha, ↓ps_sb hS ha, ↓ps_nb hS ha, ↓pw_r0b hS ha, ↓pw_r1b hS ha, ↓pw_r2b hS ha, ↓pw_r3b hS ha, ↓pw_i4b hS ha, ↓pw_u4b hS ha, ↓pw_ob hS ha, ↓pw0_ab hS ha, ↓pw0_sb hS ha, ↓pw0_nb hS ha, ↓pw1_ab hS ha, ↓pw1_sb hS ha, ↓pw1_nb hS ha, ↓pw2_ab hS ha, ↓pw2_sb hS ha, ↓pw2_nb hS ha, ↓pw3_ab hS ha, ↓pw3_sb hS ha, ↓pw3_nb hS ha, ↓pq_i0b hS ha, ↓pq_u0b hS ha, ↓pq_i1b hS ha, ↓pq_u1b hS ha, ↓pq_i2b hS ha, ↓pq_u2b hS ha, ↓pq_i3b hS ha, ↓pq_u3b hS ha, ↓pq_i4b hS ha, ↓pq_u4b hS ha, ↓pq_i5b hS ha, ↓pq_u5b hS ha, ↓pq_i6b hS ha, ↓pq_u6b hS ha, ↓pq_i7b hS ha, ↓pq_u7b hS ha, ↓pq_i8b hS ha, ↓pq_u8b hS ha, ↓pq_i9b hS ha, ↓pq_u9b hS ha, ↓pq_ob hS ha, ↓Option.bind_some, ↓sk_ci_some, ↓sk_cv_some, ↓sk_cf_some, if_true, eq_self, ite_self, vc4 hv, vc5 hv, vc6 hv, vc7 hv, vc8 hv, vcz hv, vp0 hv, vp1 hv, vp2 hv, vp3 hv, vp4 hv, vp5 hv, vp6 hv, vp7 hv, vp8 hv, vp9 hv, vo_ hv, vs_ hv, vx0 hv, vx1 hv, vx2 hv, vx3 hv, Int.toNat_natCast, sj_add, sj_sub, sj_mul, sj_neg, sj_div, sj_ceq, sj_cne, sj_clt, sj_cge, sj_cgt, sj_cle, bi_ceq, bi_cne, bi_01]
  unfold wAdd
  by_cases c1 : w ≤ 0
  · rw [if_pos c1, if_pos (Or.inl c1)]
    exact ⟨I, rfl, hv, fun _ _ => rfl⟩
  rw [if_neg c1]
  by_cases c2 : h ≤ 0
  · rw [if_pos c2, if_pos (Or.inr c2)]
    exact ⟨I, rfl, hv, fun _ _ => rfl⟩
  rw [if_neg c2, if_pos (by omega), if_neg (by omega)]
  obtain ⟨n, hnn⟩ : ∃ n : Nat, v 0 5 = n := ⟨(v 0 5).toNat, by omega⟩
  rw [hnn, Int.toNat_natCast]
  have hW := hV.2.2.2.2
  have key : ∀ i : Nat, i ≤ n → ∀ I1, vC I1 a = shU v i n → (∀ b, ¬ (a + 4 ≤ b ∧ b ≤ a + 8) → I1 b = I b) → ∃ I', sk_D97 d 25 [some (.ref (a + 4)), some (.int (sj x)), some (.int (sj y)), some (.int (sj w)), some (.int (sj h)), some (.int (sj (i : Int)))] [] (sk_mk S I1) = sk_D97 d 113 [some (.ref (a + 4)), some (.int (sj x)), some (.int (sj y)), some (.int (sj w)), some (.int (sj h)), some (.int (sj ((insP v x y i : Nat) : Int)))] [] (sk_mk S I') ∧ vC I' a = shU v (insP v x y i) n ∧ ∀ b, ¬ (a + 4 ≤ b ∧ b ≤ a + 8) → I' b = I b := by
    intro i
    induction i with
    | zero =>
      intro _ I1 h1 h2
      refine ⟨I1, ?_, h1, h2⟩
      rw [sk_e97_25]
      simp (disch := omega) only [sj_ceq, sj_cne, sj_clt, sj_cge, sj_cgt, sj_cle, bi_ceq, bi_cne, bi_01]
      rw [if_pos (by omega)]
      rfl
    | succ i ih =>
      intro hi I1 h1 h2
      have t1 : ((i + 1 : Nat) : Int) - 1 = (i : Int) := by omega
      have t2 : ((i + 1 : Nat) : Int) + -1 = (i : Int) := by omega
      have hWi := hW i (by omega)
      have r1 : I1 (a + 5) i = v 11 i := by rw [vx0 h1]; unfold shU; rw [if_neg (by omega)]
      have r2 : I1 (a + 6) i = v 12 i := by rw [vx1 h1]; unfold shU; rw [if_neg (by omega)]
      have r3 : I1 (a + 7) i = v 13 i := by rw [vx2 h1]; unfold shU; rw [if_neg (by omega)]
      have r4 : I1 (a + 8) i = v 14 i := by rw [vx3 h1]; unfold shU; rw [if_neg (by omega)]
      have e100 := m100 (S := S) (I := I1) (d := d) (by omega) hS ha (k := i) (by omega) (by omega) (by omega) (by omega) (by omega) g1 g2 g3 g4
      rw [sk_e97_25]
      simp (disch := omega) only [↓pw_r0b hS ha, ↓pw_r1b hS ha, ↓pw_r2b hS ha, ↓pw_r3b hS ha, ↓pw_i4b hS ha, ↓pw_u4b hS ha, ↓pw_ob hS ha, ↓pw0_ab hS ha, ↓pw0_sb hS ha, ↓pw0_nb hS ha, ↓pw1_ab hS ha, ↓pw1_sb hS ha, ↓pw1_nb hS ha, ↓pw2_ab hS ha, ↓pw2_sb hS ha, ↓pw2_nb hS ha, ↓pw3_ab hS ha, ↓pw3_sb hS ha, ↓pw3_nb hS ha, ↓Option.bind_some, ↓sk_ci_some, ↓sk_cv_some, ↓sk_cf_some, if_true, eq_self, ite_self, sj_ceq, sj_cne, sj_clt, sj_cge, sj_cgt, sj_cle, bi_ceq, bi_cne, bi_01, sj_sub, sj_add, t1, t2, e100, r1, r2]
      rw [if_neg (by omega)]
      unfold insP
      by_cases c : y < v 12 i ∨ (v 12 i = y ∧ x < v 11 i)
      · rw [decide_eq_true c, if_neg (by simp), if_pos c]
        simp (disch := omega) only [↓pw_r0b hS ha, ↓pw_r1b hS ha, ↓pw_r2b hS ha, ↓pw_r3b hS ha, ↓pw_i4b hS ha, ↓pw_u4b hS ha, ↓pw_ob hS ha, ↓pw0_ab hS ha, ↓pw0_sb hS ha, ↓pw0_nb hS ha, ↓pw1_ab hS ha, ↓pw1_sb hS ha, ↓pw1_nb hS ha, ↓pw2_ab hS ha, ↓pw2_sb hS ha, ↓pw2_nb hS ha, ↓pw3_ab hS ha, ↓pw3_sb hS ha, ↓pw3_nb hS ha, ↓Option.bind_some, ↓sk_ci_some, ↓sk_cv_some, ↓sk_cf_some, if_true, eq_self, ite_self, Int.toNat_natCast, u2_ne, r1, r2, r3, r4]
        refine ih (by omega) _ ?_ ?_
        · rw [wx3, wx2, wx1, wx0, h1]
          exact shU_st v hi
        · intro b hb
          rw [← h2 b hb]
          funext q
          simp (disch := omega) only [u2_ne]
      · rw [decide_eq_false c, if_pos rfl, if_neg c]
        exact ⟨I1, rfl, h1, h2⟩
  obtain ⟨I1, e1, h1, h2⟩ := key n (Nat.le_refl _) I (by rw [shU_n]; exact hv) (fun _ _ => rfl)
  rw [e1, sk_e97_113]
  have hle := insP_le v x y n
  have r5 : I1 (a + 4) 4 = v 0 5 := by rw [vcz h1]; simp [shU]
  refine ⟨u2 (u2 (u2 (u2 (u2 I1 (a + 5) (insP v x y n) x) (a + 6) (insP v x y n) y) (a + 7) (insP v x y n) w) (a + 8) (insP v x y n) h) (a + 4) 4 (v 0 5 + 1), ?_, ?_, ?_⟩
  · simp (disch := omega) only [↓pw_r0b hS ha, ↓pw_r1b hS ha, ↓pw_r2b hS ha, ↓pw_r3b hS ha, ↓pw_i4b hS ha, ↓pw_u4b hS ha, ↓pw_ob hS ha, ↓pw0_ab hS ha, ↓pw0_sb hS ha, ↓pw0_nb hS ha, ↓pw1_ab hS ha, ↓pw1_sb hS ha, ↓pw1_nb hS ha, ↓pw2_ab hS ha, ↓pw2_sb hS ha, ↓pw2_nb hS ha, ↓pw3_ab hS ha, ↓pw3_sb hS ha, ↓pw3_nb hS ha, ↓Option.bind_some, ↓sk_ci_some, ↓sk_cv_some, ↓sk_cf_some, if_true, eq_self, ite_self, Int.toNat_natCast, u2_ne, r5, sj_add]
  · rw [wz, wx3, wx2, wx1, wx0, h1]
    rfl
  · intro b hb
    rw [← h2 b hb]
    funext q
    simp (disch := omega) only [u2_ne]
theorem m99 {d : Nat} (hd : 1 ≤ d) (hS : sk_G S) (ha : sk_isP a) (hv : vC I a = v) (hV : VO v) {k : Nat} (hk : (k : Int) < v 0 5) : ∃ I', sk_c d 99 [.ref (a + 4), .int (sj k)] (sk_mk S I) = some (none, sk_mk S I') ∧ vC I' a = dropV v k ∧ ∀ b, ¬ (a + 4 ≤ b ∧ b ≤ a + 8) → I' b = I b := by
  obtain ⟨n1, n2, n3, n4, n5, n6, n7, n8, n9, n10, n11, n12⟩ := hV.1
  obtain ⟨d, rfl⟩ : ∃ e, d = e + 1 := ⟨d - 1, by omega⟩; rw [sk_e99]
  simp (disch := omega) only [↓pl_r0b hS ha, ↓pl_r1b hS ha, ↓pl_r2b hS ha, ↓pl_r3b hS ha, ↓pl_i4b hS ha, ↓pl_u4b hS ha, ↓pl_i5b hS ha, ↓pl_u5b hS ha, ↓pl_i6b hS ha, ↓pl_u6b hS ha, ↓pl_i7b hS ha, ↓pl_u7b hS ha, ↓pl_i8b hS ha, ↓pl_u8b hS ha, ↓pl_ob hS ha, ↓pl_pb hS ha, ↓po_ab hS ha, ↓po_sb hS ha, ↓po_nb hS ha, ↓ps_ab hS ha, ↓ps_sb hS ha, ↓ps_nb hS ha, ↓pw_r0b hS ha, ↓pw_r1b hS ha, ↓pw_r2b hS ha, ↓pw_r3b hS ha, ↓pw_i4b hS ha, ↓pw_u4b hS ha, ↓pw_ob hS ha, ↓pw0_ab hS ha, ↓pw0_sb hS ha, ↓pw0_nb hS ha, ↓pw1_ab hS ha, ↓pw1_sb hS ha, ↓pw1_nb hS ha, ↓pw2_ab hS ha, ↓pw2_sb hS ha, ↓pw2_nb hS ha, ↓pw3_ab hS ha, ↓pw3_sb hS ha, ↓pw3_nb hS ha, ↓pq_i0b hS ha, ↓pq_u0b hS ha, ↓pq_i1b hS ha, ↓pq_u1b hS ha, ↓pq_i2b hS ha, ↓pq_u2b hS ha, ↓pq_i3b hS ha, ↓pq_u3b hS ha, ↓pq_i4b hS ha, ↓pq_u4b hS ha, ↓pq_i5b hS ha, ↓pq_u5b hS ha, ↓pq_i6b hS ha, ↓pq_u6b hS ha, ↓pq_i7b hS ha, ↓pq_u7b hS ha, ↓pq_i8b hS ha, ↓pq_u8b hS ha, ↓pq_i9b hS ha, ↓pq_u9b hS ha, ↓pq_ob hS ha, ↓Option.bind_some, ↓sk_ci_some, ↓sk_cv_some, ↓sk_cf_some, if_true, eq_self, ite_self, vc4 hv, vc5 hv, vc6 hv, vc7 hv, vc8 hv, vcz hv, vp0 hv, vp1 hv, vp2 hv, vp3 hv, vp4 hv, vp5 hv, vp6 hv, vp7 hv, vp8 hv, vp9 hv, vo_ hv, vs_ hv, vx0 hv, vx1 hv, vx2 hv, vx3 hv, Int.toNat_natCast, sj_add, sj_sub, sj_mul, sj_neg, sj_div, sj_ceq, sj_cne, sj_clt, sj_cge, sj_cgt, sj_cle, bi_ceq, bi_cne, bi_01]
  obtain ⟨n, hnn⟩ : ∃ n : Nat, v 0 5 = n + 1 := ⟨(v 0 5).toNat - 1, by omega⟩
  have key : ∀ m i : Nat, m + i = n → k ≤ i → ∀ I1, vC I1 a = (fun s j => if (11 ≤ s ∧ s ≤ 14) ∧ k ≤ j ∧ j < i then v s (j + 1) else if s = 0 ∧ j = 5 then v 0 5 - 1 else v s j) → (∀ b, ¬ (a + 4 ≤ b ∧ b ≤ a + 8) → I1 b = I b) → ∃ I', sk_D99 d 12 [some (.ref (a + 4)), some (.int (sj k)), some (.int (sj (i : Int)))] [] (sk_mk S I1) = some (none, sk_mk S I') ∧ vC I' a = dropV v k ∧ ∀ b, ¬ (a + 4 ≤ b ∧ b ≤ a + 8) → I' b = I b := by
    intro m
    induction m with
    | zero =>
      intro i hi hki I1 h1 h2
      have r5 : I1 (a + 4) 4 = v 0 5 - 1 := by rw [vcz h1]; simp
      refine ⟨I1, ?_, ?_, h2⟩
      · rw [sk_e99_12]
        simp (disch := omega) only [↓pw_r0b hS ha, ↓pw_r1b hS ha, ↓pw_r2b hS ha, ↓pw_r3b hS ha, ↓pw_i4b hS ha, ↓pw_u4b hS ha, ↓pw_ob hS ha, ↓pw0_ab hS ha, ↓pw0_sb hS ha, ↓pw0_nb hS ha, ↓pw1_ab hS ha, ↓pw1_sb hS ha, ↓pw1_nb hS ha, ↓pw2_ab hS ha, ↓pw2_sb hS ha, ↓pw2_nb hS ha, ↓pw3_ab hS ha, ↓pw3_sb hS ha, ↓pw3_nb hS ha, ↓Option.bind_some, ↓sk_ci_some, ↓sk_cv_some, ↓sk_cf_some, if_true, eq_self, ite_self, sj_ceq, sj_cne, sj_clt, sj_cge, sj_cgt, sj_cle, bi_ceq, bi_cne, bi_01, r5]
        rw [if_pos (by omega)]
      · rw [h1]
        funext s j
        unfold dropV
        have : ((11 ≤ s ∧ s ≤ 14) ∧ k ≤ j ∧ j < i) = ((11 ≤ s ∧ s ≤ 14) ∧ k ≤ j ∧ (j : Int) < v 0 5 - 1) := propext (by omega)
        simp only [this]
    | succ m ih =>
      intro i hi hki I1 h1 h2
      have r5 : I1 (a + 4) 4 = v 0 5 - 1 := by rw [vcz h1]; simp
      have t1 : (i : Int) + 1 = ((i + 1 : Nat) : Int) := rfl
      have q : ∀ s, 11 ≤ s → s ≤ 14 → vC I1 a s (i + 1) = v s (i + 1) := by
        intro s s1 s2
        rw [h1]
        try dsimp only
        rw [if_neg (by omega), if_neg (by omega)]
      have r1 : I1 (a + 5) (i + 1) = v 11 (i + 1) := (vx0 rfl).trans (q 11 (by omega) (by omega))
      have r2 : I1 (a + 6) (i + 1) = v 12 (i + 1) := (vx1 rfl).trans (q 12 (by omega) (by omega))
      have r3 : I1 (a + 7) (i + 1) = v 13 (i + 1) := (vx2 rfl).trans (q 13 (by omega) (by omega))
      have r4 : I1 (a + 8) (i + 1) = v 14 (i + 1) := (vx3 rfl).trans (q 14 (by omega) (by omega))
      rw [sk_e99_12]
      simp (disch := omega) only [↓pw_r0b hS ha, ↓pw_r1b hS ha, ↓pw_r2b hS ha, ↓pw_r3b hS ha, ↓pw_i4b hS ha, ↓pw_u4b hS ha, ↓pw_ob hS ha, ↓pw0_ab hS ha, ↓pw0_sb hS ha, ↓pw0_nb hS ha, ↓pw1_ab hS ha, ↓pw1_sb hS ha, ↓pw1_nb hS ha, ↓pw2_ab hS ha, ↓pw2_sb hS ha, ↓pw2_nb hS ha, ↓pw3_ab hS ha, ↓pw3_sb hS ha, ↓pw3_nb hS ha, ↓Option.bind_some, ↓sk_ci_some, ↓sk_cv_some, ↓sk_cf_some, if_true, eq_self, ite_self, sj_ceq, sj_cne, sj_clt, sj_cge, sj_cgt, sj_cle, bi_ceq, bi_cne, bi_01, r5, sj_add, t1, Int.toNat_natCast, u2_ne, r1, r2, r3, r4]
      rw [if_neg (by omega)]
      refine ih (i + 1) (by omega) (by omega) _ ?_ ?_
      · rw [wx3, wx2, wx1, wx0, h1]
        funext s j
        unfold u2
        try dsimp only
        by_cases hj : j = i
        · subst hj
          by_cases h11 : s = 11
          · subst h11; simp; omega
          by_cases h12 : s = 12
          · subst h12; simp; omega
          by_cases h13 : s = 13
          · subst h13; simp; omega
          by_cases h14 : s = 14
          · subst h14; simp; omega
          rw [if_neg (by omega), if_neg (by omega), if_neg (by omega), if_neg (by omega), if_neg (by omega)]
          have hx : ¬ ((11 ≤ s ∧ s ≤ 14) ∧ k ≤ j ∧ j < j + 1) := by omega
          simp only [hx, if_false]
        · rw [if_neg (by omega), if_neg (by omega), if_neg (by omega), if_neg (by omega)]
          have hx : ((11 ≤ s ∧ s ≤ 14) ∧ k ≤ j ∧ j < i + 1) = ((11 ≤ s ∧ s ≤ 14) ∧ k ≤ j ∧ j < i) := propext (by omega)
          simp only [hx]
      · intro b hb
        rw [← h2 b hb]
        funext q
        simp (disch := omega) only [u2_ne]
  refine key (n - k) k (by omega) (Nat.le_refl _) _ ?_ ?_
  · rw [wz, hv]
    funext s j
    unfold u2
    try dsimp only
    rw [if_neg (show ¬ ((11 ≤ s ∧ s ≤ 14) ∧ k ≤ j ∧ j < k) by omega)]
  · intro b hb
    funext q
    simp (disch := omega) only [u2_ne]
theorem m98 {d : Nat} (hd : 3 ≤ d) (hS : sk_G S) (ha : sk_isP a) (hv : vC I a = v) (hV : VO v) {k : Nat} (hk : (k : Int) < v 0 5) (hn : v 0 5 ≤ 60) {w t : Int} (h1 : 0 ≤ w) (h2 : w ≤ v 13 k) (h3 : 0 ≤ t) (h4 : t ≤ v 14 k) : ∃ I', sk_c d 98 [.ref (a + 4), .int (sj k), .int (sj w), .int (sj t)] (sk_mk S I) = some (none, sk_mk S I') ∧ vC I' a = cornV v k w t ∧ ∀ b, ¬ (a + 4 ≤ b ∧ b ≤ a + 8) → I' b = I b := by
  obtain ⟨n1, n2, n3, n4, n5, n6, n7, n8, n9, n10, n11, n12⟩ := hV.1
  obtain ⟨d, rfl⟩ : ∃ e, d = e + 1 := ⟨d - 1, by omega⟩; rw [sk_e98]
  have hW := hV.2.2.2.2 k hk
  obtain ⟨V2, -⟩ := VO_cornV hV hk hn h1 h2 h3 h4
  have V1 := VO_dropV hV hk
  have b1 : dropV v k 0 5 = v 0 5 - 1 := by simp [dropV]
  have b2 := wAdd_n (dropV v k) (v 11 k + w) (v 12 k) (v 13 k - w) (v 14 k)
  obtain ⟨I1, e1, c1, f1⟩ := m99 (S := S) (I := I) (d := d) (by omega) hS ha hv hV hk
  obtain ⟨I2, e2, c2, f2⟩ := m97 (S := S) (I := I1) (d := d) (by omega) hS ha c1 V1 (by omega) (x := v 11 k + w) (y := v 12 k) (w := v 13 k - w) (h := v 14 k) (by omega) (by omega) (by omega) (by omega) (by omega) (by omega) (by omega) (by omega)
  obtain ⟨I3, e3, c3, f3⟩ := m97 (S := S) (I := I2) (d := d) (by omega) hS ha c2 V2 (by omega) (x := v 11 k) (y := v 12 k + t) (w := w) (h := v 14 k - t) (by omega) (by omega) (by omega) (by omega) (by omega) (by omega) (by omega) (by omega)
  refine ⟨I3, ?_, c3, fun b hb => (f3 b hb).trans ((f2 b hb).trans (f1 b hb))⟩
  simp (disch := omega) only [↓pl_r0b hS ha, ↓pl_r1b hS ha, ↓pl_r2b hS ha, ↓pl_r3b hS ha, ↓pl_i4b hS ha, ↓pl_u4b hS ha, ↓pl_i5b hS ha, ↓pl_u5b hS ha, ↓pl_i6b hS ha, ↓pl_u6b hS ha, ↓pl_i7b hS ha, ↓pl_u7b hS ha, ↓pl_i8b hS ha, ↓pl_u8b hS ha, ↓pl_ob hS ha, ↓pl_pb hS ha, ↓po_ab hS ha, ↓po_sb hS ha, ↓po_nb hS ha, ↓ps_ab hS ha, ↓ps_sb hS ha, ↓ps_nb hS ha, ↓pw_r0b hS ha, ↓pw_r1b hS ha, ↓pw_r2b hS ha, ↓pw_r3b hS ha, ↓pw_i4b hS ha, ↓pw_u4b hS ha, ↓pw_ob hS ha, ↓pw0_ab hS ha, ↓pw0_sb hS ha, ↓pw0_nb hS ha, ↓pw1_ab hS ha, ↓pw1_sb hS ha, ↓pw1_nb hS ha, ↓pw2_ab hS ha, ↓pw2_sb hS ha, ↓pw2_nb hS ha, ↓pw3_ab hS ha, ↓pw3_sb hS ha, ↓pw3_nb hS ha, ↓pq_i0b hS ha, ↓pq_u0b hS ha, ↓pq_i1b hS ha, ↓pq_u1b hS ha, ↓pq_i2b hS ha, ↓pq_u2b hS ha, ↓pq_i3b hS ha, ↓pq_u3b hS ha, ↓pq_i4b hS ha, ↓pq_u4b hS ha, ↓pq_i5b hS ha, ↓pq_u5b hS ha, ↓pq_i6b hS ha, ↓pq_u6b hS ha, ↓pq_i7b hS ha, ↓pq_u7b hS ha, ↓pq_i8b hS ha, ↓pq_u8b hS ha, ↓pq_i9b hS ha, ↓pq_u9b hS ha, ↓pq_ob hS ha, ↓Option.bind_some, ↓sk_ci_some, ↓sk_cv_some, ↓sk_cf_some, if_true, eq_self, ite_self, vc4 hv, vc5 hv, vc6 hv, vc7 hv, vc8 hv, vcz hv, vp0 hv, vp1 hv, vp2 hv, vp3 hv, vp4 hv, vp5 hv, vp6 hv, vp7 hv, vp8 hv, vp9 hv, vo_ hv, vs_ hv, vx0 hv, vx1 hv, vx2 hv, vx3 hv, Int.toNat_natCast, sj_add, sj_sub, sj_mul, sj_neg, sj_div, sj_ceq, sj_cne, sj_clt, sj_cge, sj_cgt, sj_cle, bi_ceq, bi_cne, bi_01]
  rw [if_neg (by omega), if_pos hk]
  simp (disch := omega) only [↓pw_r0b hS ha, ↓pw_r1b hS ha, ↓pw_r2b hS ha, ↓pw_r3b hS ha, ↓pw_i4b hS ha, ↓pw_u4b hS ha, ↓pw_ob hS ha, ↓pw0_ab hS ha, ↓pw0_sb hS ha, ↓pw0_nb hS ha, ↓pw1_ab hS ha, ↓pw1_sb hS ha, ↓pw1_nb hS ha, ↓pw2_ab hS ha, ↓pw2_sb hS ha, ↓pw2_nb hS ha, ↓pw3_ab hS ha, ↓pw3_sb hS ha, ↓pw3_nb hS ha, ↓Option.bind_some, ↓sk_ci_some, ↓sk_cv_some, ↓sk_cf_some, if_true, eq_self, ite_self, e1, e2, e3]
end WST
