/-! ===== the items, read by the class ===== -/
section ITE
variable {S : List sk_Sh} {I J v : sk_H} {B : Nat → Int} {n i : Nat}
/-- begins the items from T on, c of them -/
def BG (I J : sk_H) (T : Int) (t : Nat → Int) (c : Int) : Prop := (∀ b, b ≠ 2 → ¬ (5 ≤ b ∧ b < 15) → J b = I b) ∧ (∀ k, k ≠ 3 → k ≠ 4 → J 2 k = I 2 k) ∧ (∀ q : Nat, q < 10 → ∀ f, f < 4 → T ≤ q → (q : Int) < T + c → J (5 + q) f = t f) ∧ ∀ q : Nat, q < 10 → ∀ f, (4 ≤ f ∨ ¬ (T ≤ q ∧ (q : Int) < T + c)) → J (5 + q) f = I (5 + q) f
theorem m25 {d : Nat} (hd : 1 ≤ d) {b : Nat} (hb : pt S b) {x y z u : Int} : sk_c d 25 [.ref b, .int (sj x), .int (sj y), .int (sj z), .int (sj u)] (sk_mk S I) = some (none, sk_mk S (u2 (u2 (u2 (u2 I b 0 x) b 1 y) b 2 z) b 3 u)) := by
  obtain ⟨d, rfl⟩ : ∃ e, d = e + 1 := ⟨d - 1, by omega⟩; rw [sk_e25]
  rw [pt_u0b hb, pt_u1b hb, pt_u2b hb, pt_u3b hb]
theorem rd_cnt {d : Nat} (hd : 1 ≤ d) (hS : sk_G S) {t : Nat → Int} {C : Nat} (hc : t 4 = C) (hc2 : C ≤ 9) {T : Int} (T1 : 0 ≤ T) (T2 : T ≤ 600) (h3 : J 2 3 = T) (o1 : Option Value) : ∃ J' o, sk_D89 d 104 [some (.ref 2), o1, some (.int (sj (t 0))), some (.int (sj (t 1))), some (.int (sj (t 2))), some (.int (sj (t 3))), some (.int (sj (t 4))), some (.int (sj 0))] [] (sk_mk S J) = some (some (.int (sj 1)), sk_mk S J') ∧ BG J J' T t (t 4) ∧ J' 2 3 = T + t 4 ∧ J' 2 4 = J 2 4 ∧ o = o1 := by
  have key := lp_run (fun c (X : Option sk_R) => ∃ J', X = sk_D89 d 104 [some (.ref 2), o1, some (.int (sj (t 0))), some (.int (sj (t 1))), some (.int (sj (t 2))), some (.int (sj (t 3))), some (.int (sj (t 4))), some (.int (sj (c : Int)))] [] (sk_mk S J') ∧ BG J J' T t c ∧ J' 2 3 = T + c ∧ J' 2 4 = J 2 4) C (fun c X hcc hX => by
    obtain ⟨K, rfl, ⟨b1, b2, b3, b4⟩, a1, a2⟩ := hX
    have t2 : (c : Int) + 1 = ((c + 1 : Nat) : Int) := rfl
    rw [sk_e89_104, if_neg (kn_ge (by omega) (by omega) (by omega) (by omega) (by omega)), g2_i3b hS, a1]
    by_cases e : 10 ≤ T + c
    · refine ⟨u2 K 2 3 (T + c + 1), ?_, ⟨fun b h1 h2 => ?_, fun k h1 h2 => ?_, fun q hq f hf h1 h2 => ?_, fun q hq f hf => ?_⟩, ?_, ?_⟩
      · rw [if_pos (ky_ge (by omega) (by omega) (by omega) (by omega) (by omega)), g2_i3b hS, a1, sj_add, g2_u3b hS, sj_add, t2]
      · exact (funext fun k => u2_ne _ _ (by omega)).trans (b1 b h1 h2)
      · exact (u2_ne _ _ (by omega)).trans (b2 k h1 h2)
      · exact (u2_ne _ _ (by omega)).trans (b3 q hq f hf h1 (by omega))
      · exact (u2_ne _ _ (by omega)).trans (b4 q hq f (by omega))
      · rw [u2_eq]; omega
      · exact (u2_ne _ _ (by omega)).trans a2
    · have ht : (T + (c : Int)).toNat < 10 := by omega
      have hp := sh_ti hS ht
      obtain ⟨p, hp2⟩ : ∃ p, (T + (c : Int)).toNat = p := ⟨_, rfl⟩
      rw [hp2] at hp ht
      rw [show 2 + 3 + p = 5 + p by omega] at hp
      refine ⟨u2 (u2 (u2 (u2 (u2 K (5 + p) 0 (t 0)) (5 + p) 1 (t 1)) (5 + p) 2 (t 2)) (5 + p) 3 (t 3)) 2 3 (T + c + 1), ?_, ⟨fun b h1 h2 => ?_, fun k h1 h2 => ?_, fun q hq f hf h1 h2 => ?_, fun q hq f hf => ?_⟩, ?_, ?_⟩
      · rw [if_neg (kn_ge (by omega) (by omega) (by omega) (by omega) (by omega)), g2_r2b hS, g2_i3b hS, a1, g4_qb hS (by omega) (by omega), hp2, show 2 + 3 + p = 5 + p by omega, pt_ob hp, m25 (by omega) hp, sk_cv_some, g2_i3b hS, u2_ne _ _ (by omega), u2_ne _ _ (by omega), u2_ne _ _ (by omega), u2_ne _ _ (by omega), a1, sj_add, g2_u3b hS, sj_add, t2]
      · exact (funext fun k => by rw [u2_ne _ _ (by omega), u2_ne _ _ (by omega), u2_ne _ _ (by omega), u2_ne _ _ (by omega), u2_ne _ _ (by omega)]).trans (b1 b h1 h2)
      · rw [u2_ne _ _ (by omega), u2_ne _ _ (by omega), u2_ne _ _ (by omega), u2_ne _ _ (by omega), u2_ne _ _ (by omega)]; exact b2 k h1 h2
      · rw [u2_ne _ _ (by omega)]
        by_cases g : q = p
        · subst g
          obtain rfl | rfl | rfl | rfl := (by omega : f = 0 ∨ f = 1 ∨ f = 2 ∨ f = 3)
          · rw [u2_ne _ _ (by omega), u2_ne _ _ (by omega), u2_ne _ _ (by omega), u2_eq]
          · rw [u2_ne _ _ (by omega), u2_ne _ _ (by omega), u2_eq]
          · rw [u2_ne _ _ (by omega), u2_eq]
          · rw [u2_eq]
        · rw [u2_ne _ _ (by omega), u2_ne _ _ (by omega), u2_ne _ _ (by omega), u2_ne _ _ (by omega)]
          exact b3 q hq f hf h1 (by omega)
      · rw [u2_ne _ _ (by omega), u2_ne _ _ (by omega), u2_ne _ _ (by omega), u2_ne _ _ (by omega), u2_ne _ _ (by omega)]
        exact b4 q hq f (by omega)
      · rw [u2_eq]; omega
      · rw [u2_ne _ _ (by omega), u2_ne _ _ (by omega), u2_ne _ _ (by omega), u2_ne _ _ (by omega), u2_ne _ _ (by omega)]; exact a2) ⟨J, rfl, ⟨fun _ _ _ => rfl, fun _ _ _ => rfl, fun q hq f hf h1 h2 => absurd h2 (by omega), fun _ _ _ _ => rfl⟩, by omega, rfl⟩
  obtain ⟨J', e, b, a1, a2⟩ := key
  refine ⟨J', o1, e.trans ?_, by rw [hc]; exact b, by rw [hc]; exact a1, a2, rfl⟩
  rw [sk_e89_104, if_pos (ky_ge (by omega) (by omega) (by omega) (by omega) (by omega))]
theorem m89 {d : Nat} (hd : 5 ≤ d) (hS : sk_G S) (hB : OKB B n) (h : TP B n J i) (hi : i ≤ n) {W : Int} (w1 : 1 ≤ W) (w2 : W ≤ 20) {T : Int} (T1 : 0 ≤ T) (T2 : T ≤ 600) (h3 : J 2 3 = T) : ∃ J', TP B n J' (itI B n W i).1 ∧ ((itI B n W i).2 = none → sk_c d 89 [.ref 2, .int (sj W)] (sk_mk S J) = some (some (.int (sj 0)), sk_mk S J') ∧ MV J J') ∧ ∀ t, (itI B n W i).2 = some t → sk_c d 89 [.ref 2, .int (sj W)] (sk_mk S J) = some (some (.int (sj 1)), sk_mk S J') ∧ BG J J' T t (t 4) ∧ J' 2 3 = T + t 4 := by
  have hn := hB.1
  obtain ⟨d, rfl⟩ : ∃ e, d = e + 1 := ⟨d - 1, by omega⟩; rw [sk_e89]
  have r := tb_rng hB i
  have k0 := kdF_rng (tb B n i)
  unfold itI
  rw [g2_ob hS, m87 (by omega) hS hB h (by omega), sk_ci_some, m90 (by omega) r.1 r.2, sk_ci_some]
  by_cases c0 : kdF (tb B n i) = -1
  · rw [if_pos c0, if_neg (kn_ne c0)]
    exact ⟨J, h, fun _ => ⟨rfl, MV.rfl' J⟩, fun t ht => by cases ht⟩
  have hin := kdF_in hB c0
  obtain ⟨J1, e1, p1, q1⟩ := m92 (S := S) (J := u2 J 2 4 ((i : Int) + 1)) (d := d) (i := i + 1) (by omega) hS hB (h.u rfl) (by omega) w1 w2
  have q1 := (MV.u J _).trans q1
  rw [if_neg c0, if_pos (ky_ne (by omega) (by omega) (by omega) (by omega) c0), g2_i4b hS, h.2.2, sj_add, g2_u4b hS, g2_ob hS, e1, sk_ci_some]
  have h1 := wdI_le (B := B) (n := n) (i := i + 1) (by omega)
  generalize hw : wdI B n (i + 1) = w at *
  by_cases c1 : 1 ≤ w.1 ∧ w.1 ≤ W
  rotate_left
  · rw [if_neg c1] at p1 ⊢
    rw [if_pos c1, if_neg (kn_ne rfl)]
    exact ⟨J1, p1, fun _ => ⟨rfl, q1⟩, fun t ht => by cases ht⟩
  rw [if_pos c1] at p1 ⊢
  have r2 := tb_rng hB w.2
  rw [if_neg (fun e => e c1), if_pos (ky_ne (by omega) (by omega) (by omega) (by omega) (by omega)), g2_ob hS, m87 (by omega) hS hB p1 (by omega), sk_ci_some]
  by_cases c2 : tb B n w.2 = 120
  rotate_left
  · rw [if_pos c2, if_neg (kn_eq (by omega) (by omega) (by omega) (by omega) c2)]
    exact ⟨J1, p1, fun _ => ⟨rfl, q1⟩, fun t ht => by cases ht⟩
  have h2 : w.2 < n := tb_in (B := B) (by omega)
  obtain ⟨J2, e2, p2, q2⟩ := m93 (S := S) (J := u2 J1 2 4 ((w.2 : Int) + 1)) (d := d) (i := w.2 + 1) (by omega) hS hB (p1.u rfl) (by omega)
  have q2 := (q1.trans (MV.u J1 _)).trans q2
  rw [if_neg (fun e => e c2), if_pos (ky_eq c2), g2_i4b hS, p1.2.2, sj_add, g2_u4b hS, g2_ob hS, e2, sk_ci_some]
  have h3' := fgI_le (B := B) (n := n) (i := w.2 + 1) (by omega)
  generalize hf : fgI B n (w.2 + 1) = f at *
  by_cases c3 : f.1 = 0
  · rw [if_pos c3, if_neg (kn_ne c3)]
    exact ⟨J2, p2, fun _ => ⟨rfl, q2⟩, fun t ht => by cases ht⟩
  obtain ⟨J3, e3, p3, q3⟩ := m94 (S := S) (J := J2) (d := d) (by omega) hS hB p2 (by omega) (c := 58) (by omega) (by omega)
  have q3 := q2.trans q3
  rw [if_neg c3, if_pos (ky_ne (by omega) (by omega) (by omega) (by omega) c3), g2_ob hS, e3, sk_ci_some]
  have h4 := mkI_le (B := B) (n := n) (i := f.2) (c := 58) (by decide) (by omega)
  generalize hm : mkI B n 58 f.2 = m at *
  by_cases c4 : m.1 = 0
  · rw [if_pos c4, if_neg (kn_ne c4)]
    exact ⟨J3, p3, fun _ => ⟨rfl, q3⟩, fun t ht => by cases ht⟩
  obtain ⟨J4, e4, p4, q4⟩ := m94 (S := S) (J := J3) (d := d) (by omega) hS hB p3 (by omega) (c := 42) (by omega) (by omega)
  have q4 := q3.trans q4
  rw [if_neg c4, if_pos (ky_ne (by omega) (by omega) (by omega) (by omega) c4), g2_ob hS, e4, sk_ci_some]
  have h5 := mkI_le (B := B) (n := n) (i := m.2) (c := 42) (by decide) (by omega)
  generalize hq : mkI B n 42 m.2 = q at *
  by_cases c5 : q.1 = 0
  · rw [if_pos c5, if_neg (kn_ne c5)]
    exact ⟨J4, p4, fun _ => ⟨rfl, q4⟩, fun t ht => by cases ht⟩
  rw [if_neg c5, if_pos (ky_ne (by omega) (by omega) (by omega) (by omega) c5)]
  obtain ⟨C, hC⟩ : ∃ C : Nat, q.1 = C := ⟨q.1.toNat, by omega⟩
  obtain ⟨J5, o, e5, b5, a5, a6, -⟩ := rd_cnt (S := S) (J := J4) (d := d) (by omega) hS (t := itT (kdF (tb B n i)) w.1 f.1 m.1 q.1) (C := C) hC (by omega) (T := T) T1 T2 ((q4.2 3 (by omega)).trans h3) (some (.int (sj W)))
  refine ⟨J5, ⟨(b5.2.1 1 (by omega) (by omega)).trans p4.1, fun k hk => by rw [b5.1 3 (by omega) (by omega)]; exact p4.2.1 k hk, a6.trans p4.2.2⟩, fun ht => (by cases ht), fun t ht => ?_⟩
  cases ht
  refine ⟨e5, ⟨fun b h1 h2 => (b5.1 b h1 h2).trans (q4.1 b h1), fun k h1 h2 => (b5.2.1 k h1 h2).trans (q4.2 k h2), b5.2.2.1, fun q hq f hf => ?_⟩, a5⟩
  rw [b5.2.2.2 q hq f hf, q4.1 (5 + q) (by omega)]
/-- the items up to now -/
def rdL (B : Nat → Int) (n : Nat) (W : Int) : Nat → Nat → Nat → (Nat → Nat → Int) → Nat × Option (Nat × (Nat → Nat → Int))
  | 0, i, N, g => (i, some (N, g))
  | m + 1, i, N, g => if N = 0 ∨ skp B n 60 i < n then (match (itI B n W (skp B n 60 i)).2 with
      | none => ((itI B n W (skp B n 60 i)).1, none)
      | some t => rdL B n W m (itI B n W (skp B n 60 i)).1 (N + 1) (fun j => if j = N then t else g j)) else (i, some (N, g))
def TT (g : Nat → Nat → Int) (N : Nat) : Int := sumTo N (fun j => g j 4)
def GG (W : Int) (g : Nat → Nat → Int) (N : Nat) : Prop := ∀ j, j < N → 0 ≤ g j 0 ∧ g j 0 ≤ 5 ∧ 1 ≤ g j 1 ∧ g j 1 ≤ W ∧ 1 ≤ g j 2 ∧ g j 2 ≤ 9 ∧ 1 ≤ g j 3 ∧ g j 3 ≤ 9 ∧ 1 ≤ g j 4 ∧ g j 4 ≤ 9
def LAY (J : sk_H) (g : Nat → Nat → Int) (N : Nat) : Prop := ∀ j, j < N → ∀ q : Nat, q < 10 → TT g j ≤ q → (q : Int) < TT g (j + 1) → ∀ f, f < 4 → J (5 + q) f = g j f
theorem TT_up (g : Nat → Nat → Int) (t : Nat → Int) (N j : Nat) (hj : j ≤ N) : TT (fun j => if j = N then t else g j) j = TT g j := sumTo_congr fun k hk => by
  dsimp only; rw [if_neg (by omega)]
theorem TT_ups (g : Nat → Nat → Int) (t : Nat → Int) (N : Nat) : TT (fun j => if j = N then t else g j) (N + 1) = TT g N + t 4 := by
  have h := TT_up g t N N (Nat.le_refl _)
  unfold TT at h ⊢
  rw [sumTo_succ, h]
  dsimp only
  rw [if_pos rfl]
theorem TT_succ (g : Nat → Nat → Int) (N : Nat) : TT g (N + 1) = TT g N + g N 4 := rfl
theorem TT_mono {W : Int} {g : Nat → Nat → Int} {N : Nat} (hg : GG W g N) {j k : Nat} (hj : j ≤ k) (hk : k ≤ N) : TT g j ≤ TT g k := by
  induction k with
  | zero => rw [show j = 0 by omega]; exact Int.le_refl _
  | succ k ih =>
    by_cases c : j = k + 1
    · rw [c]; exact Int.le_refl _
    · have := ih (by omega) (by omega)
      have := hg k (by omega)
      rw [TT_succ]; omega
theorem TT_rng {W : Int} {g : Nat → Nat → Int} {N : Nat} (hg : GG W g N) : 0 ≤ TT g N ∧ TT g N ≤ 9 * N := by
  have := sumTo_rng (n := N) (f := fun j => g j 4) (lo := 0) (hi := 9) (by omega) (by omega) (fun k hk => by have := hg k hk; omega)
  unfold TT; omega
theorem GG_up {W : Int} {g : Nat → Nat → Int} {t : Nat → Int} {N : Nat} (hg : GG W g N) (ht : 0 ≤ t 0 ∧ t 0 ≤ 5 ∧ 1 ≤ t 1 ∧ t 1 ≤ W ∧ 1 ≤ t 2 ∧ t 2 ≤ 9 ∧ 1 ≤ t 3 ∧ t 3 ≤ 9 ∧ 1 ≤ t 4 ∧ t 4 ≤ 9) : GG W (fun j => if j = N then t else g j) (N + 1) := by
  intro j hj
  dsimp only
  by_cases c : j = N
  · rw [if_pos c]; exact ht
  · rw [if_neg c]; exact hg j (by omega)
theorem LAY_up {W : Int} {g : Nat → Nat → Int} {t : Nat → Int} {N : Nat} (hg : GG W g N) (hL : LAY I g N) (hb : BG I J (TT g N) t (t 4)) : LAY J (fun j => if j = N then t else g j) (N + 1) := by
  intro j hj q hq h1 h2 f hf
  by_cases c : j = N
  · subst c
    rw [TT_up g t j j (Nat.le_refl _)] at h1
    rw [TT_ups] at h2
    dsimp only
    rw [if_pos rfl]
    exact hb.2.2.1 q hq f hf h1 h2
  · rw [TT_up g t N j (by omega)] at h1
    rw [TT_up g t N (j + 1) (by omega)] at h2
    have := TT_mono hg (j := j + 1) (k := N) (by omega) (Nat.le_refl _)
    dsimp only
    rw [if_neg c, hb.2.2.2 q hq f (by omega)]
    exact hL j (by omega) q hq h1 h2 f hf
def CF (I J : sk_H) : Prop := (∀ b, b ≠ 2 → ¬ (5 ≤ b ∧ b < 15) → J b = I b) ∧ (∀ k, k ≠ 3 → k ≠ 4 → J 2 k = I 2 k) ∧ ∀ q : Nat, q < 10 → ∀ f, 4 ≤ f → J (5 + q) f = I (5 + q) f
theorem CF.trans {I J K : sk_H} (h1 : CF I J) (h2 : CF J K) : CF I K := ⟨fun b a c => (h2.1 b a c).trans (h1.1 b a c), fun k a c => (h2.2.1 k a c).trans (h1.2.1 k a c), fun q a f c => (h2.2.2 q a f c).trans (h1.2.2 q a f c)⟩
theorem MV.cf {I J : sk_H} (h : MV I J) : CF I J := ⟨fun b a _ => h.1 b a, fun k _ a => h.2 k a, fun q _ f _ => by rw [h.1 (5 + q) (by omega)]⟩
theorem BG.cf {I J : sk_H} {T c : Int} {t : Nat → Int} (h : BG I J T t c) : CF I J := ⟨h.1, h.2.1, fun q a f c => h.2.2.2 q a f (Or.inl c)⟩
theorem c86 {d : Nat} (hd : 6 ≤ d + 1) (hS : sk_G S) (hB : OKB B n) {W : Int} (w1 : 1 ≤ W) (w2 : W ≤ 20) : ∀ m i N g J, N + m = 60 → N ≤ i → i ≤ n → TP B n J i → GG W g N → J 2 3 = TT g N → LAY J g N → ∃ J', CF J J' ∧ ((rdL B n W m i N g).2 = none → sk_D86 d 12 [some (.ref 2), some (.int (sj W)), some (.int (sj (N : Int)))] [] (sk_mk S J) = some (some (.int (sj (-100 - ((rdL B n W m i N g).1 : Int)))), sk_mk S J') ∧ (rdL B n W m i N g).1 ≤ n) ∧ ∀ N' g', (rdL B n W m i N g).2 = some (N', g') → sk_D86 d 12 [some (.ref 2), some (.int (sj W)), some (.int (sj (N : Int)))] [] (sk_mk S J) = some (some (.int (sj (TT g' N'))), sk_mk S J') ∧ GG W g' N' ∧ LAY J' g' N' ∧ N' ≤ 60 := by
  have hn := hB.1
  intro m
  induction m with
  | zero =>
    intro i N g J hN hNi hi h hg h3 hL
    refine ⟨J, ⟨fun _ _ _ => rfl, fun _ _ _ => rfl, fun _ _ _ _ => rfl⟩, fun e => (by cases e), fun N' g' e => ?_⟩
    cases e
    refine ⟨?_, hg, hL, by omega⟩
    rw [sk_e86_12, if_pos (ky_ge (by omega) (by omega) (by omega) (by omega) (by omega)), g2_i3b hS, h3]
  | succ m ih =>
    intro i N g J hN hNi hi h hg h3 hL
    have tr := TT_rng hg
    obtain ⟨J1, e1, p1, q1⟩ := m88 (S := S) (J := J) (d := d) (by omega) hS hB h hi
    have sk := skp_le (B := B) (n := n) 60 i hi
    have st : ∀ Q : sk_H → Option sk_R, (∀ X, (N = 0 ∨ skp B n 60 i < n) → X = Q J1 → True) → True := fun _ _ => trivial
    have t2 : (N : Int) + 1 = ((N + 1 : Nat) : Int) := rfl
    have h31 : J1 2 3 = TT g N := (q1.2 3 (by omega)).trans h3
    have L1 : LAY J1 g N := fun j hj q hq a b f hf => by rw [q1.1 (5 + q) (by omega)]; exact hL j hj q hq a b f hf
    unfold rdL
    by_cases c : N = 0 ∨ skp B n 60 i < n
    rotate_left
    · rw [if_neg c]
      refine ⟨J1, q1.cf, fun e => (by cases e), fun N' g' e => ?_⟩
      cases e
      refine ⟨?_, hg, L1, by omega⟩
      rw [sk_e86_12, if_neg (kn_ge (by omega) (by omega) (by omega) (by omega) (by omega)), g2_ob hS, e1, sk_cv_some, if_neg (kn_le (by omega) (by omega) (by omega) (by omega) (by omega)), g2_i4b hS, p1.2.2, g2_i1b hS, p1.1, if_neg (kn_lt (by omega) (by omega) (by omega) (by omega) (by omega)), g2_i3b hS, h31]
    rw [if_pos c]
    obtain ⟨J2, p2, hno, hso⟩ := m89 (S := S) (J := J1) (d := d) (by omega) hS hB p1 sk.2 w1 w2 (T := TT g N) tr.1 (by omega) h31
    have ir := itI_rng hB W sk.2
    have pre : ∀ (x : Int) (R : Option sk_R), (sk_c d 89 [.ref 2, .int (sj W)] (sk_mk S J1) = some (some (.int (sj x)), sk_mk S J2)) → (if sk_cond .ne (sj x) (sj 0) = true then sk_D86 d 12 [some (.ref 2), some (.int (sj W)), some (.int (sj ((N + 1 : Nat) : Int)))] [] (sk_mk S J2) else some (some (.int (sj (-100) - sj ((itI B n W (skp B n 60 i)).1 : Int))), sk_mk S J2)) = R → sk_D86 d 12 [some (.ref 2), some (.int (sj W)), some (.int (sj (N : Int)))] [] (sk_mk S J) = R := by
      intro x R e89 hR
      rw [sk_e86_12, if_neg (kn_ge (by omega) (by omega) (by omega) (by omega) (by omega)), g2_ob hS, e1, sk_cv_some]
      by_cases c0 : N = 0
      · rw [if_pos (ky_le (by omega) (by omega) (by omega) (by omega) (by omega)), g2_ob hS, e89, sk_ci_some, sj_add, t2, g2_i4b hS, p2.2.2]
        exact hR
      · rw [if_neg (kn_le (by omega) (by omega) (by omega) (by omega) (by omega)), g2_i4b hS, p1.2.2, g2_i1b hS, p1.1, if_pos (ky_lt (by omega) (by omega) (by omega) (by omega) (by omega)), g2_ob hS, e89, sk_ci_some, sj_add, t2, g2_i4b hS, p2.2.2]
        exact hR
    cases hit : (itI B n W (skp B n 60 i)).2 with
    | none =>
      obtain ⟨e89, q2⟩ := hno hit
      refine ⟨J2, (q1.trans q2).cf, fun _ => ⟨?_, ir.2.1⟩, fun N' g' e => by cases e⟩
      refine pre 0 _ e89 ?_
      rw [if_neg (kn_ne rfl), sj_sub]
    | some t =>
      obtain ⟨e89, b2, a2⟩ := hso t hit
      have it := ir.2.2 t hit
      obtain ⟨J3, cf3, x1, x2⟩ := ih (itI B n W (skp B n 60 i)).1 (N + 1) (fun j => if j = N then t else g j) J2 (by omega) (by omega) ir.2.1 p2 (GG_up hg it.2) (by rw [a2, TT_ups]) (LAY_up hg L1 b2)
      refine ⟨J3, (q1.cf.trans b2.cf).trans cf3, fun e => ⟨?_, (x1 e).2⟩, fun N' g' e => ⟨?_, (x2 N' g' e).2⟩⟩
      · refine pre 1 _ e89 ?_
        rw [if_pos (by decide)]
        exact (x1 e).1
      · refine pre 1 _ e89 ?_
        rw [if_pos (by decide)]
        exact (x2 N' g' e).1
end ITE
