/-! ===== stages, the reference: low, high, cut, parted ===== -/
section PAR
variable {S : List sk_Sh} {I v : sk_H}
def LOv (w : sk_H) (a p : Nat) : Int := if a = 0 then w 6 p else w 7 p
def HIv (w : sk_H) (a p : Nat) : Int := if a = 0 then w 6 p + w 15 p else w 7 p + w 16 p
def loW (w : sk_H) (a : Nat) : Nat → Int := layG w (LOv w a) (w 0 1).toNat
def hiW (w : sk_H) (a : Nat) : Nat → Int := layG w (HIv w a) (w 0 1).toNat
theorem lyC_mono (w : sk_H) {p : Nat} : ∀ n, p ≤ n → lyC w p ≤ lyC w n := by
  intro n
  induction n with
  | zero =>
    intro h
    obtain rfl : p = 0 := by omega
    exact Nat.le_refl _
  | succ n ih =>
    intro h
    by_cases e : p = n + 1
    · rw [e]; exact Nat.le_refl _
    · have := ih (by omega)
      rw [lyC_s]
      split <;> omega
theorem lyC_lt (w : sk_H) {p n : Nat} (h : p < n) (hp : lyB w p = true) : lyC w p < lyC w n := by
  have a := lyC_mono w (p := p + 1) n (by omega)
  rw [lyC_s, if_pos hp] at a
  omega
theorem lyC_inj (w : sk_H) {p q : Nat} (hp : lyB w p = true) (hq : lyB w q = true) (h : lyC w p = lyC w q) : p = q := by
  by_cases c : p < q
  · have := lyC_lt w c hp; omega
  · by_cases d : q < p
    · have := lyC_lt w d hq; omega
    · omega
theorem lyC_sur (w : sk_H) : ∀ n k, k < lyC w n → ∃ p, p < n ∧ lyB w p = true ∧ lyC w p = k := by
  intro n
  induction n with
  | zero => intro k hk; have := lyC_le w 0; omega
  | succ n ih =>
    intro k hk
    rw [lyC_s] at hk
    by_cases c : lyB w n = true
    · rw [if_pos c] at hk
      by_cases e : k = lyC w n
      · exact ⟨n, by omega, c, e.symm⟩
      · obtain ⟨p, p1, p2, p3⟩ := ih k (by omega)
        exact ⟨p, by omega, p2, p3⟩
    · rw [if_neg c] at hk
      obtain ⟨p, p1, p2, p3⟩ := ih k hk
      exact ⟨p, by omega, p2, p3⟩
theorem layG_at (w : sk_H) (f : Nat → Int) {p : Nat} (hp : lyB w p = true) : ∀ n, p < n → layG w f n (lyC w p) = f p := by
  intro n
  induction n with
  | zero => intro h; omega
  | succ n ih =>
    intro h
    by_cases c : lyB w n = true
    · rw [layG_y _ _ c]
      unfold fn1
      by_cases e : p = n
      · rw [e, if_pos rfl]
      · have := lyC_lt w (show p < n by omega) hp
        rw [if_neg (by omega)]
        exact ih (by omega)
    · rw [layG_n _ _ (Bool.not_eq_true _ ▸ c)]
      by_cases e : p = n
      · subst e; exact absurd hp c
      · exact ih (by omega)
theorem lo_at (w : sk_H) (a : Nat) {p : Nat} (hp : lyB w p = true) (h : (p : Int) < w 0 1) : loW w a (lyC w p) = LOv w a p := layG_at w _ hp _ (by omega)
theorem hi_at (w : sk_H) (a : Nat) {p : Nat} (hp : lyB w p = true) (h : (p : Int) < w 0 1) : hiW w a (lyC w p) = HIv w a p := layG_at w _ hp _ (by omega)
theorem LH_rng {w : sk_H} (hV : VO w) (a : Nat) {p : Nat} (hp : lyB w p = true) (h : (p : Int) < w 0 1) : 0 ≤ LOv w a p ∧ LOv w a p < HIv w a p ∧ HIv w a p ≤ 1000 := by
  obtain ⟨n1, n2, -⟩ := hV.1
  have hl : w 5 p ≠ 0 := of_decide_eq_true hp
  obtain ⟨q1, q2, q3, q4, q5, q6, q7, q8, q9, q10, q11, q12, q13⟩ := vo_p hV h
  obtain ⟨y1, y2, y3, y4, y5, y6⟩ := q12 hl
  have ha : 1 ≤ acr w p (w 8 p) ∧ acr w p (w 8 p) ≤ 20 := by
    unfold acr
    split <;> omega
  have ht : 1 ≤ tal w p (w 8 p) ∧ tal w p (w 8 p) ≤ 21 := by
    unfold tal
    split <;> split <;> omega
  rw [← y5] at ha
  rw [← y6] at ht
  unfold LOv HIv
  by_cases c : a = 0
  · rw [if_pos c, if_pos c]; omega
  · rw [if_neg c, if_neg c]; omega
theorem lh_rng {w : sk_H} (hV : VO w) (a k : Nat) (hk : k < layN w) : 0 ≤ loW w a k ∧ loW w a k < hiW w a k ∧ hiW w a k ≤ 1000 := by
  obtain ⟨p, p1, p2, rfl⟩ := lyC_sur w _ k hk
  have h : (p : Int) < w 0 1 := by omega
  rw [lo_at w a p2 h, hi_at w a p2 h]
  exact LH_rng hV a p2 h
theorem m204 {d : Nat} (hd : 1 ≤ d) (hS : sk_G S) (hR : RP I 107 v) (hV : VO v) {a : Nat} (ha : a < 2) {p : Nat} (hp : (p : Int) < v 0 1) (hl : lyB v p = true) : sk_c d 204 [.ref 105, .int (sj (p : Int)), .int (sj (a : Int))] (sk_mk S I) = some (some (.int (sj (LOv v a p))), sk_mk S I) := by
  have n4 := hV.1.2.2.2.1
  obtain ⟨r1, r2, r3, r4, r5, r6⟩ := hR.2.1 p hp
  obtain ⟨r6, r7, r8⟩ := r6 (of_decide_eq_true hl)
  obtain ⟨d, rfl⟩ : ∃ e, d = e + 1 := ⟨d - 1, by omega⟩; rw [sk_e204]
  have t47 : (47 + (p : Int)).toNat = 47 + p := by omega
  have t57 : (57 + (p : Int)).toNat = 57 + p := by omega
  unfold LOv
  by_cases c : a = 0
  · subst c
    rw [if_neg (kn_ne (show ((0 : Nat) : Int) = 0 from rfl)), g105_r1b hS, sj_add, g107_ab hS (by omega) (by omega), t47, r6, if_pos rfl]
  · rw [if_pos (ky_ne (by omega) (by omega) (by omega) (by omega) (by omega)), g105_r1b hS, sj_add, g107_ab hS (by omega) (by omega), t57, r7, if_neg c]
theorem m205 {d : Nat} (hd : 3 ≤ d) (hS : sk_G S) (hR : RP I 107 v) (hV : VO v) {a : Nat} (ha : a < 2) {p : Nat} (hp : (p : Int) < v 0 1) (hl : lyB v p = true) : sk_c d 205 [.ref 105, .int (sj (p : Int)), .int (sj (a : Int))] (sk_mk S I) = some (some (.int (sj (HIv v a p))), sk_mk S I) := by
  have n4 := hV.1.2.2.2.1
  have h0 : ¬ v 5 p = 0 := of_decide_eq_true hl
  obtain ⟨r1, r2, r3, r4, r5, r6⟩ := hR.2.1 p hp
  obtain ⟨r6, r7, r8⟩ := r6 h0
  obtain ⟨d, rfl⟩ : ∃ e, d = e + 1 := ⟨d - 1, by omega⟩; rw [sk_e205]
  have t47 : (47 + (p : Int)).toNat = 47 + p := by omega
  have t57 : (57 + (p : Int)).toNat = 57 + p := by omega
  unfold HIv
  by_cases c : a = 0
  · subst c
    rw [if_neg (kn_ne (show ((0 : Nat) : Int) = 0 from rfl)), g105_r1b hS, sj_add, g107_ab hS (by omega) (by omega), t47, r6, g105_ob hS, m154 (by omega) hS hR hV hp h0, sk_ci_some, sj_add, if_pos rfl]
  · rw [if_pos (ky_ne (by omega) (by omega) (by omega) (by omega) (by omega)), g105_r1b hS, sj_add, g107_ab hS (by omega) (by omega), t57, r7, g105_ob hS, m155 (by omega) hS hR hV hp h0, sk_ci_some, sj_add, if_neg c]
/-- the labels of the reference, by part -/
def LR (K w : sk_H) : Prop := ∀ p : Nat, (p : Int) < w 0 1 → 0 ≤ K 115 p ∧ K 115 p ≤ 1000
def ctR (K w : sk_H) (a p : Nat) (x : Int) : Prop := ∀ q : Nat, (q : Int) < w 0 1 → lyB w q = true → K 115 q = K 115 p → ¬ (LOv w a q < x ∧ x < HIv w a q)
theorem m206 {d : Nat} (hd : 4 ≤ d) (hS : sk_G S) (hR : RP I 107 v) (hV : VO v) (hL : LR I v) {a : Nat} (ha : a < 2) {p : Nat} (hp : (p : Int) < v 0 1) {x : Int} (x1 : 0 ≤ x) (x2 : x ≤ 2000) : ∃ b, sk_c d 206 [.ref 105, .int (sj (p : Int)), .int (sj (a : Int)), .int (sj x)] (sk_mk S I) = some (some (.int (sj (bi b))), sk_mk S I) ∧ (b = true ↔ ctR I v a p x) := by
  have n3 := hV.1.2.2.1
  have n4 := hV.1.2.2.2.1
  have z1 : (1 : Int).toNat = 1 := rfl
  have c0 : I 107 1 = v 0 1 := hR.1 1 (by omega)
  obtain ⟨N, hN⟩ : ∃ N : Nat, v 0 1 = N := ⟨(v 0 1).toNat, by omega⟩
  obtain ⟨d, rfl⟩ : ∃ e, d = e + 1 := ⟨d - 1, by omega⟩; rw [sk_e206]
  have key : ∀ m q, q + m = N → (∀ k : Nat, k < q → lyB v k = true → I 115 k = I 115 p → ¬ (LOv v a k < x ∧ x < HIv v a k)) → ∃ b, sk_D206 d 3 [some (.ref 105), some (.int (sj (p : Int))), some (.int (sj (a : Int))), some (.int (sj x)), some (.int (sj (q : Int)))] [] (sk_mk S I) = some (some (.int (sj (bi b))), sk_mk S I) ∧ (b = true ↔ ctR I v a p x) := by
    intro m
    induction m with
    | zero =>
      intro q hq h
      refine ⟨true, ?_, fun _ k hk => h k (by omega), fun _ => rfl⟩
      rw [sk_e206_3, g105_r1b hS, g107_ab hS (by omega) (by omega), z1, c0, if_pos (ky_ge (by omega) (by omega) (by omega) (by omega) (by omega))]
      rfl
    | succ m ih =>
      intro q hq h
      have hq2 : (q : Int) < v 0 1 := by omega
      have t2 : (q : Int) + 1 = ((q + 1 : Nat) : Int) := rfl
      have t77 : (77 + (q : Int)).toNat = 77 + q := by omega
      have r5 := (hR.2.1 q hq2).2.2.2.2.1
      obtain ⟨q1, q2, q3, q4, q5, q6, q7, q8, q9, q10, -⟩ := vo_p hV hq2
      have lq := hL q hq2
      have lp := hL p hp
      have nx := fun (hh : lyB v q = true → I 115 q = I 115 p → ¬ (LOv v a q < x ∧ x < HIv v a q)) => ih (q + 1) (by omega) (fun k hk => by
        by_cases f : k = q
        · rw [f]; exact hh
        · exact h k (by omega))
      rw [sk_e206_3, g105_r1b hS, g107_ab hS (by omega) (by omega), z1, c0, if_neg (kn_ge (by omega) (by omega) (by omega) (by omega) (by omega)), g105_r1b hS, sj_add, g107_ab hS (by omega) (by omega), t77, r5]
      by_cases c : v 5 q = 0
      · rw [if_pos (ky_eq c), sj_add, t2]
        exact nx (fun hl => absurd c (of_decide_eq_true hl))
      have hl : lyB v q = true := decide_eq_true c
      have rg := LH_rng hV a hl hq2
      rw [if_neg (kn_eq (by omega) (by omega) (by omega) (by omega) c), g105_r14b hS, g115_ab hS (by omega) (by omega), Int.toNat_natCast, g105_r14b hS, g115_ab hS (by omega) (by omega), Int.toNat_natCast]
      by_cases c1 : I 115 q = I 115 p
      rotate_left
      · rw [if_pos (ky_ne (by omega) (by omega) (by omega) (by omega) c1), sj_add, t2]
        exact nx (fun _ e => absurd e c1)
      rw [if_neg (kn_ne c1), g105_ob hS, m204 (by omega) hS hR hV ha hq2 hl, sk_ci_some]
      by_cases c2 : x ≤ LOv v a q
      · rw [if_pos (ky_ge (by omega) (by omega) (by omega) (by omega) c2), sj_add, t2]
        exact nx (fun _ _ e => by omega)
      rw [if_neg (kn_ge (by omega) (by omega) (by omega) (by omega) (by omega)), g105_ob hS, m205 (by omega) hS hR hV ha hq2 hl, sk_ci_some]
      by_cases c3 : HIv v a q ≤ x
      · rw [if_pos (ky_le (by omega) (by omega) (by omega) (by omega) c3), sj_add, t2]
        exact nx (fun _ _ e => by omega)
      rw [if_neg (kn_le (by omega) (by omega) (by omega) (by omega) (by omega))]
      exact ⟨false, rfl, fun e => (by cases e), fun e => absurd ⟨by omega, by omega⟩ (e q hq2 hl c1)⟩
  exact key N 0 (by omega) (fun k hk => absurd hk (by omega))
def paR (K w : sk_H) (a p q : Nat) : Prop := ∃ x : Int, (HIv w a p ≤ x ∨ HIv w a q ≤ x) ∧ (x ≤ LOv w a p ∨ x ≤ LOv w a q) ∧ ctR K w a p x
theorem m207 {d : Nat} (hd : 5 ≤ d) (hS : sk_G S) (hR : RP I 107 v) (hV : VO v) (hL : LR I v) {a : Nat} (ha : a < 2) {p q : Nat} (hp : (p : Int) < v 0 1) (hq : (q : Int) < v 0 1) (lp : lyB v p = true) (lq : lyB v q = true) : ∃ b, sk_c d 207 [.ref 105, .int (sj (p : Int)), .int (sj (q : Int)), .int (sj (a : Int))] (sk_mk S I) = some (some (.int (sj (bi b))), sk_mk S I) ∧ (b = true ↔ paR I v a p q) := by
  have rp := LH_rng hV a lp hp
  have rq := LH_rng hV a lq hq
  obtain ⟨d, rfl⟩ : ∃ e, d = e + 1 := ⟨d - 1, by omega⟩; rw [sk_e207]
  rw [g105_ob hS, m205 (by omega) hS hR hV ha hp lp, sk_ci_some, g105_ob hS, m205 (by omega) hS hR hV ha hq lq, sk_ci_some, m240 (by omega) (by omega) (by omega) (by omega) (by omega), sk_ci_some, g105_ob hS, m204 (by omega) hS hR hV ha hp lp, sk_ci_some, g105_ob hS, m204 (by omega) hS hR hV ha hq lq, sk_ci_some, m239 (by omega) (by omega) (by omega) (by omega) (by omega), sk_ci_some]
  obtain ⟨lo, hlo⟩ : ∃ lo, lo = (if HIv v a q < HIv v a p then HIv v a q else HIv v a p) := ⟨_, rfl⟩
  obtain ⟨up, hup⟩ : ∃ up, up = (if LOv v a p < LOv v a q then LOv v a q else LOv v a p) := ⟨_, rfl⟩
  rw [← hlo, ← hup]
  have l1 : 0 ≤ lo ∧ lo ≤ 1000 := by rw [hlo]; split <;> omega
  have u1 : 0 ≤ up ∧ up ≤ 1000 := by rw [hup]; split <;> omega
  have lz : ∀ x, lo ≤ x ↔ (HIv v a p ≤ x ∨ HIv v a q ≤ x) := fun x => by rw [hlo]; split <;> omega
  have uz : ∀ x, x ≤ up ↔ (x ≤ LOv v a p ∨ x ≤ LOv v a q) := fun x => by rw [hup]; split <;> omega
  have key : ∀ (m : Nat) (x : Int) (o2 o4 : Option Value), lo ≤ x → x ≤ 1001 → up + 1 - x ≤ m → (∀ y, lo ≤ y → y < x → ¬ ctR I v a p y) → ∃ b, sk_D207 d 38 [some (.ref 105), some (.int (sj (p : Int))), o2, some (.int (sj (a : Int))), o4, some (.int (sj up)), some (.int (sj x))] [] (sk_mk S I) = some (some (.int (sj (bi b))), sk_mk S I) ∧ (b = true ↔ paR I v a p q) := by
    intro m
    induction m with
    | zero =>
      intro x o2 o4 h1 h2 h3 h4
      refine ⟨false, ?_, fun e => (by cases e), fun ⟨y, y1, y2, y3⟩ => absurd y3 (h4 y ((lz y).mpr y1) (by have := (uz y).mpr y2; omega))⟩
      rw [sk_e207_38, if_pos (ky_gt (by omega) (by omega) (by omega) (by omega) (by omega))]
      rfl
    | succ m ih =>
      intro x o2 o4 h1 h2 h3 h4
      rw [sk_e207_38]
      by_cases c : up < x
      · refine ⟨false, ?_, fun e => (by cases e), fun ⟨y, y1, y2, y3⟩ => absurd y3 (h4 y ((lz y).mpr y1) (by have := (uz y).mpr y2; omega))⟩
        rw [if_pos (ky_gt (by omega) (by omega) (by omega) (by omega) c)]
        rfl
      obtain ⟨b, e, hb⟩ := m206 (d := d) (by omega) hS hR hV hL ha hp (x := x) (by omega) (by omega)
      rw [if_neg (kn_gt (by omega) (by omega) (by omega) (by omega) (by omega)), g105_ob hS, e, sk_ci_some]
      cases b with
      | false =>
        rw [if_pos cf_beq, sj_add]
        refine ih (x + 1) o2 o4 (by omega) (by omega) (by omega) (fun y y1 y2 => ?_)
        by_cases f : y = x
        · rw [f]; intro h; cases hb.mpr h
        · exact h4 y y1 (by omega)
      | true =>
        rw [if_neg ct_beq]
        exact ⟨true, rfl, fun _ => ⟨x, (lz x).mp h1, (uz x).mp (by omega), hb.mp rfl⟩, fun _ => rfl⟩
  exact key (up + 1 - lo).toNat lo _ _ (Int.le_refl _) (by omega) (by omega) (fun y y1 y2 => by omega)
/-- by part and by place: alike -/
def RLq (K w : sk_H) (lab : Nat → Int) : Prop := ∀ p q : Nat, (p : Int) < w 0 1 → (q : Int) < w 0 1 → lyB w p = true → lyB w q = true → (K 115 p = K 115 q ↔ lab (lyC w p) = lab (lyC w q))
theorem ct_fr {K w : sk_H} {lab : Nat → Int} (h : RLq K w lab) {a p : Nat} (hp : (p : Int) < w 0 1) (lp : lyB w p = true) {x : Int} : ctR K w a p x ↔ frC (layN w) (loW w a) (hiW w a) lab (lab (lyC w p)) x := by
  constructor
  · intro c k hk e
    obtain ⟨q, q1, q2, rfl⟩ := lyC_sur w _ k hk
    have hq : (q : Int) < w 0 1 := by omega
    rw [lo_at w a q2 hq, hi_at w a q2 hq]
    exact c q hq q2 ((h q p hq hp q2 lp).mpr e)
  · intro c q hq lq e
    have := c (lyC w q) (lyC_lt w (by omega) lq) ((h q p hq hp lq lp).mp e)
    rw [lo_at w a lq hq, hi_at w a lq hq] at this
    exact this
theorem pa_pt {K w : sk_H} {lab : Nat → Int} (h : RLq K w lab) {a p q : Nat} (hp : (p : Int) < w 0 1) (hq : (q : Int) < w 0 1) (lp : lyB w p = true) (lq : lyB w q = true) : paR K w a p q ↔ ptC (layN w) (loW w a) (hiW w a) lab (lyC w p) (lyC w q) := by
  unfold paR ptC
  rw [lo_at w a lp hp, hi_at w a lp hp, lo_at w a lq hq, hi_at w a lq hq]
  exact exists_congr fun x => and_congr_right fun _ => and_congr_right fun _ => ct_fr h hp lp
end PAR
