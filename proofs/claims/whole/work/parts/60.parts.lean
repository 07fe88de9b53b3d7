/-! ===== parts ===== -/
section PAR
variable {S : List sk_Sh} {I J v : sk_H} {B : Nat → Int} {n i : Nat}
def adV (v : sk_H) (t : Nat → Int) : sk_H := fun s k => if s = 0 then (if k = 1 then v 0 1 + 1 else v 0 k) else if k = (v 0 1).toNat ∧ (s ≤ 8 ∨ s = 15 ∨ s = 16) then (if s ≤ 4 then t (s - 1) else 0) else v s k
def adN (v : sk_H) (E : Nat → Nat → Int) : Nat → sk_H
  | 0 => v
  | q + 1 => adV (adN v E q) (E q)
theorem adV_0 (v : sk_H) (t : Nat → Int) (k : Nat) : adV v t 0 k = if k = 1 then v 0 1 + 1 else v 0 k := if_pos rfl
theorem adV_s (v : sk_H) (t : Nat → Int) {s : Nat} (k : Nat) (h0 : s ≠ 0) (h : s ≤ 8 ∨ s = 15 ∨ s = 16) : adV v t s k = if k = (v 0 1).toNat then (if s ≤ 4 then t (s - 1) else 0) else v s k := by
  unfold adV
  rw [if_neg h0]
  by_cases c : k = (v 0 1).toNat
  · rw [if_pos ⟨c, h⟩, if_pos c]
  · rw [if_neg (fun e => c e.1), if_neg c]
theorem adV_o (v : sk_H) (t : Nat → Int) {s : Nat} (k : Nat) (h0 : s ≠ 0) (h : ¬ (s ≤ 8 ∨ s = 15 ∨ s = 16)) : adV v t s k = v s k := by
  unfold adV
  rw [if_neg h0, if_neg (fun e => h e.2)]
theorem adV_q (v : sk_H) (t : Nat → Int) {s k : Nat} (h0 : s ≠ 0) (hk : k ≠ (v 0 1).toNat) : adV v t s k = v s k := by
  unfold adV
  rw [if_neg h0, if_neg (fun e => hk e.1)]
theorem adV_congr {v : sk_H} {t t' : Nat → Int} (h : ∀ f, f < 4 → t f = t' f) : adV v t = adV v t' := by
  funext s k
  unfold adV
  by_cases c : s = 0
  · rw [if_pos c, if_pos c]
  · rw [if_neg c, if_neg c]
    by_cases e : s ≤ 4
    · rw [if_pos e, if_pos e, h (s - 1) (by omega)]
    · rw [if_neg e, if_neg e]
theorem VT_adV {v : sk_H} (hT : VT v) {t : Nat → Int} (h9 : v 0 1 < 10) (t1 : 0 ≤ t 0) (t2 : t 0 ≤ 5) (t3 : 1 ≤ t 1) (t4 : t 1 ≤ v 0 0) (t5 : 1 ≤ t 2) (t6 : t 2 ≤ 9) (t7 : 1 ≤ t 3) (t8 : t 3 ≤ 9) : VT (adV v t) := by
  obtain ⟨⟨hN, hP, hD, hE, hW⟩, hL, hC⟩ := hT
  obtain ⟨n1, n2, n3, n4, n5, n6, n7, n8, n9, n10, n11, n12⟩ := hN
  have z := fun k (hk : k ≠ 1) => (adV_0 v t k).trans (if_neg hk)
  have z1 : adV v t 0 1 = v 0 1 + 1 := (adV_0 v t 1).trans (if_pos rfl)
  have o := fun s k (h : s = 9 ∨ s = 10 ∨ s = 11 ∨ s = 12 ∨ s = 13 ∨ s = 14) => adV_o v t (s := s) k (by omega) (by omega)
  have of : ∀ s, (s = 9 ∨ s = 10 ∨ s = 11 ∨ s = 12 ∨ s = 13 ∨ s = 14) → adV v t s = v s := fun s h => funext fun k => o s k h
  refine ⟨⟨?_, ?_, ?_, ?_, ?_⟩, ?_, ?_⟩
  · unfold VN
    rw [z1, z 0 (by omega), z 2 (by omega), z 3 (by omega), z 4 (by omega), z 5 (by omega)]
    omega
  · intro p hp
    rw [z1] at hp
    by_cases c : p = (v 0 1).toNat
    · have e := fun s h0 h => (adV_s v t (s := s) p h0 h).trans (if_pos c)
      unfold VP
      rw [z 0 (by omega), e 1 (by omega) (by omega), e 2 (by omega) (by omega), e 3 (by omega) (by omega), e 4 (by omega) (by omega), e 5 (by omega) (by omega), e 8 (by omega) (by omega), if_pos (by omega), if_pos (by omega), if_pos (by omega), if_pos (by omega), if_neg (by omega), if_neg (by omega)]
      exact ⟨t1, t2, t3, t4, t5, t6, t7, t8, by omega, by omega, Or.inl rfl, fun h => absurd rfl h, fun h => absurd h (by decide)⟩
    · have q := hP p (by omega)
      have e := fun s h0 => adV_q v t (s := s) (k := p) h0 c
      unfold VP acr tal at q ⊢
      rw [z 0 (by omega), e 1 (by omega), e 2 (by omega), e 3 (by omega), e 4 (by omega), e 5 (by omega), e 6 (by omega), e 7 (by omega), e 8 (by omega), e 15 (by omega), e 16 (by omega)]
      exact q
  · unfold VD at hD ⊢
    rw [z 2 (by omega), z1, of 9 (by omega)]
    refine ⟨fun k hk => ?_, hD.2⟩
    obtain ⟨d1, d2, d3⟩ := hD.1 k hk
    rw [adV_q v t (by omega) (by omega)]
    exact ⟨d1, by omega, d3⟩
  · unfold VE at hE ⊢
    rw [z 0 (by omega), of 10 (by omega)]
    exact hE
  · unfold VW at hW ⊢
    rw [z 5 (by omega), z 0 (by omega), of 11 (by omega), of 12 (by omega), of 13 (by omega), of 14 (by omega)]
    exact hW
  all_goals
    have el : ldN (adV v t) = ldN v := by
      unfold ldN
      rw [z1, show (v 0 1 + 1).toNat = (v 0 1).toNat + 1 by omega, cntTo_succ, adV_s v t _ (by omega) (by omega), if_pos rfl, if_neg (by rw [if_neg (by omega)]; decide)]
      rw [cnt_sum, cnt_sum]
      refine sumTo_congr fun k hk => ?_
      rw [adV_q v t (by omega) (by omega)]
  · rw [el, z 0 (by omega), of 10 (by omega)]
    exact hL
  · have es : segN (adV v t) = segN v := by
      unfold segN
      rw [z 0 (by omega), of 10 (by omega)]
    rw [el, es, z 5 (by omega), z 0 (by omega), of 10 (by omega)]
    exact hC
theorem RP_adV (hV : VO v) (hR : RP I 107 v) {t : Nat → Int} {p : Nat} (hp : v 0 1 = p) (h9 : p < 10) : RP (u2 (u2 (u2 (u2 (u2 (u2 (u2 I 107 (7 + p) (t 0)) 107 (17 + p) (t 1)) 107 (27 + p) (t 2)) 107 (37 + p) (t 3)) 107 (77 + p) 0) 107 (67 + p) 0) 107 1 (p + 1)) 107 (adV v t) := by
  obtain ⟨n1, n2, n3, n4, n5, n6, n7, n8, n9, n10, n11, n12⟩ := hV.1
  have z := fun k (hk : k ≠ 1) => (adV_0 v t k).trans (if_neg hk)
  have z1 : adV v t 0 1 = v 0 1 + 1 := (adV_0 v t 1).trans (if_pos rfl)
  have o := fun s k (h : s = 9 ∨ s = 10 ∨ s = 11 ∨ s = 12 ∨ s = 13 ∨ s = 14) => adV_o v t (s := s) k (by omega) (by omega)
  have hpt : (v 0 1).toNat = p := by omega
  obtain ⟨r0, r1, r2, r3, r4⟩ := hR
  have f := fun k (h : k ≠ 1 ∧ k ≠ 7 + p ∧ k ≠ 17 + p ∧ k ≠ 27 + p ∧ k ≠ 37 + p ∧ k ≠ 77 + p ∧ k ≠ 67 + p) => (by rw [u2_ne _ _ (by omega), u2_ne _ _ (by omega), u2_ne _ _ (by omega), u2_ne _ _ (by omega), u2_ne _ _ (by omega), u2_ne _ _ (by omega), u2_ne _ _ (by omega)] : (u2 (u2 (u2 (u2 (u2 (u2 (u2 I 107 (7 + p) (t 0)) 107 (17 + p) (t 1)) 107 (27 + p) (t 2)) 107 (37 + p) (t 3)) 107 (77 + p) 0) 107 (67 + p) 0) 107 1 (p + 1)) 107 k = I 107 k)
  refine ⟨fun k hk => ?_, fun q hq => ?_, fun k hk => ?_, fun c hc => ?_, fun k hk => ?_⟩
  · by_cases c : k = 1
    · subst c; rw [u2_eq, z1, hp]
    · rw [z k c, f k (by omega)]; exact r0 k hk
  · rw [z1] at hq
    by_cases c : q = p
    · subst c
      have e := fun s h0 h => (adV_s v t (s := s) q h0 h).trans (if_pos hpt.symm)
      rw [e 1 (by omega) (by omega), e 2 (by omega) (by omega), e 3 (by omega) (by omega), e 4 (by omega) (by omega), e 5 (by omega) (by omega), if_pos (by omega), if_pos (by omega), if_pos (by omega), if_pos (by omega), if_neg (by omega)]
      refine ⟨?_, ?_, ?_, ?_, ?_, fun h => absurd rfl h⟩
      · rw [u2_ne _ _ (by omega), u2_ne _ _ (by omega), u2_ne _ _ (by omega), u2_ne _ _ (by omega), u2_ne _ _ (by omega), u2_ne _ _ (by omega), u2_eq]
      · rw [u2_ne _ _ (by omega), u2_ne _ _ (by omega), u2_ne _ _ (by omega), u2_ne _ _ (by omega), u2_ne _ _ (by omega), u2_eq]
      · rw [u2_ne _ _ (by omega), u2_ne _ _ (by omega), u2_ne _ _ (by omega), u2_ne _ _ (by omega), u2_eq]
      · rw [u2_ne _ _ (by omega), u2_ne _ _ (by omega), u2_ne _ _ (by omega), u2_eq]
      · rw [u2_ne _ _ (by omega), u2_ne _ _ (by omega), u2_eq]
    · have e := fun s h0 => adV_q v t (s := s) (k := q) h0 (by omega)
      rw [e 1 (by omega), e 2 (by omega), e 3 (by omega), e 4 (by omega), e 5 (by omega), e 6 (by omega), e 7 (by omega), e 8 (by omega), f (7 + q) (by omega), f (17 + q) (by omega), f (27 + q) (by omega), f (37 + q) (by omega), f (77 + q) (by omega), f (47 + q) (by omega), f (57 + q) (by omega), f (67 + q) (by omega)]
      exact r1 q (by omega)
  · rw [z 2 (by omega)] at hk
    rw [o 9 k (by omega), f (87 + k) (by omega)]
    exact r2 k hk
  · rw [z 0 (by omega)] at hc
    rw [o 10 c (by omega), f (97 + c) (by omega)]
    exact r3 c hc
  · rw [z 5 (by omega)] at hk
    rw [o 11 k (by omega), o 12 k (by omega), o 13 k (by omega), o 14 k (by omega), f (117 + 4 * k) (by omega), f (118 + 4 * k) (by omega), f (119 + 4 * k) (by omega), f (120 + 4 * k) (by omega)]
    exact r4 k hk
theorem vC_adV {p q : Nat} (h9 : p < 10) (hp : I 15 5 = p) (h4 : ∀ j, 4 ≤ j → j < 10 → I (5 + q) j = 0) {x : sk_H} (hx : ∀ j, x (15 + 9 + p) j = if j < 10 then I (5 + q) j else I (15 + 9 + p) j) (hf : ∀ c, c ≠ 15 + 9 + p → x c = I c) : vC (u2 x 15 5 (p + 1)) 15 = adV (vC I 15) (fun f => I (5 + q) f) := by
  funext s k
  have hp0 : (vC I 15) 0 1 = p := hp
  have hpt : ((vC I 15) 0 1).toNat = p := by omega
  have key : ∀ (j : Nat) (y : Int), j < 10 → y = I (5 + q) j → (if k < 10 then (u2 x 15 5 (p + 1)) (15 + 9 + k) j else 0) = if k = ((vC I 15) 0 1).toNat then y else (if k < 10 then I (15 + 9 + k) j else 0) := by
    intro j y hj hy
    rw [hpt]
    by_cases e : k = p
    · subst e
      rw [if_pos h9, if_pos rfl, u2_ne _ _ (by omega), hx, if_pos hj, hy]
    · rw [if_neg e]
      by_cases c : k < 10
      · rw [if_pos c, if_pos c, u2_ne _ _ (by omega), hf _ (by omega)]
      · rw [if_neg c, if_neg c]
  have far : ∀ c j, c ≠ 15 + 9 + p → c ≠ 15 → (u2 x 15 5 (p + 1)) c j = I c j := fun c j h1 h2 => by rw [u2_ne _ _ (by omega), hf c h1]
  match s with
  | 0 =>
    rw [adV_0]
    show (if k = 5 then (u2 x 15 5 (p + 1)) (15 + 4) 4 else (u2 x 15 5 (p + 1)) 15 (4 + k)) = _
    by_cases c : k = 5
    · rw [if_pos c, if_neg (by omega), far _ _ (by omega) (by omega)]
      exact (if_pos c).symm
    · rw [if_neg c]
      by_cases e : k = 1
      · subst e
        rw [if_pos rfl, hp0]
        exact u2_eq _ _ _ _
      · rw [if_neg e, u2_ne _ _ (by omega), hf _ (by omega)]
        exact (if_neg c).symm
  | 1 => rw [adV_s _ _ _ (by omega) (by omega)]; exact key 0 _ (by omega) (if_pos (by omega))
  | 2 => rw [adV_s _ _ _ (by omega) (by omega)]; exact key 1 _ (by omega) (if_pos (by omega))
  | 3 => rw [adV_s _ _ _ (by omega) (by omega)]; exact key 2 _ (by omega) (if_pos (by omega))
  | 4 => rw [adV_s _ _ _ (by omega) (by omega)]; exact key 3 _ (by omega) (if_pos (by omega))
  | 5 => rw [adV_s _ _ _ (by omega) (by omega)]; exact key 4 _ (by omega) ((if_neg (by omega)).trans (h4 4 (by omega) (by omega)).symm)
  | 6 => rw [adV_s _ _ _ (by omega) (by omega)]; exact key 5 _ (by omega) ((if_neg (by omega)).trans (h4 5 (by omega) (by omega)).symm)
  | 7 => rw [adV_s _ _ _ (by omega) (by omega)]; exact key 6 _ (by omega) ((if_neg (by omega)).trans (h4 6 (by omega) (by omega)).symm)
  | 8 => rw [adV_s _ _ _ (by omega) (by omega)]; exact key 7 _ (by omega) ((if_neg (by omega)).trans (h4 7 (by omega) (by omega)).symm)
  | 9 => rw [adV_o _ _ _ (by omega) (by omega)]; exact far _ _ (by omega) (by omega)
  | 10 => rw [adV_o _ _ _ (by omega) (by omega)]; exact far _ _ (by omega) (by omega)
  | 11 => rw [adV_o _ _ _ (by omega) (by omega)]; exact far _ _ (by omega) (by omega)
  | 12 => rw [adV_o _ _ _ (by omega) (by omega)]; exact far _ _ (by omega) (by omega)
  | 13 => rw [adV_o _ _ _ (by omega) (by omega)]; exact far _ _ (by omega) (by omega)
  | 14 => rw [adV_o _ _ _ (by omega) (by omega)]; exact far _ _ (by omega) (by omega)
  | 15 => rw [adV_s _ _ _ (by omega) (by omega)]; exact key 8 _ (by omega) ((if_neg (by omega)).trans (h4 8 (by omega) (by omega)).symm)
  | 16 => rw [adV_s _ _ _ (by omega) (by omega)]; exact key 9 _ (by omega) ((if_neg (by omega)).trans (h4 9 (by omega) (by omega)).symm)
  | _ + 17 => rw [adV_o _ _ _ (by omega) (by omega)]; rfl
/-- all of the items that the plan takes -/
def EI (J : sk_H) : Nat → Nat → Int := fun q f => J (5 + q) f
def OKE (v : sk_H) (E : Nat → Nat → Int) (T : Nat) : Prop := ∀ q, q < T → 0 ≤ E q 0 ∧ E q 0 ≤ 5 ∧ 1 ≤ E q 1 ∧ E q 1 ≤ v 0 0 ∧ 1 ≤ E q 2 ∧ E q 2 ≤ 9 ∧ 1 ≤ E q 3 ∧ E q 3 ≤ 9
theorem adN_0 (v : sk_H) (E : Nat → Nat → Int) (q : Nat) : adN v E q 0 1 = v 0 1 + q ∧ adN v E q 0 0 = v 0 0 := by
  induction q with
  | zero => exact ⟨by show v 0 1 = v 0 1 + ((0 : Nat) : Int); omega, rfl⟩
  | succ q ih =>
    refine ⟨?_, ?_⟩
    · show adV (adN v E q) (E q) 0 1 = _
      rw [adV_0, if_pos rfl, ih.1]; omega
    · show adV (adN v E q) (E q) 0 0 = _
      rw [adV_0, if_neg (by omega), ih.2]
theorem VT_adN {v : sk_H} (hT : VT v) {E : Nat → Nat → Int} {T : Nat} (hE : OKE v E T) (h10 : v 0 1 + T ≤ 10) : ∀ q, q ≤ T → VT (adN v E q) := by
  intro q
  induction q with
  | zero => intro _; exact hT
  | succ q ih =>
    intro hq
    obtain ⟨a1, a2⟩ := adN_0 v E q
    obtain ⟨e1, e2, e3, e4, e5, e6, e7, e8⟩ := hE q (by omega)
    exact VT_adV (ih (by omega)) (by omega) e1 e2 e3 (by omega) e5 e6 e7 e8
theorem c104 {d : Nat} (hd : 2 ≤ d) (hS : sk_G S) (hv : vC J 15 = v) (hT : VT v) {T : Nat} (hE : OKE v (EI J) T) (h10 : v 0 1 + T ≤ 10) (h4 : ∀ q, q < 10 → ∀ j, 4 ≤ j → j < 10 → J (5 + q) j = 0) : ∃ J', sk_D104 d 48 [some (.ref 1), some (.int (sj (T : Int))), some (.int (sj 0))] [] (sk_mk S J) = some (some (.int (sj (v 0 1 + T))), sk_mk S J') ∧ vC J' 15 = adN v (EI J) T ∧ ∀ b, ¬ (15 ≤ b ∧ b < 34) → J' b = J b := by
  have ha : sk_isP 15 := Or.inl rfl
  have n3 := hT.1.1.2.2.1
  have key := lp_run (fun q (X : Option sk_R) => ∃ K, X = sk_D104 d 48 [some (.ref 1), some (.int (sj (T : Int))), some (.int (sj (q : Int)))] [] (sk_mk S K) ∧ vC K 15 = adN v (EI J) q ∧ ∀ b, ¬ (15 ≤ b ∧ b < 34) → K b = J b) T (fun q X hq hX => by
    obtain ⟨K, rfl, k1, k2⟩ := hX
    obtain ⟨a1, a2⟩ := adN_0 v (EI J) q
    have t2 : (q : Int) + 1 = ((q + 1 : Nat) : Int) := rfl
    have h5 : K 15 5 = v 0 1 + q := (vc5 k1).trans a1
    obtain ⟨p, hp⟩ : ∃ p : Nat, v 0 1 + q = p := ⟨(v 0 1 + q).toNat, by omega⟩
    rw [hp] at h5
    have hq5 : K (5 + q) = J (5 + q) := k2 _ (by omega)
    obtain ⟨x, ex, x1, x2⟩ := m26 (S := S) (I := K) (d := d) (by omega) (x := 15 + 9 + p) (y := 2 + 3 + q) (sh_pt hS ha (by omega)) (sh_ti hS (by omega)) (by omega) (Or.inl (by rw [show 2 + 3 + q = 5 + q by omega, hq5]; exact h4 q (by omega) 7 (by omega) (by omega)))
    have x15 : x 15 5 = p := by rw [x2 15 (by omega)]; exact h5
    refine ⟨u2 x 15 5 (p + 1), ?_, ?_, fun b hb => ?_⟩
    · rw [sk_e104_48, if_neg (kn_ge (by omega) (by omega) (by omega) (by omega) (by omega)), g1_r1b hS, pl_r0b hS ha, g1_r1b hS, pl_i5b hS ha, h5, pl_pb hS ha (by omega) (by omega), Int.toNat_natCast, g1_r0b hS, g2_r2b hS, g4_qb hS (by omega) (by omega), Int.toNat_natCast, pq_ob hS ha (by omega), ex, sk_cv_some, g1_r1b hS, pl_i5b hS ha, x15, sj_add, pl_u5b hS ha, sj_add, t2]
    · have h := vC_adV (I := K) (p := p) (q := q) (by omega) h5 (fun j j1 j2 => by rw [hq5]; exact h4 q (by omega) j j1 j2) (x := x) (fun j => by rw [x1 j, show 2 + 3 + q = 5 + q by omega]) x2
      rw [h, k1, hq5]
      rfl
    · rw [show (u2 x 15 5 (p + 1)) b = x b from funext fun k => u2_ne _ _ (by omega), x2 b (by omega)]
      exact k2 b hb) ⟨J, rfl, hv, fun _ _ => rfl⟩
  obtain ⟨K, e, k1, k2⟩ := key
  refine ⟨K, e.trans ?_, k1, k2⟩
  obtain ⟨a1, a2⟩ := adN_0 v (EI J) T
  rw [sk_e104_48, if_pos (ky_ge (by omega) (by omega) (by omega) (by omega) (by omega)), g1_r1b hS, pl_i5b hS ha, vc5 k1, a1]
/-- the reference adds one -/
theorem r164_80 {d : Nat} (hS : sk_G S) {u : sk_H} (hV : VO u) (hR : RP J 107 u) (h9 : u 0 1 < 10) {g : Nat → Nat → Int} {N j : Nat} (hj : j < N) (hN : N ≤ 60) (hI : RIT J g N) {c : Nat} (hc : (c : Int) < g j 4) (hc2 : g j 4 ≤ 9) (o1 o2 o5 : Option Value) : ∃ J' o5', sk_D164 d 80 [some (.ref 105), o1, o2, some (.int (sj (j : Int))), some (.int (sj (c : Int))), o5] [] (sk_mk S J) = sk_D164 d 80 [some (.ref 105), o1, o2, some (.int (sj (j : Int))), some (.int (sj ((c + 1 : Nat) : Int))), o5'] [] (sk_mk S J') ∧ RP J' 107 (adV u (g j)) ∧ ∀ b, b ≠ 107 → J' b = J b := by
  have n3 := hV.1.2.2.1
  obtain ⟨p, hp⟩ : ∃ p : Nat, u 0 1 = p := ⟨(u 0 1).toNat, by omega⟩
  have hp9 : p < 10 := by omega
  have z1 : (1 : Int).toNat = 1 := rfl
  have q1 : J 107 1 = p := (hR.1 1 (by omega)).trans hp
  have i0 : J 111 (5 * (j : Int)).toNat = g j 0 := by rw [show (5 * (j : Int)).toNat = 5 * j + 0 by omega]; exact hI.2 j hj 0 (by omega)
  have i1 : J 111 (5 * (j : Int) + 1).toNat = g j 1 := by rw [show (5 * (j : Int) + 1).toNat = 5 * j + 1 by omega]; exact hI.2 j hj 1 (by omega)
  have i2 : J 111 (5 * (j : Int) + 2).toNat = g j 2 := by rw [show (5 * (j : Int) + 2).toNat = 5 * j + 2 by omega]; exact hI.2 j hj 2 (by omega)
  have i3 : J 111 (5 * (j : Int) + 3).toNat = g j 3 := by rw [show (5 * (j : Int) + 3).toNat = 5 * j + 3 by omega]; exact hI.2 j hj 3 (by omega)
  have i4 : J 111 (5 * (j : Int) + 4).toNat = g j 4 := by rw [show (5 * (j : Int) + 4).toNat = 5 * j + 4 by omega]; exact hI.2 j hj 4 (by omega)
  have t7 : (7 + (p : Int)).toNat = 7 + p := by omega
  have t17 : (17 + (p : Int)).toNat = 17 + p := by omega
  have t27 : (27 + (p : Int)).toNat = 27 + p := by omega
  have t37 : (37 + (p : Int)).toNat = 37 + p := by omega
  have t77 : (77 + (p : Int)).toNat = 77 + p := by omega
  have t67 : (67 + (p : Int)).toNat = 67 + p := by omega
  have hR' := RP_adV hV hR (t := g j) hp hp9
  refine ⟨_, some (.int (sj (p : Int))), ?_, hR', fun b hb => funext fun k => ?_⟩
  · rw [sk_e164_80, g105_r5b hS, sj_mul, sj_add, g111_ab hS (by omega) (by omega), i4, if_neg (kn_ge (by omega) (by omega) (by omega) (by omega) (by omega)), g105_r1b hS, g107_ab hS (by omega) (by omega), z1, q1]
    rw [g105_r1b hS, g105_r5b hS, g111_ab hS (by omega) (by omega), i0, sj_add, g107_sb hS (by omega) (by omega), t7]
    rw [g105_r1b hS, g105_r5b hS, sj_add, g111_ab hS (by omega) (by omega), u2_ne _ _ (by omega), i1, sj_add, g107_sb hS (by omega) (by omega), t17]
    rw [g105_r1b hS, g105_r5b hS, sj_add, g111_ab hS (by omega) (by omega), u2_ne _ _ (by omega), u2_ne _ _ (by omega), i2, sj_add, g107_sb hS (by omega) (by omega), t27]
    rw [g105_r1b hS, g105_r5b hS, sj_add, g111_ab hS (by omega) (by omega), u2_ne _ _ (by omega), u2_ne _ _ (by omega), u2_ne _ _ (by omega), i3, sj_add, g107_sb hS (by omega) (by omega), t37]
    rw [g105_r1b hS, sj_add, g107_sb hS (by omega) (by omega), t77]
    rw [g105_r1b hS, sj_add, g107_sb hS (by omega) (by omega), t67]
    rw [g105_r1b hS, g107_ab hS (by omega) (by omega), z1, u2_ne _ _ (by omega), u2_ne _ _ (by omega), u2_ne _ _ (by omega), u2_ne _ _ (by omega), u2_ne _ _ (by omega), u2_ne _ _ (by omega), q1, sj_add, g107_sb hS (by omega) (by omega), z1, sj_add]
    rfl
  · rw [u2_ne _ _ (by omega), u2_ne _ _ (by omega), u2_ne _ _ (by omega), u2_ne _ _ (by omega), u2_ne _ _ (by omega), u2_ne _ _ (by omega), u2_ne _ _ (by omega)]
theorem r164_69 {d : Nat} (hS : sk_G S) (hT : VT v) (hR : RP J 107 v) {g E : Nat → Nat → Int} {N T : Nat} {W : Int} (hg : GG W g N) (hTT : TT g N = T) (hE : OKE v E T) (h10 : v 0 1 + T ≤ 10) (hEg : ∀ j, j < N → ∀ q : Nat, TT g j ≤ q → (q : Int) < TT g (j + 1) → ∀ f, f < 4 → E q f = g j f) (hN : N ≤ 60) (hI : RIT J g N) (o1 o2 o4 o5 : Option Value) : ∃ J', sk_D164 d 69 [some (.ref 105), o1, o2, some (.int (sj 0)), o4, o5] [] (sk_mk S J) = some (some (.int (sj (v 0 1 + T))), sk_mk S J') ∧ RP J' 107 (adN v E T) ∧ ∀ b, b ≠ 107 → J' b = J b := by
  have n3 := hT.1.1.2.2.1
  have key := lp_run (fun j (X : Option sk_R) => ∃ K o4 o5, X = sk_D164 d 69 [some (.ref 105), o1, o2, some (.int (sj (j : Int))), o4, o5] [] (sk_mk S K) ∧ RP K 107 (adN v E (TT g j).toNat) ∧ ∀ b, b ≠ 107 → K b = J b) N (fun j X hj hX => by
    obtain ⟨K, o4, o5, rfl, k1, k2⟩ := hX
    have hIK : RIT K g N := ⟨by rw [k2 105 (by omega)]; exact hI.1, fun j hj f hf => by rw [k2 111 (by omega)]; exact hI.2 j hj f hf⟩
    have tj := TT_rng (W := W) (g := g) (N := j) (fun j hj => hg j (by omega))
    have m1 := TT_mono hg (j := j + 1) (k := N) (by omega) (Nat.le_refl _)
    have es := TT_succ g j
    have gj := hg j hj
    obtain ⟨C, hC⟩ : ∃ C : Nat, g j 4 = C := ⟨(g j 4).toNat, by omega⟩
    have inner := lp_run (fun c (X : Option sk_R) => ∃ L o5, X = sk_D164 d 80 [some (.ref 105), o1, o2, some (.int (sj (j : Int))), some (.int (sj (c : Int))), o5] [] (sk_mk S L) ∧ RP L 107 (adN v E ((TT g j).toNat + c)) ∧ ∀ b, b ≠ 107 → L b = J b) C (fun c X hc hX => by
      obtain ⟨L, o5, rfl, l1, l2⟩ := hX
      have hIL : RIT L g N := ⟨by rw [l2 105 (by omega)]; exact hI.1, fun j hj f hf => by rw [l2 111 (by omega)]; exact hI.2 j hj f hf⟩
      have a := adN_0 v E ((TT g j).toNat + c)
      have hVT := VT_adN hT hE h10 ((TT g j).toNat + c) (by omega)
      obtain ⟨L', o5', e, b1, b2⟩ := r164_80 (S := S) (J := L) (d := d) hS hVT.1 l1 (by omega) hj hN hIL (c := c) (by omega) (by omega) o1 o2 o5
      refine ⟨L', o5', e, ?_, fun b hb => (b2 b hb).trans (l2 b hb)⟩
      have ec : adV (adN v E ((TT g j).toNat + c)) (g j) = adN v E ((TT g j).toNat + (c + 1)) := (adV_congr (fun f hf => (hEg j hj ((TT g j).toNat + c) (by omega) (by omega) f hf).symm)).trans rfl
      rw [← ec]
      exact b1) ⟨K, o5, rfl, k1, k2⟩
    obtain ⟨L, o5', e, l1, l2⟩ := inner
    have hIL : RIT L g N := ⟨by rw [l2 105 (by omega)]; exact hI.1, fun j hj f hf => by rw [l2 111 (by omega)]; exact hI.2 j hj f hf⟩
    have t2 : (j : Int) + 1 = ((j + 1 : Nat) : Int) := rfl
    have i4 : L 111 (5 * (j : Int) + 4).toNat = g j 4 := by rw [show (5 * (j : Int) + 4).toNat = 5 * j + 4 by omega]; exact hIL.2 j hj 4 (by omega)
    refine ⟨L, some (.int (sj (C : Int))), o5', ?_, ?_, l2⟩
    · rw [sk_e164_69, g105_i6b hS, hIK.1, if_neg (kn_ge (by omega) (by omega) (by omega) (by omega) (by omega))]
      refine e.trans ?_
      rw [sk_e164_80, g105_r5b hS, sj_mul, sj_add, g111_ab hS (by omega) (by omega), i4, if_pos (ky_ge (by omega) (by omega) (by omega) (by omega) (by omega)), sj_add, t2]
    · rw [show (TT g (j + 1)).toNat = (TT g j).toNat + C by omega]
      exact l1) ⟨J, o4, o5, rfl, hR, fun _ _ => rfl⟩
  obtain ⟨K, o4', o5', e, k1, k2⟩ := key
  rw [hTT, Int.toNat_natCast] at k1
  have a := adN_0 v E T
  have z1 : (1 : Int).toNat = 1 := rfl
  have q1 : K 107 1 = v 0 1 + T := (k1.1 1 (by omega)).trans a.1
  refine ⟨K, e.trans ?_, k1, k2⟩
  rw [sk_e164_69, g105_i6b hS, k2 105 (by omega), hI.1, if_pos (ky_ge (by omega) (by omega) (by omega) (by omega) (by omega)), g105_r1b hS, g107_ab hS (by omega) (by omega), z1, q1]
theorem r164_24 {d : Nat} (hS : sk_G S) {g : Nat → Nat → Int} {N : Nat} {W : Int} (hg : GG W g N) (hN : N ≤ 60) (hI : RIT J g N) (o1 : Option Value) : sk_D164 d 24 [some (.ref 105), o1, some (.int (sj 0)), some (.int (sj 0)), none, none] [] (sk_mk S J) = sk_D164 d 24 [some (.ref 105), o1, some (.int (sj (TT g N))), some (.int (sj (N : Int))), none, none] [] (sk_mk S J) := by
  refine lp_run (fun j (X : Option sk_R) => X = sk_D164 d 24 [some (.ref 105), o1, some (.int (sj (TT g j))), some (.int (sj (j : Int))), none, none] [] (sk_mk S J)) N (fun j X hj hX => ?_) rfl
  subst hX
  have t2 : (j : Int) + 1 = ((j + 1 : Nat) : Int) := rfl
  have i4 : J 111 (5 * (j : Int) + 4).toNat = g j 4 := by rw [show (5 * (j : Int) + 4).toNat = 5 * j + 4 by omega]; exact hI.2 j hj 4 (by omega)
  rw [sk_e164_24, g105_i6b hS, hI.1, if_neg (kn_ge (by omega) (by omega) (by omega) (by omega) (by omega)), g105_r5b hS, sj_mul, sj_add, g111_ab hS (by omega) (by omega), i4, sj_add, sj_add, t2]
  rfl
theorem GI_TP {v' : sk_H} (hG : GI I v) (h : ∀ b, b ≠ 2 → ¬ (5 ≤ b ∧ b < 34) → b ≠ 105 → b ≠ 107 → b ≠ 111 → J b = I b) (h105 : J 105 2 = I 105 2) (z2 : J 2 1 = 0) (z4 : J 105 4 = 0) (z5 : ∀ k, k < 10 → ∀ j, 4 ≤ j → j < 10 → J (5 + k) j = 0) (hv : vC J 15 = v') (hT : VT v') (hR : RP J 107 v') (hc : v 0 1 ≤ v' 0 1) : GI J v' := by
  obtain ⟨-, -, -, g4, g5, g6, g7⟩ := hG
  refine ⟨hv, hT, hR, ⟨0, by omega, z2, z4, fun k hk => absurd hk (by omega), z5⟩, ?_, fun r hr => ?_, fun s hs => ?_⟩
  · exact GM_fr g5 (h 1 (by omega) (by omega) (by omega) (by omega) (by omega)) h105 (fun b b1 b2 => h b (by omega) (by omega) (by omega) (by omega) (by omega)) (h 108 (by omega) (by omega) (by omega) (by omega) (by omega))
  · exact GR1_fr (g6 r hr) hc (h _ (by omega) (by omega) (by omega) (by omega) (by omega)) (h _ (by omega) (by omega) (by omega) (by omega) (by omega)) (h _ (by omega) (by omega) (by omega) (by omega) (by omega)) (h _ (by omega) (by omega) (by omega) (by omega) (by omega)) (h _ (by omega) (by omega) (by omega) (by omega) (by omega))
  · exact GH1_fr (g7 s hs) (h _ (by omega) (by omega) (by omega) (by omega) (by omega)) (h _ (by omega) (by omega) (by omega) (by omega) (by omega)) (h _ (by omega) (by omega) (by omega) (by omega) (by omega)) (h _ (by omega) (by omega) (by omega) (by omega) (by omega)) (h _ (by omega) (by omega) (by omega) (by omega) (by omega))
end PAR
