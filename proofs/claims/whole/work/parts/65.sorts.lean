/-! ===== sorting, on both ===== -/
section SOR
variable {S : List sk_Sh} {I v : sk_H}
def fn1 (h : Nat → Int) (p : Nat) (x : Int) : Nat → Int := fun k => if k = p then x else h k
theorem u2_fn1 (I : sk_H) (a p : Nat) (x : Int) : u2 I a p x a = fn1 (I a) p x := by
  funext k
  unfold fn1
  by_cases c : k = p
  · subst c; rw [if_pos rfl, u2_eq]
  · rw [if_neg c, u2_ne _ _ (by omega)]
theorem exF_P {P : Int → Prop} {n : Nat} {g : Nat → Int} (h : ∀ k, k < n → P (g k)) {i j : Nat} (hi : i < n) (hj : j < n) : ∀ k, k < n → P (exF g i j k) := by
  intro k hk
  unfold exF
  refine h _ ?_
  split
  · exact hi
  · split <;> omega
theorem in1_P {P : Int → Prop} {n : Nat} : ∀ m (g : Nat → Int), (∀ k, k < n → P (g k)) → m < n → ∀ k, k < n → P (in1 m g k) := by
  intro m
  induction m with
  | zero => intro g h _; exact h
  | succ m ih =>
    intro g h hm
    unfold in1
    split
    · exact h
    · exact ih _ (exF_P h hm (by omega)) (by omega)
theorem srF_P {P : Int → Prop} {n : Nat} {g : Nat → Int} (h : ∀ k, k < n → P (g k)) : ∀ m, m ≤ n → ∀ k, k < n → P (srF m g k) := by
  intro m
  induction m with
  | zero => intro _; exact h
  | succ m ih => intro hm; exact in1_P m _ (ih (by omega)) (by omega)
theorem m77 {d : Nat} (hd : 1 ≤ d) {x0 L n : Nat} (hx : S[x0]? = some (.inl L)) (h0 : x0 ≠ 0) (hL : (L : Int) ≤ 2147483648) (hn : n ≤ L) (hn2 : n ≤ 1000) (hr : ∀ k, k < n → -2147483648 ≤ I x0 k ∧ I x0 k < 2147483648) : ∃ I', sk_c d 77 [.ref x0, .int (sj (n : Int))] (sk_mk S I) = some (none, sk_mk S I') ∧ I' x0 = srF n (I x0) ∧ ∀ c, c ≠ x0 → I' c = I c := by
  obtain ⟨d, rfl⟩ : ∃ e, d = e + 1 := ⟨d - 1, by omega⟩; rw [sk_e77]
  have ald := fun (J : sk_H) (p : Nat) (hp : p < n) => mk_ald (S := S) (I := J) (i := (p : Int)) hx (by omega) (by omega) hL
  have ast := fun (J : sk_H) (p : Nat) (x : Int) (hp : p < n) => mk_ast (S := S) (I := J) (i := (p : Int)) x hx h0 (by omega) (by omega) hL
  have inner : ∀ (p k : Nat) (J : sk_H) (x : Int) (g : Nat → Int), p < n → k < n → fn1 (J x0) p x = g → (∀ k, k < n → -2147483648 ≤ g k ∧ g k < 2147483648) → ∃ J' o3 o4, sk_D77 d 14 [some (.ref x0), some (.int (sj (n : Int))), some (.int (sj (k : Int))), some (.int (sj x)), some (.int (sj (p : Int)))] [] (sk_mk S J) = sk_D77 d 2 [some (.ref x0), some (.int (sj (n : Int))), some (.int (sj ((k + 1 : Nat) : Int))), o3, o4] [] (sk_mk S J') ∧ J' x0 = in1 p g ∧ ∀ c, c ≠ x0 → J' c = J c := by
    intro p
    induction p with
    | zero =>
      intro k J x g hp hk hg hr
      have t2 : (k : Int) + 1 = ((k + 1 : Nat) : Int) := rfl
      refine ⟨u2 J x0 0 x, some (.int (sj x)), some (.int (sj ((0 : Nat) : Int))), ?_, (u2_fn1 J x0 0 x).trans hg, fun c hc => funext fun j => u2_ne _ _ (by omega)⟩
      rw [sk_e77_14, if_pos (ky_le (by omega) (by omega) (by omega) (by omega) (by omega)), ast J 0 x hp, Option.bind_some, sj_add, t2]
      rfl
    | succ p ih =>
      intro k J x g hp hk hg hr
      have t2 : (k : Int) + 1 = ((k + 1 : Nat) : Int) := rfl
      have gx : g (p + 1) = x := by rw [← hg]; exact if_pos rfl
      have gy : g p = J x0 p := by rw [← hg]; exact if_neg (by omega)
      have r1 := hr p (by omega)
      have r2 := hr (p + 1) (by omega)
      have e1 : sj ((p + 1 : Nat) : Int) - sj 1 = sj (p : Int) := by rw [sj_sub]; congr 1; omega
      rw [sk_e77_14, if_neg (kn_le (by omega) (by omega) (by omega) (by omega) (by omega)), e1, ald J p (by omega), Option.bind_some, Int.toNat_natCast, ← gy]
      unfold in1
      by_cases c : g p ≤ g (p + 1)
      · refine ⟨u2 J x0 (p + 1) x, some (.int (sj x)), some (.int (sj ((p + 1 : Nat) : Int))), ?_, ?_, fun c hc => funext fun j => u2_ne _ _ (by omega)⟩
        · rw [if_pos (ky_le (by omega) (by omega) (by omega) (by omega) (by omega)), ast J (p + 1) x hp, Option.bind_some, Int.toNat_natCast, sj_add, t2]
        · rw [if_pos c, u2_fn1]; exact hg
      · have hg2 : fn1 ((u2 J x0 (p + 1) (g p)) x0) p x = exF g (p + 1) p := by
          funext q
          rw [u2_fn1]
          unfold fn1 exF
          by_cases q1 : q = p
          · rw [if_pos q1, if_pos q1, gx]
          · rw [if_neg q1, if_neg q1]
            by_cases q2 : q = p + 1
            · rw [if_pos q2, if_pos q2]
            · rw [if_neg q2, if_neg q2, ← hg]
              exact (if_neg q2).symm
        obtain ⟨J', o3, o4, e, j1, j2⟩ := ih k (u2 J x0 (p + 1) (g p)) x (exF g (p + 1) p) (by omega) hk hg2 (exF_P (P := fun y => -2147483648 ≤ y ∧ y < 2147483648) hr hp (by omega))
        refine ⟨J', o3, o4, ?_, ?_, fun c hc => (j2 c hc).trans (funext fun j => u2_ne _ _ (by omega))⟩
        · rw [if_neg (kn_le (by omega) (by omega) (by omega) (by omega) (by omega)), Option.bind_some, ast J (p + 1) (g p) hp, Option.bind_some, Int.toNat_natCast, sj_add, show ((p + 1 : Nat) : Int) + -1 = (p : Int) by omega]
          exact e
        · rw [if_neg c]; exact j1
  have outer : ∀ (m k : Nat) (J : sk_H) (o3 o4 : Option Value), k + m = n → 1 ≤ k → J x0 = srF k (I x0) → (∀ c, c ≠ x0 → J c = I c) → ∃ I', sk_D77 d 2 [some (.ref x0), some (.int (sj (n : Int))), some (.int (sj (k : Int))), o3, o4] [] (sk_mk S J) = some (none, sk_mk S I') ∧ I' x0 = srF n (I x0) ∧ ∀ c, c ≠ x0 → I' c = I c := by
    intro m
    induction m with
    | zero =>
      intro k J o3 o4 hk h1 j1 j2
      refine ⟨J, ?_, by rw [j1, show k = n by omega], j2⟩
      rw [sk_e77_2, if_pos (ky_ge (by omega) (by omega) (by omega) (by omega) (by omega))]
    | succ m ih =>
      intro k J o3 o4 hk h1 j1 j2
      have hr2 := srF_P (P := fun y => -2147483648 ≤ y ∧ y < 2147483648) hr k (by omega)
      obtain ⟨K, p3, p4, e, k1, k2⟩ := inner k k J (J x0 k) (srF k (I x0)) (by omega) (by omega) (by
        rw [← j1]; funext q; unfold fn1
        by_cases c : q = k
        · rw [if_pos c, c]
        · rw [if_neg c]) hr2
      obtain ⟨I', e2, i1, i2⟩ := ih (k + 1) K p3 p4 (by omega) (by omega) k1 (fun c hc => (k2 c hc).trans (j2 c hc))
      refine ⟨I', ?_, i1, i2⟩
      rw [sk_e77_2, if_neg (kn_ge (by omega) (by omega) (by omega) (by omega) (by omega)), ald J k (by omega), Option.bind_some, Int.toNat_natCast]
      exact e.trans e2
  by_cases n0 : n = 0
  · subst n0
    exact ⟨I, by rw [sk_e77_2, if_pos (ky_ge (by omega) (by omega) (by omega) (by omega) (by omega))], rfl, fun _ _ => rfl⟩
  · exact outer (n - 1) 1 I none none (by omega) (Nat.le_refl _) rfl (fun _ _ => rfl)
theorem m197 {d : Nat} (hd : 2 ≤ d) (hS : sk_G S) (hR : RP I 107 v) (hT : VT v) {n : Nat} (hn : v 0 2 = n) : ∃ I', sk_c d 197 [.ref 105] (sk_mk S I) = some (none, sk_mk S I') ∧ RP I' 107 (st9 v (srF n (v 9))) ∧ ∀ c, c ≠ 107 → I' c = I c := by
  have hV := hT.1
  obtain ⟨n1, n2, n3, n4, n5, n6, n7, n8, n9, n10, n11, n12⟩ := hV.1
  obtain ⟨d, rfl⟩ : ∃ e, d = e + 1 := ⟨d - 1, by omega⟩; rw [sk_e197]
  have z2 : (2 : Int).toNat = 2 := rfl
  have inner : ∀ (p k : Nat) (J w : sk_H), p < n → k < n → RP J 107 w → VT w → w 0 2 = n → ∃ J' o2, sk_D197 d 14 [some (.ref 105), some (.int (sj (k : Int))), some (.int (sj (p : Int)))] [] (sk_mk S J) = sk_D197 d 2 [some (.ref 105), some (.int (sj ((k + 1 : Nat) : Int))), o2] [] (sk_mk S J') ∧ RP J' 107 (st9 w (in1 p (w 9))) ∧ ∀ c, c ≠ 107 → J' c = J c := by
    intro p
    induction p with
    | zero =>
      intro k J w hp hk hR hT hn
      have t2 : (k : Int) + 1 = ((k + 1 : Nat) : Int) := rfl
      refine ⟨J, some (.int (sj ((0 : Nat) : Int))), ?_, by rw [show in1 0 (w 9) = w 9 from rfl, st9_id]; exact hR, fun _ _ => rfl⟩
      rw [sk_e197_14, if_pos (ky_le (by omega) (by omega) (by omega) (by omega) (by omega)), sj_add, t2]
    | succ p ih =>
      intro k J w hp hk hR hT hn
      have t2 : (k : Int) + 1 = ((k + 1 : Nat) : Int) := rfl
      have rd : ∀ k : Nat, k < n → J 107 (87 + (k : Int)).toNat = w 9 k := fun k hk => by rw [show (87 + (k : Int)).toNat = 87 + k by omega]; exact hR.2.2.1 k (by omega)
      have rng : ∀ k : Nat, k < n → 0 ≤ w 9 k ∧ w 9 k < 100 := fun k hk => by
        obtain ⟨d1, d2, -⟩ := hT.1.2.2.1.1 k (by omega)
        have := hT.1.1.2.2.2.1
        omega
      have r1 := rng p (by omega)
      have r2 := rng (p + 1) (by omega)
      rw [sk_e197_14, if_neg (kn_le (by omega) (by omega) (by omega) (by omega) (by omega)), g105_r1b hS, sj_add, g107_ab hS (by omega) (by omega), rd (p + 1) hp, g105_r1b hS, sj_sub, show 87 + ((p + 1 : Nat) : Int) - 1 = 87 + (p : Int) by omega, g107_ab hS (by omega) (by omega), rd p (by omega)]
      unfold in1
      by_cases c : w 9 p ≤ w 9 (p + 1)
      · refine ⟨J, some (.int (sj ((p + 1 : Nat) : Int))), ?_, by rw [if_pos c, st9_id]; exact hR, fun _ _ => rfl⟩
        rw [if_pos (ky_ge (by omega) (by omega) (by omega) (by omega) (by omega)), sj_add, t2]
      · obtain ⟨K, ek, k1, k2⟩ := m171 (S := S) (I := J) (d := d) (by omega) hS hR hT.1 (i := p + 1) (j := p) (by omega) (by omega)
        obtain ⟨J', o2, e, j1, j2⟩ := ih k K (exV w (p + 1) p) (by omega) hk k1 (VT_exV hT (by omega) (by omega)) ((exV_ne _ _ _ (by omega)).trans hn)
        refine ⟨J', o2, ?_, ?_, fun c hc => (j2 c hc).trans (k2 c hc)⟩
        · rw [if_neg (kn_ge (by omega) (by omega) (by omega) (by omega) (by omega)), g105_ob hS, sj_sub, show ((p + 1 : Nat) : Int) - 1 = (p : Int) by omega, ek, sk_cv_some, sj_add, show ((p + 1 : Nat) : Int) + -1 = (p : Int) by omega]
          exact e
        · rw [if_neg c, ← st9_st9 w (exF (w 9) (p + 1) p), ← exV_st9, ← exV_nine]; exact j1
  have outer : ∀ (m k : Nat) (J : sk_H) (o2 : Option Value), k + m = n → 1 ≤ k → RP J 107 (st9 v (srF k (v 9))) → (∀ c, c ≠ 107 → J c = I c) → ∃ I', sk_D197 d 2 [some (.ref 105), some (.int (sj (k : Int))), o2] [] (sk_mk S J) = some (none, sk_mk S I') ∧ RP I' 107 (st9 v (srF n (v 9))) ∧ ∀ c, c ≠ 107 → I' c = I c := by
    intro m
    induction m with
    | zero =>
      intro k J o2 hk h1 j1 j2
      have q2 : J 107 2 = n := (j1.1 2 (by omega)).trans ((st9_ne _ _ _ (by omega)).trans hn)
      refine ⟨J, ?_, by rw [show n = k by omega]; exact j1, j2⟩
      rw [sk_e197_2, g105_r1b hS, g107_ab hS (by omega) (by omega), z2, q2, if_pos (ky_ge (by omega) (by omega) (by omega) (by omega) (by omega))]
    | succ m ih =>
      intro k J o2 hk h1 j1 j2
      have h2 : st9 v (srF k (v 9)) 0 2 = n := (st9_ne _ _ _ (by omega)).trans hn
      have q2 : J 107 2 = n := (j1.1 2 (by omega)).trans h2
      obtain ⟨K, o2', e, k1, k2⟩ := inner k k J (st9 v (srF k (v 9))) (by omega) (by omega) j1 (VT_srF hT k (by omega)) h2
      rw [st9_9, st9_st9] at k1
      obtain ⟨I', e2, i1, i2⟩ := ih (k + 1) K o2' (by omega) (by omega) k1 (fun c hc => (k2 c hc).trans (j2 c hc))
      refine ⟨I', ?_, i1, i2⟩
      rw [sk_e197_2, g105_r1b hS, g107_ab hS (by omega) (by omega), z2, q2, if_neg (kn_ge (by omega) (by omega) (by omega) (by omega) (by omega))]
      exact e.trans e2
  by_cases n0 : n = 0
  · have q2 : I 107 2 = n := (hR.1 2 (by omega)).trans hn
    refine ⟨I, ?_, ?_, fun _ _ => rfl⟩
    · rw [sk_e197_2, g105_r1b hS, g107_ab hS (by omega) (by omega), z2, q2, if_pos (ky_ge (by omega) (by omega) (by omega) (by omega) (by omega))]
    · subst n0
      rw [show srF 0 (v 9) = v 9 from rfl, st9_id]; exact hR
  · exact outer (n - 1) 1 I none (by omega) (Nat.le_refl _) (by rw [show srF 1 (v 9) = v 9 from rfl, st9_id]; exact hR) (fun _ _ => rfl)
theorem vC_55 {J : sk_H} (hv : vC I 53 = v) {g : Nat → Int} (h : J 55 = g) (hf : ∀ c, c ≠ 55 → J c = I c) : vC J 53 = st9 v g := by
  funext s k
  by_cases c : s = 9
  · subst c; rw [st9_9]; exact congrFun h k
  · rw [st9_ne _ _ _ c, ← hv]
    have f := fun b j (hb : b ≠ 55) => congrFun (hf b hb) j
    match s with
    | 0 => show (if k = 5 then J (53 + 4) 4 else J 53 (4 + k)) = (if k = 5 then I (53 + 4) 4 else I 53 (4 + k)); rw [f _ _ (by omega), f _ _ (by omega)]
    | 1 => show (if k < 10 then J (53 + 9 + k) 0 else 0) = (if k < 10 then I (53 + 9 + k) 0 else 0); rw [f _ _ (by omega)]
    | 2 => show (if k < 10 then J (53 + 9 + k) 1 else 0) = (if k < 10 then I (53 + 9 + k) 1 else 0); rw [f _ _ (by omega)]
    | 3 => show (if k < 10 then J (53 + 9 + k) 2 else 0) = (if k < 10 then I (53 + 9 + k) 2 else 0); rw [f _ _ (by omega)]
    | 4 => show (if k < 10 then J (53 + 9 + k) 3 else 0) = (if k < 10 then I (53 + 9 + k) 3 else 0); rw [f _ _ (by omega)]
    | 5 => show (if k < 10 then J (53 + 9 + k) 4 else 0) = (if k < 10 then I (53 + 9 + k) 4 else 0); rw [f _ _ (by omega)]
    | 6 => show (if k < 10 then J (53 + 9 + k) 5 else 0) = (if k < 10 then I (53 + 9 + k) 5 else 0); rw [f _ _ (by omega)]
    | 7 => show (if k < 10 then J (53 + 9 + k) 6 else 0) = (if k < 10 then I (53 + 9 + k) 6 else 0); rw [f _ _ (by omega)]
    | 8 => show (if k < 10 then J (53 + 9 + k) 7 else 0) = (if k < 10 then I (53 + 9 + k) 7 else 0); rw [f _ _ (by omega)]
    | 9 => exact absurd rfl c
    | 10 => exact f (53 + 3) k (by omega)
    | 11 => exact f (53 + 5) k (by omega)
    | 12 => exact f (53 + 6) k (by omega)
    | 13 => exact f (53 + 7) k (by omega)
    | 14 => exact f (53 + 8) k (by omega)
    | 15 => show (if k < 10 then J (53 + 9 + k) 8 else 0) = (if k < 10 then I (53 + 9 + k) 8 else 0); rw [f _ _ (by omega)]
    | 16 => show (if k < 10 then J (53 + 9 + k) 9 else 0) = (if k < 10 then I (53 + 9 + k) 9 else 0); rw [f _ _ (by omega)]
    | _ + 17 => rfl
end SOR
