/-! ===== stages: the labels, purely ===== -/
def lsF (P : Nat → Bool) (s : Nat) : Nat → Nat
  | 0 => s
  | n + 1 => lsF P (if P n = true then n else s) n
theorem lsF_s (P : Nat → Bool) (s n : Nat) : lsF P s (n + 1) = lsF P (if P n = true then n else s) n := by rw [lsF]
theorem lsF_spec (P : Nat → Bool) : ∀ n s, (lsF P s n = s ∧ ∀ j, j < n → P j = false) ∨ (lsF P s n < n ∧ P (lsF P s n) = true ∧ ∀ j, j < lsF P s n → P j = false) := by
  intro n
  induction n with
  | zero => intro s; exact Or.inl ⟨rfl, fun j hj => absurd hj (by omega)⟩
  | succ n ih =>
    intro s
    rw [lsF_s]
    rcases ih (if P n = true then n else s) with ⟨h1, h2⟩ | ⟨h1, h2, h3⟩
    · rw [h1]
      by_cases c : P n = true
      · rw [if_pos c]
        exact Or.inr ⟨by omega, c, h2⟩
      · rw [if_neg c]
        refine Or.inl ⟨rfl, fun j hj => ?_⟩
        by_cases e : j = n
        · rw [e]; exact Bool.not_eq_true _ ▸ c
        · exact h2 j (by omega)
    · exact Or.inr ⟨by omega, h2, h3⟩
theorem lsF_congr {P Q : Nat → Bool} : ∀ n s, (∀ k, k < n → P k = Q k) → lsF P s n = lsF Q s n := by
  intro n
  induction n with
  | zero => intro s _; rfl
  | succ n ih =>
    intro s h
    rw [lsF_s, lsF_s, h n (by omega)]
    exact ih _ (fun k hk => h k (by omega))
def nwP (L : Nat) (lo hi lab : Nat → Int) (i j : Nat) : Bool := decide (lab j = lab i ∧ lnF L lo hi lab j L = lnF L lo hi lab i L)
def nwL (L : Nat) (lo hi lab : Nat → Int) (i : Nat) : Nat := lsF (nwP L lo hi lab i) i i
def ctL (L : Nat) (lo hi lab : Nat → Int) : Nat → Int := fun i => (nwL L lo hi lab i : Int)
theorem nwP_iff {L : Nat} {lo hi lab : Nat → Int} {i j : Nat} : nwP L lo hi lab i j = true ↔ lab j = lab i ∧ lnF L lo hi lab j L = lnF L lo hi lab i L := by
  unfold nwP
  exact decide_eq_true_iff
theorem nwL_spec (L : Nat) (lo hi lab : Nat → Int) (i : Nat) : nwL L lo hi lab i ≤ i ∧ nwP L lo hi lab i (nwL L lo hi lab i) = true ∧ ∀ j, nwP L lo hi lab i j = true → nwL L lo hi lab i ≤ j := by
  have h := lsF_spec (nwP L lo hi lab i) i i
  unfold nwL
  rcases h with ⟨h1, h2⟩ | ⟨h1, h2, h3⟩
  · rw [h1]
    refine ⟨Nat.le_refl _, nwP_iff.mpr ⟨rfl, rfl⟩, fun j hj => ?_⟩
    by_cases c : j < i
    · rw [h2 j c] at hj; cases hj
    · omega
  · refine ⟨by omega, h2, fun j hj => ?_⟩
    by_cases c : j < lsF (nwP L lo hi lab i) i i
    · rw [h3 j c] at hj; cases hj
    · omega
theorem ctL_eq {L : Nat} {lo hi lab : Nat → Int} {i j : Nat} : ctL L lo hi lab i = ctL L lo hi lab j ↔ lab i = lab j ∧ lnF L lo hi lab i L = lnF L lo hi lab j L := by
  obtain ⟨-, a2, a3⟩ := nwL_spec L lo hi lab i
  obtain ⟨-, b2, b3⟩ := nwL_spec L lo hi lab j
  constructor
  · intro h
    have e : nwL L lo hi lab i = nwL L lo hi lab j := Int.ofNat.inj h
    rw [e] at a2
    obtain ⟨x1, x2⟩ := nwP_iff.mp a2
    obtain ⟨y1, y2⟩ := nwP_iff.mp b2
    exact ⟨x1.symm.trans y1, x2.symm.trans y2⟩
  · rintro ⟨h1, h2⟩
    obtain ⟨x1, x2⟩ := nwP_iff.mp a2
    obtain ⟨y1, y2⟩ := nwP_iff.mp b2
    have p := b3 _ (nwP_iff.mpr ⟨x1.trans h1, x2.trans h2⟩)
    have q := a3 _ (nwP_iff.mpr ⟨y1.trans h1.symm, y2.trans h2.symm⟩)
    show ((nwL L lo hi lab i : Nat) : Int) = ((nwL L lo hi lab j : Nat) : Int)
    omega
theorem ctL_tg {L : Nat} {lo hi lab : Nat → Int} (h0 : ∀ k, k < L → 0 ≤ lo k ∧ lo k < hi k) {i j : Nat} (hi1 : i < L) (hj1 : j < L) : ctL L lo hi lab i = ctL L lo hi lab j ↔ tgC L lo hi lab i j := by
  rw [ctL_eq]
  exact ⟨fun h => ⟨h.1, (ln_pt h0 hi1 hj1 h.1 lnF_spec lnF_spec).mp h.2⟩, fun h => ⟨h.1, (ln_pt h0 hi1 hj1 h.1 lnF_spec lnF_spec).mpr h.2⟩⟩
theorem frD_congr {L : Nat} {lo hi lab lo' hi' lab' : Nat → Int} (h1 : EQ L lo lo') (h2 : EQ L hi hi') (h3 : EQ L lab lab') (g x : Int) : frD L lo hi lab g x = frD L lo' hi' lab' g x := by
  have e : frC L lo hi lab g x ↔ frC L lo' hi' lab' g x := by
    unfold frC
    exact forall_congr' fun k => forall_congr' fun hk => by rw [h1 k hk, h2 k hk, h3 k hk]
  exact Bool.eq_iff_iff.mpr (frD_iff.trans (e.trans frD_iff.symm))
theorem lnF_congr {L : Nat} {lo hi lab lo' hi' lab' : Nat → Int} (h1 : EQ L lo lo') (h2 : EQ L hi hi') (h3 : EQ L lab lab') {i : Nat} (hi1 : i < L) : ∀ n, n ≤ L → lnF L lo hi lab i n = lnF L lo' hi' lab' i n := by
  intro n
  induction n with
  | zero => intro _; rfl
  | succ n ih =>
    intro hn
    rw [lnF_s, lnF_s, ih (by omega), h1 n (by omega), h1 i hi1, h3 n (by omega), h3 i hi1, frD_congr h1 h2 h3]
theorem nwL_congr {L : Nat} {lo hi lab lo' hi' lab' : Nat → Int} (h1 : EQ L lo lo') (h2 : EQ L hi hi') (h3 : EQ L lab lab') {i : Nat} (hi1 : i < L) : nwL L lo hi lab i = nwL L lo' hi' lab' i := by
  refine lsF_congr i i (fun k hk => ?_)
  unfold nwP
  rw [h3 k (by omega), h3 i hi1, lnF_congr h1 h2 h3 hi1 L (Nat.le_refl _), lnF_congr h1 h2 h3 (show k < L by omega) L (Nat.le_refl _)]
theorem ctL_congr {L : Nat} {lo hi lab lo' hi' lab' : Nat → Int} (h1 : EQ L lo lo') (h2 : EQ L hi hi') (h3 : EQ L lab lab') : EQ L (ctL L lo hi lab) (ctL L lo' hi' lab') := fun i hk => by
  show ((nwL L lo hi lab i : Nat) : Int) = ((nwL L lo' hi' lab' i : Nat) : Int)
  rw [nwL_congr h1 h2 h3 hk]
/-- a label is the least of its own -/
def CNL (L : Nat) (lab : Nat → Int) : Prop := ∀ i, i < L → ∃ m : Nat, m ≤ i ∧ lab i = m ∧ lab m = m
theorem CNL_ct (L : Nat) (lo hi lab : Nat → Int) : CNL L (ctL L lo hi lab) := fun i _ => ⟨nwL L lo hi lab i, (nwL_spec L lo hi lab i).1, rfl, ctL_eq.mpr (nwP_iff.mp (nwL_spec L lo hi lab i).2.1)⟩
def nbL (L : Nat) (lab : Nat → Int) : Int := cntTo L (fun i => decide (lab i = (i : Int)))
theorem cnt_mono {n : Nat} {P Q : Nat → Bool} (h : ∀ k, k < n → P k = true → Q k = true) : cntTo n P ≤ cntTo n Q := by
  by_cases c : ∃ p, p < n ∧ Q p = true ∧ P p = false
  · obtain ⟨p, p1, p2, p3⟩ := c
    have := cntTo_lt h p1 p2 p3
    omega
  · refine Int.le_of_eq (cntTo_congr fun k hk => ?_)
    cases hp : P k with
    | true => exact (h k hk hp).symm
    | false =>
      cases hq : Q k with
      | false => rfl
      | true => exact absurd ⟨k, hk, hq, hp⟩ c
theorem cnt_full {n : Nat} : cntTo n (fun _ => true) = (n : Int) := by
  induction n with
  | zero => rfl
  | succ n ih => rw [cntTo_succ, if_pos rfl, ih]; rfl
theorem cnt_fullI {n : Nat} {P : Nat → Bool} (h : cntTo n P = (n : Int)) {k : Nat} (hk : k < n) : P k = true := by
  cases hp : P k with
  | true => rfl
  | false =>
    have := cntTo_lt (n := n) (P := P) (Q := fun _ => true) (fun _ _ _ => rfl) hk rfl hp
    rw [cnt_full] at this
    omega
theorem nb_rng (L : Nat) (lab : Nat → Int) : 0 ≤ nbL L lab ∧ nbL L lab ≤ L := cntTo_rng _ _
theorem nb_congr {L : Nat} {lab lab' : Nat → Int} (h : EQ L lab lab') : nbL L lab = nbL L lab' := cntTo_congr fun k hk => by rw [h k hk]
theorem nb_all {L : Nat} {lab : Nat → Int} (hc : CNL L lab) : nbL L lab = L ↔ ∀ i j, i < L → j < L → lab i = lab j → i = j := by
  constructor
  · intro h i j hi hj e
    have a : lab i = (i : Int) := of_decide_eq_true (cnt_fullI h hi)
    have b : lab j = (j : Int) := of_decide_eq_true (cnt_fullI h hj)
    omega
  · intro h
    have e : nbL L lab = cntTo L (fun _ => true) := cntTo_congr fun k hk => by
      obtain ⟨m, m1, m2, m3⟩ := hc k hk
      have := h k m hk (by omega) (m2.trans m3.symm)
      exact decide_eq_true (by rw [m2, this])
    rw [e, cnt_full]
theorem nb_fix {L : Nat} {lab lab' : Nat → Int} (hc' : CNL L lab') (h : ∀ i j, i < L → j < L → lab' i = lab' j → lab i = lab j) (hc : CNL L lab) {k : Nat} (hk : k < L) (e : lab k = (k : Int)) : lab' k = (k : Int) := by
  obtain ⟨m, m1, m2, m3⟩ := hc' k hk
  have e1 := h k m hk (by omega) (m2.trans m3.symm)
  obtain ⟨q, q1, q2, -⟩ := hc m (by omega)
  have : m = k := by omega
  rw [m2, this]
theorem nb_mono {L : Nat} {lab lab' : Nat → Int} (hc : CNL L lab) (hc' : CNL L lab') (h : ∀ i j, i < L → j < L → lab' i = lab' j → lab i = lab j) : nbL L lab ≤ nbL L lab' ∧ (nbL L lab' = nbL L lab → EQ L lab' lab) := by
  have hs : ∀ k, k < L → decide (lab k = (k : Int)) = true → decide (lab' k = (k : Int)) = true := fun k hk e => decide_eq_true (nb_fix hc' h hc hk (of_decide_eq_true e))
  refine ⟨cnt_mono hs, fun e i hi => ?_⟩
  have hb : ∀ k, k < L → lab' k = (k : Int) → lab k = (k : Int) := fun k hk h2 => by
    by_cases c : lab k = (k : Int)
    · exact c
    · have := cntTo_lt hs hk (decide_eq_true h2) (decide_eq_false c)
      unfold nbL at e
      omega
  obtain ⟨m, m1, m2, m3⟩ := hc' i hi
  have e1 := h i m hi (by omega) (m2.trans m3.symm)
  rw [m2, e1, hb m (by omega) m3]
/-- the labels after t cuts, the first along a -/
def sqL (L : Nat) (lo hi : Nat → Nat → Int) (a : Nat) : Nat → Nat → Int
  | 0 => fun _ => 0
  | t + 1 => ctL L (lo ((a + t) % 2)) (hi ((a + t) % 2)) (sqL L lo hi a t)
theorem sqL_s (L : Nat) (lo hi : Nat → Nat → Int) (a t : Nat) : sqL L lo hi a (t + 1) = ctL L (lo ((a + t) % 2)) (hi ((a + t) % 2)) (sqL L lo hi a t) := by rw [sqL]
theorem sqL_0 (L : Nat) (lo hi : Nat → Nat → Int) (a i : Nat) : sqL L lo hi a 0 i = 0 := rfl
theorem CNL_sq (L : Nat) (lo hi : Nat → Nat → Int) (a t : Nat) : CNL L (sqL L lo hi a t) := by
  cases t with
  | zero => exact fun i _ => ⟨0, by omega, rfl, rfl⟩
  | succ t => rw [sqL_s]; exact CNL_ct _ _ _ _
theorem sq_ref {L : Nat} {lo hi : Nat → Nat → Int} {a t i j : Nat} (h : sqL L lo hi a (t + 1) i = sqL L lo hi a (t + 1) j) : sqL L lo hi a t i = sqL L lo hi a t j := by
  rw [sqL_s] at h
  exact (ctL_eq.mp h).1
theorem sq_par (L : Nat) (lo hi : Nat → Nat → Int) (a : Nat) : ∀ t, sqL L lo hi (a + 2) t = sqL L lo hi a t := by
  intro t
  induction t with
  | zero => rfl
  | succ t ih => rw [sqL_s, sqL_s, ih, show (a + 2 + t) % 2 = (a + t) % 2 by omega]
theorem sq_shift {L : Nat} {lo hi : Nat → Nat → Int} {a : Nat} (he : EQ L (sqL L lo hi a 1) (sqL L lo hi a 0)) : ∀ s, EQ L (sqL L lo hi a (s + 1)) (sqL L lo hi (a + 1) s) := by
  intro s
  induction s with
  | zero => exact he
  | succ s ih =>
    rw [sqL_s, sqL_s _ _ _ (a + 1), show a + 1 + s = a + (s + 1) by omega]
    exact ctL_congr (fun _ _ => rfl) (fun _ _ => rfl) ih
section SQS
variable {L : Nat} {lo hi : Nat → Nat → Int}
/-- what no cut parts stays together for ever -/
theorem sq_co (h0 : ∀ a k, k < L → 0 ≤ lo a k ∧ lo a k < hi a k) {Z : Nat → Int} (hZ : ∀ a i j, a < 2 → i < L → j < L → Z i = Z j → tgC L (lo a) (hi a) Z i j) (c : Nat) : ∀ s i j, i < L → j < L → Z i = Z j → sqL L lo hi c s i = sqL L lo hi c s j := by
  intro s
  induction s with
  | zero => intro i j _ _ _; rfl
  | succ s ih =>
    intro i j hi1 hj1 e
    rw [sqL_s]
    exact (ctL_tg (h0 _) hi1 hj1).mpr (tg_mono ih hi1 hj1 (hZ _ i j (by omega) hi1 hj1 e))
theorem sq_dead (h0 : ∀ a k, k < L → 0 ≤ lo a k ∧ lo a k < hi a k) {Z : Nat → Int} (hc : CNL L Z) (hn : nbL L Z ≠ L) (hZ : ∀ a i j, a < 2 → i < L → j < L → Z i = Z j → tgC L (lo a) (hi a) Z i j) (c s : Nat) : nbL L (sqL L lo hi c s) ≠ L := by
  intro h
  apply hn
  rw [nb_all hc]
  intro i j hi1 hj1 e
  exact (nb_all (CNL_sq _ _ _ _ _)).mp h i j hi1 hj1 (sq_co h0 hZ c s i j hi1 hj1 e)
theorem sq_stuck (h0 : ∀ a k, k < L → 0 ≤ lo a k ∧ lo a k < hi a k) {a t : Nat} (he : EQ L (sqL L lo hi a (t + 2)) (sqL L lo hi a (t + 1))) : ∀ x i j, x < 2 → i < L → j < L → sqL L lo hi a (t + 1) i = sqL L lo hi a (t + 1) j → tgC L (lo x) (hi x) (sqL L lo hi a (t + 1)) i j := by
  intro x i j hx hi1 hj1 e
  by_cases c : x = (a + (t + 1)) % 2
  · have e2 : sqL L lo hi a (t + 2) i = sqL L lo hi a (t + 2) j := by rw [he i hi1, he j hj1, e]
    rw [sqL_s, ← c] at e2
    exact (ctL_tg (h0 _) hi1 hj1).mp e2
  · have hx2 : x = (a + t) % 2 := by omega
    refine (tg_twice (lab := sqL L lo hi a t) (h0 x) (ln := fun k => lnF L (lo x) (hi x) (sqL L lo hi a t) k L) (fun k hk => lnF_spec) (fun i j hi1 hj1 => ?_) hi1 hj1).mpr e
    rw [sqL_s, ← hx2]
    exact ctL_tg (h0 _) hi1 hj1
def RsC (L : Nat) (lo hi : Nat → Nat → Int) (a : Nat) (x : Int) : Prop := (∃ t : Nat, 1 ≤ t ∧ t ≤ 9 ∧ x = t ∧ nbL L (sqL L lo hi a t) = L ∧ ∀ s, s < t → nbL L (sqL L lo hi a s) ≠ L) ∨ (x = -1 ∧ ∃ t, nbL L (sqL L lo hi a t) ≠ L ∧ EQ L (sqL L lo hi a (t + 1)) (sqL L lo hi a t))
def RsR (L : Nat) (lo hi : Nat → Nat → Int) (a : Nat) (x : Int) : Prop := (∃ t : Nat, t ≤ 23 ∧ x = t ∧ nbL L (sqL L lo hi a t) = L ∧ ∀ s, s < t → nbL L (sqL L lo hi a s) ≠ L) ∨ (x = -1 ∧ ∀ s, s ≤ 23 → nbL L (sqL L lo hi a s) ≠ L)
theorem rs_one {a : Nat} {x y : Int} (hc : RsC L lo hi a x) (hr : RsR L lo hi a y) (h : x ≠ -1) : y = x ∧ 1 ≤ x ∧ x ≤ 9 ∧ ∃ s, nbL L (sqL L lo hi a s) = L := by
  rcases hc with ⟨t, t1, t2, t3, t4, t5⟩ | ⟨h1, -⟩
  · rcases hr with ⟨u, u1, u2, u3, u4⟩ | ⟨-, h2⟩
    · have : u = t := by
        by_cases c : u < t
        · exact absurd u3 (t5 u c)
        · by_cases d : t < u
          · exact absurd t4 (u4 t d)
          · omega
      exact ⟨by omega, by omega, by omega, t, t4⟩
    · exact absurd t4 (h2 t (by omega))
  · exact absurd h1 h
theorem rs_none (h0 : ∀ a k, k < L → 0 ≤ lo a k ∧ lo a k < hi a k) {a : Nat} (hc : RsC L lo hi a (-1)) : (∀ c s, nbL L (sqL L lo hi c s) ≠ L) ∨ EQ L (sqL L lo hi a 1) (sqL L lo hi a 0) := by
  rcases hc with ⟨t, t1, t2, t3, -⟩ | ⟨-, t, h1, h2⟩
  · omega
  · cases t with
    | zero => exact Or.inr h2
    | succ t => exact Or.inl (sq_dead h0 (CNL_sq _ _ _ _ _) h1 (sq_stuck h0 h2))
theorem rs_next (h2 : 2 ≤ L) {a b : Nat} (hb : ∀ s, sqL L lo hi (a + 1) s = sqL L lo hi b s) (he : EQ L (sqL L lo hi a 1) (sqL L lo hi a 0)) {x y : Int} (hx : RsR L lo hi b x) (x1 : 0 ≤ x) (x2 : x ≤ 9) (hy : RsR L lo hi a y) : y = x + 1 := by
  have sh : ∀ s, nbL L (sqL L lo hi a (s + 1)) = nbL L (sqL L lo hi b s) := fun s => by rw [nb_congr (sq_shift he s), hb]
  have n0 : nbL L (sqL L lo hi a 0) ≠ L := fun h => by
    have := (nb_all (CNL_sq _ _ _ _ _)).mp h 0 1 (by omega) (by omega) rfl
    omega
  rcases hx with ⟨t, t1, t2, t3, t4⟩ | ⟨h, -⟩
  · rcases hy with ⟨u, u1, u2, u3, u4⟩ | ⟨-, h⟩
    · cases u with
      | zero => exact absurd u3 n0
      | succ u =>
        rw [sh] at u3
        have : u = t := by
          by_cases c : u < t
          · exact absurd u3 (t4 u c)
          · by_cases d : t < u
            · exact absurd ((sh t).trans t3) (u4 (t + 1) (by omega))
            · omega
        omega
    · exact absurd ((sh t).trans t3) (h (t + 1) (by omega))
  · omega
theorem rs_dead {a : Nat} {x : Int} (h : ∀ c s, nbL L (sqL L lo hi c s) ≠ L) (hr : RsR L lo hi a x) : x = -1 := by
  rcases hr with ⟨u, -, -, u3, -⟩ | ⟨h1, -⟩
  · exact absurd u3 (h a u)
  · exact h1
theorem rs_comb (h0 : ∀ a k, k < L → 0 ≤ lo a k ∧ lo a k < hi a k) (h2 : 2 ≤ L) {xc yc xr yr : Int} (a1 : RsC L lo hi 0 xc) (a2 : RsC L lo hi 1 yc) (a3 : RsR L lo hi 0 xr) (a4 : RsR L lo hi 1 yr) : (if xc ≠ -1 then (if yc ≠ -1 then (if yc < xc then yc else xc) else xc) else yc) = (if xr = -1 then -1 else if yr ≠ -1 then (if yr < xr then yr else xr) else -1) := by
  by_cases c1 : xc = -1
  · subst c1
    by_cases c2 : yc = -1
    · subst c2
      have d : ∀ c s, nbL L (sqL L lo hi c s) ≠ L := by
        rcases rs_none h0 a1 with h | e0
        · exact h
        · rcases rs_none h0 a2 with h | e1
          · exact h
          · refine sq_dead h0 (Z := fun _ => 0) (CNL_sq L lo hi 0 0) (fun h => ?_) (fun x i j hx hi1 hj1 _ => ?_)
            · have := (nb_all (CNL_sq L lo hi 0 0)).mp h 0 1 (by omega) (by omega) rfl
              omega
            · by_cases c : x = 0
              · subst c
                have e : sqL L lo hi 0 1 i = sqL L lo hi 0 1 j := by rw [e0 i hi1, e0 j hj1]; rfl
                rw [sqL_s] at e
                exact (ctL_tg (h0 _) hi1 hj1).mp e
              · obtain rfl : x = 1 := by omega
                have e : sqL L lo hi 1 1 i = sqL L lo hi 1 1 j := by rw [e1 i hi1, e1 j hj1]; rfl
                rw [sqL_s] at e
                exact (ctL_tg (h0 _) hi1 hj1).mp e
      rw [rs_dead d a3]
      rfl
    · obtain ⟨b1, b2, b3, s, b4⟩ := rs_one a2 a4 c2
      rcases rs_none h0 a1 with h | e0
      · exact absurd b4 (h 1 s)
      · have := rs_next h2 (a := 0) (b := 1) (fun _ => rfl) e0 a4 (by omega) (by omega) a3
        rw [if_neg (by omega), if_neg (by omega), if_pos (by omega), if_pos (by omega)]
        exact b1.symm
  · obtain ⟨b1, b2, b3, s, b4⟩ := rs_one a1 a3 c1
    rw [if_pos c1]
    by_cases c2 : yc = -1
    · rw [c2] at a2
      rcases rs_none h0 a2 with h | e1
      · exact absurd b4 (h 0 s)
      · have := rs_next h2 (a := 1) (b := 0) (fun s => sq_par L lo hi 0 s) e1 a3 (by omega) (by omega) a4
        rw [if_neg (fun h => h c2), if_neg (show ¬ xr = -1 by omega), if_pos (show yr ≠ -1 by omega), if_neg (show ¬ yr < xr by omega)]
        exact b1.symm
    · obtain ⟨d1, d2, d3, -⟩ := rs_one a2 a4 c2
      rw [if_pos c2, if_neg (show ¬ xr = -1 by omega), if_pos (show yr ≠ -1 by omega), b1, d1]
theorem rs_few (h2 : L ≤ 1) {xr yr : Int} (a3 : RsR L lo hi 0 xr) (a4 : RsR L lo hi 1 yr) : (if xr = -1 then -1 else if yr ≠ -1 then (if yr < xr then yr else xr) else -1) = (0 : Int) := by
  have n0 : ∀ a, nbL L (sqL L lo hi a 0) = L := fun a => (nb_all (CNL_sq _ _ _ _ _)).mpr (fun i j _ _ _ => by omega)
  have z : ∀ a x, RsR L lo hi a x → x = 0 := fun a x h => by
    rcases h with ⟨t, t1, t2, t3, t4⟩ | ⟨-, h⟩
    · by_cases c : 0 < t
      · exact absurd (n0 a) (t4 0 c)
      · omega
    · exact absurd (n0 a) (h 0 (by omega))
  rw [z 0 _ a3, z 1 _ a4]
  rfl
end SQS
