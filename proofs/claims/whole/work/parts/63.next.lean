/-! ===== orders: sorted, and the next ===== -/
def exF {α : Type} (g : Nat → α) (i j : Nat) : Nat → α := fun k => g (if k = j then i else if k = i then j else k)
def fst1 (le : Nat → Nat → Bool) : Nat → Option Nat
  | 0 => none
  | m + 1 => if le m (m + 1) = true then some m else fst1 le m
def lst1 (le : Nat → Nat → Bool) (i : Nat) : Nat → Nat
  | 0 => 0
  | m + 1 => if m + 1 ≤ i ∨ le i (m + 1) = true then m + 1 else lst1 le i m
def rvF {α : Type} : Nat → (Nat → α) → Nat → Nat → (Nat → α)
  | 0, g, _, _ => g
  | m + 1, g, a, b => if b ≤ a then g else rvF m (exF g a b) (a + 1) (b - 1)
def nxF {α : Type} (le : α → α → Bool) (n : Nat) (g : Nat → α) : Option (Nat → α) := match fst1 (fun i j => le (g i) (g j)) (n - 1) with
  | none => none
  | some i => some (rvF n (exF g i (lst1 (fun i j => le (g i) (g j)) i (n - 1))) (i + 1) (n - 1))
def trmF {α : Type} (le : α → α → Bool) (n : Nat) : Nat → (Nat → α) → Bool
  | 0, _ => false
  | m + 1, g => match nxF le n g with
    | none => true
    | some g' => trmF le n m g'
theorem trm_0 : trmF Nat.ble 0 120 (fun k => k) = true := by decide +kernel
theorem trm_1 : trmF Nat.ble 1 120 (fun k => k) = true := by decide +kernel
theorem trm_2 : trmF Nat.ble 2 120 (fun k => k) = true := by decide +kernel
theorem trm_3 : trmF Nat.ble 3 120 (fun k => k) = true := by decide +kernel
theorem trm_4 : trmF Nat.ble 4 120 (fun k => k) = true := by decide +kernel
theorem trm_5 : trmF Nat.ble 5 120 (fun k => k) = true := by decide +kernel
theorem fst1_congr {le le' : Nat → Nat → Bool} : ∀ m, (∀ i j, i ≤ m → j ≤ m → le i j = le' i j) → fst1 le m = fst1 le' m := by
  intro m
  induction m with
  | zero => intro _; rfl
  | succ m ih =>
    intro h
    unfold fst1
    rw [h m (m + 1) (by omega) (by omega), ih (fun i j a b => h i j (by omega) (by omega))]
theorem lst1_congr {le le' : Nat → Nat → Bool} {i : Nat} : ∀ m, (∀ j, j ≤ m → le i j = le' i j) → lst1 le i m = lst1 le' i m := by
  intro m
  induction m with
  | zero => intro _; rfl
  | succ m ih =>
    intro h
    unfold lst1
    rw [h (m + 1) (by omega), ih (fun j a => h j (by omega))]
theorem fst1_lt {le : Nat → Nat → Bool} {i : Nat} : ∀ m, fst1 le m = some i → i < m := by
  intro m
  induction m with
  | zero => intro h; cases h
  | succ m ih =>
    intro h
    unfold fst1 at h
    split at h
    · cases h; omega
    · have := ih h; omega
theorem lst1_le {le : Nat → Nat → Bool} {i : Nat} : ∀ m, lst1 le i m ≤ m := by
  intro m
  induction m with
  | zero => exact Nat.le_refl _
  | succ m ih =>
    unfold lst1
    split
    · exact Nat.le_refl _
    · omega
theorem rvF_rel {α : Type} (s : Nat → α) : ∀ m (r : Nat → Nat) a b, rvF m (fun k => s (r k)) a b = fun k => s (rvF m r a b k) := by
  intro m
  induction m with
  | zero => intro r a b; rfl
  | succ m ih =>
    intro r a b
    unfold rvF
    by_cases c : b ≤ a
    · rw [if_pos c, if_pos c]
    · rw [if_neg c, if_neg c]
      exact ih (exF r a b) (a + 1) (b - 1)
theorem exF_lt {n : Nat} {r : Nat → Nat} (h : ∀ k, k < n → r k < n) {i j : Nat} (hi : i < n) (hj : j < n) : ∀ k, k < n → exF r i j k < n := by
  intro k hk
  unfold exF
  refine h _ ?_
  split
  · exact hi
  · split <;> omega
theorem rvF_lt {n : Nat} : ∀ m (r : Nat → Nat) a b, (∀ k, k < n → r k < n) → b < n → ∀ k, k < n → rvF m r a b k < n := by
  intro m
  induction m with
  | zero => intro r a b h _; exact h
  | succ m ih =>
    intro r a b h hb
    unfold rvF
    by_cases c : b ≤ a
    · rw [if_pos c]; exact h
    · rw [if_neg c]
      exact ih (exF r a b) (a + 1) (b - 1) (exF_lt h (by omega) hb) (by omega)
theorem nxF_rel {α : Type} {le : α → α → Bool} {s : Nat → α} {n : Nat} (hs : ∀ i j, i < n → j < n → le (s i) (s j) = Nat.ble i j) {r : Nat → Nat} (hr : ∀ k, k < n → r k < n) : nxF le n (fun k => s (r k)) = (nxF Nat.ble n r).map (fun r' k => s (r' k)) ∧ ∀ r', nxF Nat.ble n r = some r' → ∀ k, k < n → r' k < n := by
  by_cases n0 : n = 0
  · subst n0
    exact ⟨rfl, fun r' h k hk => absurd hk (by omega)⟩
  have e : ∀ i j, i ≤ n - 1 → j ≤ n - 1 → le (s (r i)) (s (r j)) = Nat.ble (r i) (r j) := fun i j a b => hs _ _ (hr i (by omega)) (hr j (by omega))
  unfold nxF
  rw [fst1_congr (le := fun i j => le (s (r i)) (s (r j))) (le' := fun i j => Nat.ble (r i) (r j)) (n - 1) e]
  cases hf : fst1 (fun i j => Nat.ble (r i) (r j)) (n - 1) with
  | none => exact ⟨rfl, fun r' h => by cases h⟩
  | some i =>
    have hi := fst1_lt _ hf
    dsimp only
    rw [lst1_congr (le := fun i j => le (s (r i)) (s (r j))) (le' := fun i j => Nat.ble (r i) (r j)) (n - 1) (fun j hj => e i j (by omega) hj)]
    have hl := lst1_le (le := fun i j => Nat.ble (r i) (r j)) (i := i) (n - 1)
    generalize lst1 (fun i j => Nat.ble (r i) (r j)) i (n - 1) = l at *
    refine ⟨congrArg some (rvF_rel s n (exF r i l) (i + 1) (n - 1)), fun r' h => ?_⟩
    cases h
    exact rvF_lt n (exF r i l) (i + 1) (n - 1) (exF_lt hr (by omega) (by omega)) (by omega)
theorem trmF_rel {α : Type} {le : α → α → Bool} {s : Nat → α} {n : Nat} (hs : ∀ i j, i < n → j < n → le (s i) (s j) = Nat.ble i j) : ∀ m (r : Nat → Nat), (∀ k, k < n → r k < n) → trmF le n m (fun k => s (r k)) = trmF Nat.ble n m r := by
  intro m
  induction m with
  | zero => intro r _; rfl
  | succ m ih =>
    intro r hr
    obtain ⟨h1, h2⟩ := nxF_rel hs hr
    unfold trmF
    rw [h1]
    cases hx : nxF Nat.ble n r with
    | none => rfl
    | some r' => exact ih r' (h2 r' hx)
theorem trm_n {n : Nat} (hn : n ≤ 5) : trmF Nat.ble n 120 (fun k => k) = true := by
  obtain rfl | rfl | rfl | rfl | rfl | rfl := (by omega : n = 0 ∨ n = 1 ∨ n = 2 ∨ n = 3 ∨ n = 4 ∨ n = 5)
  · exact trm_0
  · exact trm_1
  · exact trm_2
  · exact trm_3
  · exact trm_4
  · exact trm_5
/-! sorted -/
def leI (a b : Int) : Bool := decide (a ≤ b)
def in1 : Nat → (Nat → Int) → (Nat → Int)
  | 0, g => g
  | m + 1, g => if g m ≤ g (m + 1) then g else in1 m (exF g (m + 1) m)
def srF : Nat → (Nat → Int) → (Nat → Int)
  | 0, g => g
  | k + 1, g => in1 k (srF k g)
theorem in1_hi : ∀ m g k, m < k → in1 m g k = g k := by
  intro m
  induction m with
  | zero => intro g k _; rfl
  | succ m ih =>
    intro g k hk
    unfold in1
    split
    · rfl
    · rw [ih _ k (by omega)]
      unfold exF
      rw [if_neg (by omega), if_neg (by omega)]
theorem in1_bd {X : Int} : ∀ m g, (∀ k, k ≤ m → g k ≤ X) → ∀ k, k ≤ m → in1 m g k ≤ X := by
  intro m
  induction m with
  | zero => intro g h; exact h
  | succ m ih =>
    intro g h k hk
    unfold in1
    split
    · exact h k hk
    · by_cases c : k = m + 1
      · subst c
        rw [in1_hi _ _ _ (by omega)]
        unfold exF
        rw [if_neg (by omega), if_pos rfl]
        exact h m (by omega)
      · refine ih _ (fun k hk => ?_) k (by omega)
        unfold exF
        split
        · exact h _ (by omega)
        · rw [if_neg (by omega)]; exact h k (by omega)
theorem in1_sr : ∀ m g, (∀ i j, i < j → j < m → g i ≤ g j) → ∀ i j, i < j → j < m + 1 → in1 m g i ≤ in1 m g j := by
  intro m
  induction m with
  | zero => intro g _ i j a b; omega
  | succ m ih =>
    intro g h i j hij hj
    unfold in1
    by_cases c : g m ≤ g (m + 1)
    · rw [if_pos c]
      by_cases e : j = m + 1
      · subst e
        by_cases f : i = m
        · subst f; exact c
        · have := h i m (by omega) (by omega); omega
      · exact h i j hij (by omega)
    · rw [if_neg c]
      by_cases e : j = m + 1
      · subst e
        rw [in1_hi _ _ (m + 1) (by omega)]
        have x1 : exF g (m + 1) m (m + 1) = g m := by unfold exF; rw [if_neg (by omega), if_pos rfl]
        rw [x1]
        refine in1_bd m _ (fun k hk => ?_) i (by omega)
        unfold exF
        by_cases f : k = m
        · rw [if_pos f]; omega
        · rw [if_neg f, if_neg (by omega)]; exact h k m (by omega) (by omega)
      · refine ih _ (fun i j a b => ?_) i j hij (by omega)
        unfold exF
        rw [if_neg (by omega), if_neg (by omega), if_neg (by omega), if_neg (by omega)]
        exact h i j a (by omega)
theorem srF_sr (n : Nat) (g : Nat → Int) : ∀ i j, i < j → j < n → srF n g i ≤ srF n g j := by
  induction n with
  | zero => intro i j _ h; omega
  | succ n ih => exact in1_sr n _ ih
/-! on plans -/
def st9 (v : sk_H) (g : Nat → Int) : sk_H := fun s k => if s = 9 then g k else v s k
theorem st9_9 (v : sk_H) (g : Nat → Int) : st9 v g 9 = g := funext fun _ => if_pos rfl
theorem st9_ne (v : sk_H) (g : Nat → Int) {s : Nat} (k : Nat) (h : s ≠ 9) : st9 v g s k = v s k := if_neg h
theorem st9_st9 (v : sk_H) (g g' : Nat → Int) : st9 (st9 v g) g' = st9 v g' := by
  funext s k
  by_cases c : s = 9
  · subst c; rw [st9_9, st9_9]
  · rw [st9_ne _ _ _ c, st9_ne _ _ _ c, st9_ne _ _ _ c]
theorem st9_id (v : sk_H) : st9 v (v 9) = v := by
  funext s k
  by_cases c : s = 9
  · subst c; rw [st9_9]
  · rw [st9_ne _ _ _ c]
theorem exV_st9 (v : sk_H) (i j : Nat) : exV v i j = st9 v (exF (v 9) i j) := by
  funext s k
  by_cases c : s = 9
  · subst c; rw [st9_9, exV_9]; rfl
  · rw [st9_ne _ _ _ c, exV_ne _ _ _ c]
theorem exV_nine (v : sk_H) (i j : Nat) : exV v i j 9 = exF (v 9) i j := by rw [exV_st9, st9_9]
theorem VT_rv : ∀ (m : Nat) (v : sk_H) (a b : Nat), VT v → (b : Int) < v 0 2 → VT (st9 v (rvF m (v 9) a b)) := by
  intro m
  induction m with
  | zero => intro v a b h _; rw [show rvF 0 (v 9) a b = v 9 from rfl, st9_id]; exact h
  | succ m ih =>
    intro v a b h hb
    unfold rvF
    by_cases c : b ≤ a
    · rw [if_pos c, st9_id]; exact h
    · rw [if_neg c]
      have := ih (exV v a b) (a + 1) (b - 1) (VT_exV h (by omega) hb) (by rw [exV_ne _ _ _ (by omega)]; omega)
      rw [exV_nine, exV_st9, st9_st9] at this
      exact this
theorem VT_nx {v : sk_H} (h : VT v) {n : Nat} (hn : v 0 2 = n) {g : Nat → Int} (hg : nxF leI n (v 9) = some g) : VT (st9 v g) := by
  unfold nxF at hg
  cases hf : fst1 (fun i j => leI (v 9 i) (v 9 j)) (n - 1) with
  | none => rw [hf] at hg; cases hg
  | some i =>
    rw [hf] at hg
    have hi := fst1_lt _ hf
    have hl := lst1_le (le := fun i j => leI (v 9 i) (v 9 j)) (i := i) (n - 1)
    dsimp only at hg
    generalize lst1 (fun i j => leI (v 9 i) (v 9 j)) i (n - 1) = l at *
    cases hg
    have := VT_rv n (exV v i l) (i + 1) (n - 1) (VT_exV h (by omega) (by omega)) (by rw [exV_ne _ _ _ (by omega)]; omega)
    rw [exV_nine, exV_st9, st9_st9] at this
    exact this
theorem VT_in1 : ∀ (m : Nat) (v : sk_H), VT v → (m : Int) < v 0 2 → VT (st9 v (in1 m (v 9))) := by
  intro m
  induction m with
  | zero => intro v h _; rw [show in1 0 (v 9) = v 9 from rfl, st9_id]; exact h
  | succ m ih =>
    intro v h hm
    unfold in1
    by_cases c : v 9 m ≤ v 9 (m + 1)
    · rw [if_pos c, st9_id]; exact h
    · rw [if_neg c]
      have := ih (exV v (m + 1) m) (VT_exV h (by omega) (by omega)) (by rw [exV_ne _ _ _ (by omega)]; omega)
      rw [exV_nine, exV_st9, st9_st9] at this
      exact this
theorem VT_srF {v : sk_H} (h : VT v) : ∀ n : Nat, (n : Int) ≤ v 0 2 → VT (st9 v (srF n (v 9))) := by
  intro n
  induction n with
  | zero => intro _; rw [show srF 0 (v 9) = v 9 from rfl, st9_id]; exact h
  | succ n ih =>
    intro hn
    have := VT_in1 n _ (ih (by omega)) (by rw [st9_ne _ _ _ (by omega)]; omega)
    rw [st9_9, st9_st9] at this
    exact this
theorem srV_st {v : sk_H} (h : VT v) {n : Nat} (hn : v 0 2 = n) : ∀ i j, i < n → j < n → leI (srF n (v 9) i) (srF n (v 9) j) = Nat.ble i j := by
  have hT := VT_srF h n (by omega)
  have hd := hT.1.2.2.1.2
  have sr := srF_sr n (v 9)
  have e2 : st9 v (srF n (v 9)) 0 2 = n := (st9_ne _ _ _ (by omega)).trans hn
  rw [e2, st9_9] at hd
  intro i j hi hj
  unfold leI
  by_cases c : i ≤ j
  · rw [show Nat.ble i j = true from Nat.ble_eq.mpr c]
    by_cases e : i = j
    · subst e; exact decide_eq_true (Int.le_refl _)
    · exact decide_eq_true (sr i j (by omega) hj)
  · rw [show Nat.ble i j = false from Bool.eq_false_iff.mpr (fun h => c (Nat.ble_eq.mp h))]
    refine decide_eq_false (fun h => ?_)
    have h1 := sr j i (by omega) hi
    have := hd i j (by omega) (by omega) (by omega)
    omega
theorem trm_srV {v : sk_H} (h : VT v) {n : Nat} (hn : v 0 2 = n) (h5 : n ≤ 5) : trmF leI n 120 (srF n (v 9)) = true := (trmF_rel (srV_st h hn) 120 (fun k => k) (fun k hk => hk)).trans (trm_n h5)
