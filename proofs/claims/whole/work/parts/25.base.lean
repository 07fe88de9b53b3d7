/-! ===== loops, booleans, what the shape says ===== -/
def bi (b : Bool) : Int := if b then 1 else 0
theorem bi_t : bi true = 1 := rfl
theorem bi_f : bi false = 0 := rfl
theorem bi_ceq (b : Bool) : (sk_cond .eq (sj (bi b)) (sj 0) = true) = (b = false) := by cases b <;> decide
theorem bi_cne (b : Bool) : (sk_cond .ne (sj (bi b)) (sj 0) = true) = (b = true) := by cases b <;> decide
theorem bi_01 (b : Bool) : (sj (bi b) = 0 ∨ sj (bi b) = 1) = True := by cases b <;> decide
theorem bi_rng (b : Bool) : 0 ≤ bi b ∧ bi b ≤ 1 := by cases b <;> decide
theorem sj_v0 {a : Int} (h1 : -2147483648 ≤ a) (h2 : a < 2147483648) : (sj a = 0) = (a = 0) := by
  rw [sj_0]
  exact propext (sj_inj h1 h2 (by omega) (by omega))
theorem sj_v01 {a : Int} (h1 : -2147483648 ≤ a) (h2 : a < 2147483648) : (sj a = 0 ∨ sj a = 1) = (a = 0 ∨ a = 1) := by
  rw [sj_0, sj_1]
  exact propext (or_congr (sj_inj h1 h2 (by omega) (by omega)) (sj_inj h1 h2 (by omega) (by omega)))
def anyTo : Nat → (Nat → Bool) → Bool
  | 0, _ => false
  | n + 1, P => anyTo n P || P n
theorem anyTo_iff (n : Nat) (P : Nat → Bool) : anyTo n P = true ↔ ∃ k, k < n ∧ P k = true := by
  induction n with
  | zero => simp [anyTo]
  | succ n ih =>
    simp only [anyTo, Bool.or_eq_true, ih]
    constructor
    · rintro (⟨k, h1, h2⟩ | h)
      · exact ⟨k, by omega, h2⟩
      · exact ⟨n, by omega, h⟩
    · rintro ⟨k, h1, h2⟩
      by_cases h : k = n
      · subst h; exact Or.inr h2
      · exact Or.inl ⟨k, by omega, h2⟩
theorem anyTo_congr {n : Nat} {P Q : Nat → Bool} (h : ∀ k, k < n → P k = Q k) : anyTo n P = anyTo n Q := by
  induction n with
  | zero => rfl
  | succ n ih =>
    simp only [anyTo]
    rw [ih (fun k hk => h k (by omega)), h n (by omega)]
def fld {σ : Type} : Nat → (Nat → σ → σ) → σ → σ
  | 0, _, s => s
  | n + 1, f, s => f n (fld n f s)
theorem fld_congr {σ : Type} {n : Nat} {f g : Nat → σ → σ} (h : ∀ k s, k < n → f k s = g k s) (s : σ) : fld n f s = fld n g s := by
  induction n with
  | zero => rfl
  | succ n ih =>
    simp only [fld]
    rw [ih (fun k s hk => h k s (by omega)), h n _ (by omega)]
theorem fld_inv {σ : Type} (Inv : Nat → σ → Prop) {f : Nat → σ → σ} {n : Nat} (h : ∀ k s, k < n → Inv k s → Inv (k + 1) (f k s)) {s : σ} (h0 : Inv 0 s) : Inv n (fld n f s) := by
  induction n with
  | zero => exact h0
  | succ n ih => exact h n _ (by omega) (ih (fun k s hk => h k s (by omega)))
/-- a loop that only looks -/
theorem lp_any {α γ : Type} (F : Nat → γ → α) (P : Nat → Bool) (n : Nat) (yes no : α) (h1 : ∀ k g, k < n → P k = true → F k g = yes) (h2 : ∀ k g, k < n → P k = false → ∃ g', F k g = F (k + 1) g') (h3 : ∀ g, F n g = no) (g : γ) : F 0 g = if anyTo n P = true then yes else no := by
  have key : ∀ m k, m + k = n → anyTo k P = false → ∀ g, F k g = if anyTo n P = true then yes else no := by
    intro m
    induction m with
    | zero =>
      intro k hk hf g
      obtain rfl : k = n := by omega
      rw [h3, hf]
      rfl
    | succ m ih =>
      intro k hk hf g
      cases hp : P k with
      | true =>
        rw [h1 k g (by omega) hp, if_pos ((anyTo_iff n P).mpr ⟨k, by omega, hp⟩)]
      | false =>
        obtain ⟨g', e⟩ := h2 k g (by omega) hp
        rw [e]
        exact ih (k + 1) (by omega) (by simp [anyTo, hf, hp]) g'
  exact key n 0 (by omega) rfl g
/-- a loop that goes through -/
theorem lp_fold {α γ σ : Type} (F : Nat → σ → γ → α) (st : Nat → σ → σ) (n : Nat) (Inv : Nat → σ → Prop) (h : ∀ k s g, k < n → Inv k s → Inv (k + 1) (st k s) ∧ ∃ g', F k s g = F (k + 1) (st k s) g') (s : σ) (g : γ) (h0 : Inv 0 s) : Inv n (fld n st s) ∧ ∃ g', F 0 s g = F n (fld n st s) g' := by
  induction n with
  | zero => exact ⟨h0, g, rfl⟩
  | succ n ih =>
    obtain ⟨i1, g1, e1⟩ := ih (fun k s g hk => h k s g (by omega))
    obtain ⟨i2, g2, e2⟩ := h n _ g1 (by omega) i1
    exact ⟨i2, g2, e1.trans e2⟩
/-- the same without garbage -/
theorem lp_fold0 {α σ : Type} (F : Nat → σ → α) (st : Nat → σ → σ) (n : Nat) (Inv : Nat → σ → Prop) (h : ∀ k s, k < n → Inv k s → Inv (k + 1) (st k s) ∧ F k s = F (k + 1) (st k s)) (s : σ) (h0 : Inv 0 s) : Inv n (fld n st s) ∧ F 0 s = F n (fld n st s) := by
  obtain ⟨i, g, e⟩ := lp_fold (γ := Unit) (fun k s _ => F k s) st n Inv (fun k s _ hk hi => ⟨(h k s hk hi).1, (), (h k s hk hi).2⟩) s () h0
  exact ⟨i, e⟩
def cntTo (n : Nat) (P : Nat → Bool) : Int := fld n (fun k s => if P k = true then s + 1 else s) 0
def sumTo (n : Nat) (f : Nat → Int) : Int := fld n (fun k s => s + f k) 0
def maxTo (n : Nat) (f : Nat → Int) (s : Int) : Int := fld n (fun k s => if s < f k then f k else s) s
theorem cntTo_rng (n : Nat) (P : Nat → Bool) : 0 ≤ cntTo n P ∧ cntTo n P ≤ n := by
  refine fld_inv (fun k (s : Int) => 0 ≤ s ∧ s ≤ k) (fun k s hk h => ?_) ⟨by omega, by omega⟩
  split <;> omega
theorem cntTo_succ (n : Nat) (P : Nat → Bool) : cntTo (n + 1) P = if P n = true then cntTo n P + 1 else cntTo n P := rfl
theorem sumTo_succ (n : Nat) (f : Nat → Int) : sumTo (n + 1) f = sumTo n f + f n := rfl
theorem maxTo_succ (n : Nat) (f : Nat → Int) (s : Int) : maxTo (n + 1) f s = if maxTo n f s < f n then f n else maxTo n f s := rfl
/-- the shape of all but the script and what comes later -/
def sk_S0 (L : Nat) : List sk_Sh := (sk_w0 (.inl (L, fun _ => 0))).map sk_sh
def sk_G (S : List sk_Sh) : Prop := ∀ a, a < 132 → S[a + 1]? = (sk_S0 0)[a + 1]?
theorem sk_G_of (L : Nat) (T : List sk_Sh) : sk_G (sk_S0 L ++ T) := by
  intro a ha
  rw [List.getElem?_append_left]
  · rfl
  · exact Nat.lt_of_lt_of_le (Nat.succ_lt_succ ha) (Nat.le_of_eq rfl)
def sk_isP (a : Nat) : Prop := a = 15 ∨ a = 34 ∨ a = 53
abbrev pt (S : List sk_Sh) (b : Nat) : Prop := S[b]? = some (.inr (.inr (2, [none, none, none, none, none, none, none, none, none, none])))
