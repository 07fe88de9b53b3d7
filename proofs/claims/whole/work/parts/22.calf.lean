/-! ===== runs that compute: what the constructors make ===== -/
theorem sk_push_le {z : Nat} {o1 o2 : Option sk_R} {k : List Value → sk_W → Option sk_R} {r : sk_R} (hle : ∀ q, o1 = some q → o2 = some q) (h : sk_push z o1 k = some r) : sk_push z o2 k = some r := by
  cases ho : o1 with
  | none =>
    rw [ho] at h
    unfold sk_push at h
    split at h <;> cases h
  | some q =>
    rw [ho] at h
    rw [hle q ho]
    exact h
theorem sk_step_cal {cal1 cal2 : Nat → List Value → sk_W → Option sk_R} (hle : ∀ (mi : Nat) (as : List Value) (w : sk_W) (r : sk_R), cal1 mi as w = some r → cal2 mi as w = some r) {fields : Nat → List Value} {rz : Bool} {i : Instr} {x y z pc : Nat} {ls : sk_L} {st : List Value} {w : sk_W} {k : sk_K} {r : sk_R} (h : sk_step cal1 fields rz i x y z pc ls st w k = some r) : sk_step cal2 fields rz i x y z pc ls st w k = some r := by
  cases i
  case invokevirtual n =>
    unfold sk_step at h ⊢
    dsimp only at h ⊢
    split at h
    · split at h
      · next hc =>
        rw [if_pos hc]
        exact sk_push_le (fun q hq => hle _ _ _ _ hq) h
      · cases h
    · cases h
  case invokespecial n =>
    unfold sk_step at h ⊢
    dsimp only at h ⊢
    split at h
    · next hx => rw [if_pos hx]; exact h
    · next hx =>
      rw [if_neg hx]
      split at h
      · split at h
        · next hc =>
          rw [if_pos hc]
          exact sk_push_le (fun q hq => hle _ _ _ _ hq) h
        · cases h
      · cases h
  case invokestatic n =>
    unfold sk_step at h ⊢
    dsimp only at h ⊢
    split at h
    · next hx => rw [if_pos hx]; exact h
    · next hx =>
      rw [if_neg hx]
      split at h
      · exact sk_push_le (fun q hq => hle _ _ _ _ hq) h
      · cases h
  all_goals exact h
theorem sk_run_cal {cal1 cal2 : Nat → List Value → sk_W → Option sk_R} (hle : ∀ (mi : Nat) (as : List Value) (w : sk_W) (r : sk_R), cal1 mi as w = some r → cal2 mi as w = some r) {fields : Nat → List Value} {rz : Bool} {tab : List sk_E} : ∀ (n pc : Nat) (ls : sk_L) (st : List Value) (w : sk_W) (r : sk_R), sk_run cal1 fields rz tab n pc ls st w = some r → sk_run cal2 fields rz tab n pc ls st w = some r := by
  intro n
  induction n with
  | zero => intro pc ls st w r h; cases h
  | succ n ih =>
    intro pc ls st w r h
    rw [sk_run_one] at h ⊢
    unfold sk_one at h ⊢
    split at h
    · cases h
    · next i x y z hf =>
      have h1 := sk_step_cal hle h
      rcases sk_step_lin cal2 fields rz i x y z pc ls st w _ _ h1 with h2 | ⟨pc', ls', st', w', h2, h3⟩
      · exact h2 _
      · exact h3 _ (ih _ _ _ _ _ h2)
def sk_calF (N : Nat) : Nat → Nat → List Value → sk_W → Option sk_R
  | 0, _, _, _ => none
  | d + 1, mi, as, w => if 3 ≤ mi ∧ as.length ≤ (sk_inf mi).2.2.1 ∧ as.all (fun v => v.category == 1) = true then sk_run (sk_calF N d) sk_fields (sk_rz (sk_inf mi)) (sk_tabs mi) N 0 (sk_locs as (sk_inf mi).2.2.1) [] w else none
theorem sk_calF_le (N : Nat) : ∀ (d mi : Nat) (as : List Value) (w : sk_W) (r : sk_R), sk_calF N d mi as w = some r → sk_c d mi as w = some r := by
  intro d
  induction d with
  | zero => intro mi as w r h; cases h
  | succ d ih =>
    intro mi as w r h
    unfold sk_calF at h
    split at h
    · next hc =>
      have h1 : sk_run (sk_c d) sk_fields (sk_rz (sk_inf mi)) (sk_tabs mi) N 0 (sk_locs as (sk_inf mi).2.2.1) [] w = some r := sk_run_cal ih N _ _ _ _ _ h
      show sk_cal sk_prims sk_inf sk_tabs (d + 1) mi as w = some r
      unfold sk_cal
      have hp : sk_prims mi = none := by
        match mi, hc.1 with
        | mi + 3, _ => rfl
      rw [hp]
      dsimp only
      rw [if_pos hc.2]
      exact sk_den_of _ _ _ _ h1
    · cases h
