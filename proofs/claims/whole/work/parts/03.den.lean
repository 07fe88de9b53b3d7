/-! ===== what a run comes to, without counting its instructions ===== -/
/-- an instruction goes on at one place, or answers -/
def sk_Lin (F : sk_K → Option sk_R) : Prop := ∀ (k : sk_K) (r : sk_R), F k = some r → (∀ k' : sk_K, F k' = some r) ∨ ∃ (pc : Nat) (ls : sk_L) (st : List Value) (w : sk_W), k pc ls st w = some r ∧ ∀ k' : sk_K, k' pc ls st w = some r → F k' = some r
theorem sk_Lin.none : sk_Lin (fun _ => Option.none) := fun _ _ h => by cases h
theorem sk_Lin.at (pc : Nat) (ls : sk_L) (st : List Value) (w : sk_W) : sk_Lin (fun k => k pc ls st w) := fun _ _ h => Or.inr ⟨pc, ls, st, w, h, fun _ h => h⟩
theorem sk_Lin.ret (r : Option sk_R) : sk_Lin (fun _ => r) := fun _ _ h => Or.inl fun _ => h
theorem sk_Lin.ite {c : Prop} [Decidable c] {F G : sk_K → Option sk_R} (hF : sk_Lin F) (hG : sk_Lin G) : sk_Lin (fun k => if c then F k else G k) := by
  by_cases h : c
  · simp only [h, if_true]; exact hF
  · simp only [h, if_false]; exact hG
theorem sk_Lin.bind {α : Type} (o : Option α) {F : α → sk_K → Option sk_R} (hF : ∀ a, sk_Lin (F a)) : sk_Lin (fun k => o.bind fun a => F a k) := by
  cases o with
  | none => exact sk_Lin.none
  | some a => exact hF a
theorem sk_Lin.push (z : Nat) (o : Option sk_R) {F : List Value → sk_W → sk_K → Option sk_R} (hF : ∀ v w, sk_Lin (F v w)) : sk_Lin (fun k => sk_push z o fun v w => F v w k) := by
  unfold sk_push
  rcases o with _ | ⟨_ | v, w⟩
  · split <;> exact sk_Lin.none
  · split
    · exact hF _ _
    · exact sk_Lin.none
    · exact sk_Lin.none
  · cases v <;> split <;> first | exact sk_Lin.none | exact hF _ _
theorem sk_Lin.sw (v : Int32) (pc d : Int) (ls : sk_L) (st : List Value) (w : sk_W) : ∀ (os : List Int) (lo : Int), sk_Lin (fun k => sk_sw v pc d (fun t => k t ls st w) lo os)
  | [], _ => sk_Lin.at _ _ _ _
  | o :: os, lo => by
    unfold sk_sw
    exact sk_Lin.ite (sk_Lin.at _ _ _ _) (sk_Lin.sw v pc d ls st w os (lo + 1))
set_option maxHeartbeats 4000000 in
theorem sk_step_lin (cal : Nat → List Value → sk_W → Option sk_R) (fields : Nat → List Value) (rz : Bool) (i : Instr) (x y z pc : Nat) (ls : sk_L) (st : List Value) (w : sk_W) : sk_Lin (fun k => sk_step cal fields rz i x y z pc ls st w k) := by
  unfold sk_step
  cases i
  case iconst n => exact sk_Lin.at _ _ _ _
  case bipush n => exact sk_Lin.at _ _ _ _
  case sipush n => exact sk_Lin.at _ _ _ _
  case ldc n => exact sk_Lin.at _ _ _ _
  case fconst n => exact sk_Lin.at _ _ _ _
  case goto n => exact sk_Lin.at _ _ _ _
  case new n => exact sk_Lin.at _ _ _ _
  case ldc_w n => exact sk_Lin.ite (sk_Lin.at _ _ _ _) (sk_Lin.at _ _ _ _)
  case iload_n n =>
    dsimp only
    generalize sk_at ls n.val = q
    rcases q with _ | v
    · exact sk_Lin.none
    · cases v <;> first | exact sk_Lin.none | exact sk_Lin.at _ _ _ _
  case iload n =>
    dsimp only
    generalize sk_at ls n = q
    rcases q with _ | v
    · exact sk_Lin.none
    · cases v <;> first | exact sk_Lin.none | exact sk_Lin.at _ _ _ _
  case fload_n n =>
    dsimp only
    generalize sk_at ls n.val = q
    rcases q with _ | v
    · exact sk_Lin.none
    · cases v <;> first | exact sk_Lin.none | exact sk_Lin.at _ _ _ _
  case fload n =>
    dsimp only
    generalize sk_at ls n = q
    rcases q with _ | v
    · exact sk_Lin.none
    · cases v <;> first | exact sk_Lin.none | exact sk_Lin.at _ _ _ _
  case aload_n n =>
    dsimp only
    generalize sk_at ls n.val = q
    rcases q with _ | v
    · exact sk_Lin.none
    · cases v <;> first | exact sk_Lin.none | exact sk_Lin.at _ _ _ _
  case aload n =>
    dsimp only
    generalize sk_at ls n = q
    rcases q with _ | v
    · exact sk_Lin.none
    · cases v <;> first | exact sk_Lin.none | exact sk_Lin.at _ _ _ _
  case iinc n c =>
    dsimp only
    generalize sk_at ls n = q
    rcases q with _ | v
    · exact sk_Lin.none
    · cases v <;> first | exact sk_Lin.none | exact sk_Lin.at _ _ _ _
  case istore_n n =>
    rcases st with _ | ⟨v, st⟩
    · exact sk_Lin.none
    · cases v <;> dsimp only <;> (first | exact sk_Lin.none | exact sk_Lin.at _ _ _ _ | exact sk_Lin.ite (sk_Lin.at _ _ _ _) (sk_Lin.at _ _ _ _) | exact sk_Lin.ite (sk_Lin.at _ _ _ _) sk_Lin.none | exact sk_Lin.ite sk_Lin.none (sk_Lin.at _ _ _ _) | exact sk_Lin.bind _ fun _ => sk_Lin.at _ _ _ _ | exact sk_Lin.ite (sk_Lin.bind _ fun _ => sk_Lin.at _ _ _ _) (sk_Lin.bind _ fun _ => sk_Lin.at _ _ _ _) | exact sk_Lin.ite (sk_Lin.bind _ fun _ => sk_Lin.at _ _ _ _) sk_Lin.none | exact sk_Lin.ite (sk_Lin.bind _ fun _ => sk_Lin.at _ _ _ _) (sk_Lin.ite (sk_Lin.ite (sk_Lin.bind _ fun _ => sk_Lin.at _ _ _ _) sk_Lin.none) sk_Lin.none) | exact sk_Lin.sw _ _ _ _ _ _ _ _)
  case istore n =>
    rcases st with _ | ⟨v, st⟩
    · exact sk_Lin.none
    · cases v <;> dsimp only <;> (first | exact sk_Lin.none | exact sk_Lin.at _ _ _ _ | exact sk_Lin.ite (sk_Lin.at _ _ _ _) (sk_Lin.at _ _ _ _) | exact sk_Lin.ite (sk_Lin.at _ _ _ _) sk_Lin.none | exact sk_Lin.ite sk_Lin.none (sk_Lin.at _ _ _ _) | exact sk_Lin.bind _ fun _ => sk_Lin.at _ _ _ _ | exact sk_Lin.ite (sk_Lin.bind _ fun _ => sk_Lin.at _ _ _ _) (sk_Lin.bind _ fun _ => sk_Lin.at _ _ _ _) | exact sk_Lin.ite (sk_Lin.bind _ fun _ => sk_Lin.at _ _ _ _) sk_Lin.none | exact sk_Lin.ite (sk_Lin.bind _ fun _ => sk_Lin.at _ _ _ _) (sk_Lin.ite (sk_Lin.ite (sk_Lin.bind _ fun _ => sk_Lin.at _ _ _ _) sk_Lin.none) sk_Lin.none) | exact sk_Lin.sw _ _ _ _ _ _ _ _)
  case fstore_n n =>
    rcases st with _ | ⟨v, st⟩
    · exact sk_Lin.none
    · cases v <;> dsimp only <;> (first | exact sk_Lin.none | exact sk_Lin.at _ _ _ _ | exact sk_Lin.ite (sk_Lin.at _ _ _ _) (sk_Lin.at _ _ _ _) | exact sk_Lin.ite (sk_Lin.at _ _ _ _) sk_Lin.none | exact sk_Lin.ite sk_Lin.none (sk_Lin.at _ _ _ _) | exact sk_Lin.bind _ fun _ => sk_Lin.at _ _ _ _ | exact sk_Lin.ite (sk_Lin.bind _ fun _ => sk_Lin.at _ _ _ _) (sk_Lin.bind _ fun _ => sk_Lin.at _ _ _ _) | exact sk_Lin.ite (sk_Lin.bind _ fun _ => sk_Lin.at _ _ _ _) sk_Lin.none | exact sk_Lin.ite (sk_Lin.bind _ fun _ => sk_Lin.at _ _ _ _) (sk_Lin.ite (sk_Lin.ite (sk_Lin.bind _ fun _ => sk_Lin.at _ _ _ _) sk_Lin.none) sk_Lin.none) | exact sk_Lin.sw _ _ _ _ _ _ _ _)
  case fstore n =>
    rcases st with _ | ⟨v, st⟩
    · exact sk_Lin.none
    · cases v <;> dsimp only <;> (first | exact sk_Lin.none | exact sk_Lin.at _ _ _ _ | exact sk_Lin.ite (sk_Lin.at _ _ _ _) (sk_Lin.at _ _ _ _) | exact sk_Lin.ite (sk_Lin.at _ _ _ _) sk_Lin.none | exact sk_Lin.ite sk_Lin.none (sk_Lin.at _ _ _ _) | exact sk_Lin.bind _ fun _ => sk_Lin.at _ _ _ _ | exact sk_Lin.ite (sk_Lin.bind _ fun _ => sk_Lin.at _ _ _ _) (sk_Lin.bind _ fun _ => sk_Lin.at _ _ _ _) | exact sk_Lin.ite (sk_Lin.bind _ fun _ => sk_Lin.at _ _ _ _) sk_Lin.none | exact sk_Lin.ite (sk_Lin.bind _ fun _ => sk_Lin.at _ _ _ _) (sk_Lin.ite (sk_Lin.ite (sk_Lin.bind _ fun _ => sk_Lin.at _ _ _ _) sk_Lin.none) sk_Lin.none) | exact sk_Lin.sw _ _ _ _ _ _ _ _)
  case astore_n n =>
    rcases st with _ | ⟨v, st⟩
    · exact sk_Lin.none
    · cases v <;> dsimp only <;> (first | exact sk_Lin.none | exact sk_Lin.at _ _ _ _ | exact sk_Lin.ite (sk_Lin.at _ _ _ _) (sk_Lin.at _ _ _ _) | exact sk_Lin.ite (sk_Lin.at _ _ _ _) sk_Lin.none | exact sk_Lin.ite sk_Lin.none (sk_Lin.at _ _ _ _) | exact sk_Lin.bind _ fun _ => sk_Lin.at _ _ _ _ | exact sk_Lin.ite (sk_Lin.bind _ fun _ => sk_Lin.at _ _ _ _) (sk_Lin.bind _ fun _ => sk_Lin.at _ _ _ _) | exact sk_Lin.ite (sk_Lin.bind _ fun _ => sk_Lin.at _ _ _ _) sk_Lin.none | exact sk_Lin.ite (sk_Lin.bind _ fun _ => sk_Lin.at _ _ _ _) (sk_Lin.ite (sk_Lin.ite (sk_Lin.bind _ fun _ => sk_Lin.at _ _ _ _) sk_Lin.none) sk_Lin.none) | exact sk_Lin.sw _ _ _ _ _ _ _ _)
  case astore n =>
    rcases st with _ | ⟨v, st⟩
    · exact sk_Lin.none
    · cases v <;> dsimp only <;> (first | exact sk_Lin.none | exact sk_Lin.at _ _ _ _ | exact sk_Lin.ite (sk_Lin.at _ _ _ _) (sk_Lin.at _ _ _ _) | exact sk_Lin.ite (sk_Lin.at _ _ _ _) sk_Lin.none | exact sk_Lin.ite sk_Lin.none (sk_Lin.at _ _ _ _) | exact sk_Lin.bind _ fun _ => sk_Lin.at _ _ _ _ | exact sk_Lin.ite (sk_Lin.bind _ fun _ => sk_Lin.at _ _ _ _) (sk_Lin.bind _ fun _ => sk_Lin.at _ _ _ _) | exact sk_Lin.ite (sk_Lin.bind _ fun _ => sk_Lin.at _ _ _ _) sk_Lin.none | exact sk_Lin.ite (sk_Lin.bind _ fun _ => sk_Lin.at _ _ _ _) (sk_Lin.ite (sk_Lin.ite (sk_Lin.bind _ fun _ => sk_Lin.at _ _ _ _) sk_Lin.none) sk_Lin.none) | exact sk_Lin.sw _ _ _ _ _ _ _ _)
  case ineg =>
    rcases st with _ | ⟨v, st⟩
    · exact sk_Lin.none
    · cases v <;> dsimp only <;> (first | exact sk_Lin.none | exact sk_Lin.at _ _ _ _ | exact sk_Lin.ite (sk_Lin.at _ _ _ _) (sk_Lin.at _ _ _ _) | exact sk_Lin.ite (sk_Lin.at _ _ _ _) sk_Lin.none | exact sk_Lin.ite sk_Lin.none (sk_Lin.at _ _ _ _) | exact sk_Lin.bind _ fun _ => sk_Lin.at _ _ _ _ | exact sk_Lin.ite (sk_Lin.bind _ fun _ => sk_Lin.at _ _ _ _) (sk_Lin.bind _ fun _ => sk_Lin.at _ _ _ _) | exact sk_Lin.ite (sk_Lin.bind _ fun _ => sk_Lin.at _ _ _ _) sk_Lin.none | exact sk_Lin.ite (sk_Lin.bind _ fun _ => sk_Lin.at _ _ _ _) (sk_Lin.ite (sk_Lin.ite (sk_Lin.bind _ fun _ => sk_Lin.at _ _ _ _) sk_Lin.none) sk_Lin.none) | exact sk_Lin.sw _ _ _ _ _ _ _ _)
  case i2s =>
    rcases st with _ | ⟨v, st⟩
    · exact sk_Lin.none
    · cases v <;> dsimp only <;> (first | exact sk_Lin.none | exact sk_Lin.at _ _ _ _ | exact sk_Lin.ite (sk_Lin.at _ _ _ _) (sk_Lin.at _ _ _ _) | exact sk_Lin.ite (sk_Lin.at _ _ _ _) sk_Lin.none | exact sk_Lin.ite sk_Lin.none (sk_Lin.at _ _ _ _) | exact sk_Lin.bind _ fun _ => sk_Lin.at _ _ _ _ | exact sk_Lin.ite (sk_Lin.bind _ fun _ => sk_Lin.at _ _ _ _) (sk_Lin.bind _ fun _ => sk_Lin.at _ _ _ _) | exact sk_Lin.ite (sk_Lin.bind _ fun _ => sk_Lin.at _ _ _ _) sk_Lin.none | exact sk_Lin.ite (sk_Lin.bind _ fun _ => sk_Lin.at _ _ _ _) (sk_Lin.ite (sk_Lin.ite (sk_Lin.bind _ fun _ => sk_Lin.at _ _ _ _) sk_Lin.none) sk_Lin.none) | exact sk_Lin.sw _ _ _ _ _ _ _ _)
  case i2f =>
    rcases st with _ | ⟨v, st⟩
    · exact sk_Lin.none
    · cases v <;> dsimp only <;> (first | exact sk_Lin.none | exact sk_Lin.at _ _ _ _ | exact sk_Lin.ite (sk_Lin.at _ _ _ _) (sk_Lin.at _ _ _ _) | exact sk_Lin.ite (sk_Lin.at _ _ _ _) sk_Lin.none | exact sk_Lin.ite sk_Lin.none (sk_Lin.at _ _ _ _) | exact sk_Lin.bind _ fun _ => sk_Lin.at _ _ _ _ | exact sk_Lin.ite (sk_Lin.bind _ fun _ => sk_Lin.at _ _ _ _) (sk_Lin.bind _ fun _ => sk_Lin.at _ _ _ _) | exact sk_Lin.ite (sk_Lin.bind _ fun _ => sk_Lin.at _ _ _ _) sk_Lin.none | exact sk_Lin.ite (sk_Lin.bind _ fun _ => sk_Lin.at _ _ _ _) (sk_Lin.ite (sk_Lin.ite (sk_Lin.bind _ fun _ => sk_Lin.at _ _ _ _) sk_Lin.none) sk_Lin.none) | exact sk_Lin.sw _ _ _ _ _ _ _ _)
  case f2i =>
    rcases st with _ | ⟨v, st⟩
    · exact sk_Lin.none
    · cases v <;> dsimp only <;> (first | exact sk_Lin.none | exact sk_Lin.at _ _ _ _ | exact sk_Lin.ite (sk_Lin.at _ _ _ _) (sk_Lin.at _ _ _ _) | exact sk_Lin.ite (sk_Lin.at _ _ _ _) sk_Lin.none | exact sk_Lin.ite sk_Lin.none (sk_Lin.at _ _ _ _) | exact sk_Lin.bind _ fun _ => sk_Lin.at _ _ _ _ | exact sk_Lin.ite (sk_Lin.bind _ fun _ => sk_Lin.at _ _ _ _) (sk_Lin.bind _ fun _ => sk_Lin.at _ _ _ _) | exact sk_Lin.ite (sk_Lin.bind _ fun _ => sk_Lin.at _ _ _ _) sk_Lin.none | exact sk_Lin.ite (sk_Lin.bind _ fun _ => sk_Lin.at _ _ _ _) (sk_Lin.ite (sk_Lin.ite (sk_Lin.bind _ fun _ => sk_Lin.at _ _ _ _) sk_Lin.none) sk_Lin.none) | exact sk_Lin.sw _ _ _ _ _ _ _ _)
  case dup =>
    rcases st with _ | ⟨v, st⟩
    · exact sk_Lin.none
    · cases v <;> dsimp only <;> (first | exact sk_Lin.none | exact sk_Lin.at _ _ _ _ | exact sk_Lin.ite (sk_Lin.at _ _ _ _) (sk_Lin.at _ _ _ _) | exact sk_Lin.ite (sk_Lin.at _ _ _ _) sk_Lin.none | exact sk_Lin.ite sk_Lin.none (sk_Lin.at _ _ _ _) | exact sk_Lin.bind _ fun _ => sk_Lin.at _ _ _ _ | exact sk_Lin.ite (sk_Lin.bind _ fun _ => sk_Lin.at _ _ _ _) (sk_Lin.bind _ fun _ => sk_Lin.at _ _ _ _) | exact sk_Lin.ite (sk_Lin.bind _ fun _ => sk_Lin.at _ _ _ _) sk_Lin.none | exact sk_Lin.ite (sk_Lin.bind _ fun _ => sk_Lin.at _ _ _ _) (sk_Lin.ite (sk_Lin.ite (sk_Lin.bind _ fun _ => sk_Lin.at _ _ _ _) sk_Lin.none) sk_Lin.none) | exact sk_Lin.sw _ _ _ _ _ _ _ _)
  case pop =>
    rcases st with _ | ⟨v, st⟩
    · exact sk_Lin.none
    · cases v <;> dsimp only <;> (first | exact sk_Lin.none | exact sk_Lin.at _ _ _ _ | exact sk_Lin.ite (sk_Lin.at _ _ _ _) (sk_Lin.at _ _ _ _) | exact sk_Lin.ite (sk_Lin.at _ _ _ _) sk_Lin.none | exact sk_Lin.ite sk_Lin.none (sk_Lin.at _ _ _ _) | exact sk_Lin.bind _ fun _ => sk_Lin.at _ _ _ _ | exact sk_Lin.ite (sk_Lin.bind _ fun _ => sk_Lin.at _ _ _ _) (sk_Lin.bind _ fun _ => sk_Lin.at _ _ _ _) | exact sk_Lin.ite (sk_Lin.bind _ fun _ => sk_Lin.at _ _ _ _) sk_Lin.none | exact sk_Lin.ite (sk_Lin.bind _ fun _ => sk_Lin.at _ _ _ _) (sk_Lin.ite (sk_Lin.ite (sk_Lin.bind _ fun _ => sk_Lin.at _ _ _ _) sk_Lin.none) sk_Lin.none) | exact sk_Lin.sw _ _ _ _ _ _ _ _)
  case tableswitch d lo hi offs =>
    rcases st with _ | ⟨v, st⟩
    · exact sk_Lin.none
    · cases v <;> dsimp only <;> (first | exact sk_Lin.none | exact sk_Lin.at _ _ _ _ | exact sk_Lin.ite (sk_Lin.at _ _ _ _) (sk_Lin.at _ _ _ _) | exact sk_Lin.ite (sk_Lin.at _ _ _ _) sk_Lin.none | exact sk_Lin.ite sk_Lin.none (sk_Lin.at _ _ _ _) | exact sk_Lin.bind _ fun _ => sk_Lin.at _ _ _ _ | exact sk_Lin.ite (sk_Lin.bind _ fun _ => sk_Lin.at _ _ _ _) (sk_Lin.bind _ fun _ => sk_Lin.at _ _ _ _) | exact sk_Lin.ite (sk_Lin.bind _ fun _ => sk_Lin.at _ _ _ _) sk_Lin.none | exact sk_Lin.ite (sk_Lin.bind _ fun _ => sk_Lin.at _ _ _ _) (sk_Lin.ite (sk_Lin.ite (sk_Lin.bind _ fun _ => sk_Lin.at _ _ _ _) sk_Lin.none) sk_Lin.none) | exact sk_Lin.sw _ _ _ _ _ _ _ _)
  case ifCond c o =>
    rcases st with _ | ⟨v, st⟩
    · exact sk_Lin.none
    · cases v <;> dsimp only <;> (first | exact sk_Lin.none | exact sk_Lin.at _ _ _ _ | exact sk_Lin.ite (sk_Lin.at _ _ _ _) (sk_Lin.at _ _ _ _) | exact sk_Lin.ite (sk_Lin.at _ _ _ _) sk_Lin.none | exact sk_Lin.ite sk_Lin.none (sk_Lin.at _ _ _ _) | exact sk_Lin.bind _ fun _ => sk_Lin.at _ _ _ _ | exact sk_Lin.ite (sk_Lin.bind _ fun _ => sk_Lin.at _ _ _ _) (sk_Lin.bind _ fun _ => sk_Lin.at _ _ _ _) | exact sk_Lin.ite (sk_Lin.bind _ fun _ => sk_Lin.at _ _ _ _) sk_Lin.none | exact sk_Lin.ite (sk_Lin.bind _ fun _ => sk_Lin.at _ _ _ _) (sk_Lin.ite (sk_Lin.ite (sk_Lin.bind _ fun _ => sk_Lin.at _ _ _ _) sk_Lin.none) sk_Lin.none) | exact sk_Lin.sw _ _ _ _ _ _ _ _)
  case getfield n =>
    rcases st with _ | ⟨v, st⟩
    · exact sk_Lin.none
    · cases v <;> dsimp only <;> (first | exact sk_Lin.none | exact sk_Lin.at _ _ _ _ | exact sk_Lin.ite (sk_Lin.at _ _ _ _) (sk_Lin.at _ _ _ _) | exact sk_Lin.ite (sk_Lin.at _ _ _ _) sk_Lin.none | exact sk_Lin.ite sk_Lin.none (sk_Lin.at _ _ _ _) | exact sk_Lin.bind _ fun _ => sk_Lin.at _ _ _ _ | exact sk_Lin.ite (sk_Lin.bind _ fun _ => sk_Lin.at _ _ _ _) (sk_Lin.bind _ fun _ => sk_Lin.at _ _ _ _) | exact sk_Lin.ite (sk_Lin.bind _ fun _ => sk_Lin.at _ _ _ _) sk_Lin.none | exact sk_Lin.ite (sk_Lin.bind _ fun _ => sk_Lin.at _ _ _ _) (sk_Lin.ite (sk_Lin.ite (sk_Lin.bind _ fun _ => sk_Lin.at _ _ _ _) sk_Lin.none) sk_Lin.none) | exact sk_Lin.sw _ _ _ _ _ _ _ _)
  case arraylength =>
    rcases st with _ | ⟨v, st⟩
    · exact sk_Lin.none
    · cases v <;> dsimp only <;> (first | exact sk_Lin.none | exact sk_Lin.at _ _ _ _ | exact sk_Lin.ite (sk_Lin.at _ _ _ _) (sk_Lin.at _ _ _ _) | exact sk_Lin.ite (sk_Lin.at _ _ _ _) sk_Lin.none | exact sk_Lin.ite sk_Lin.none (sk_Lin.at _ _ _ _) | exact sk_Lin.bind _ fun _ => sk_Lin.at _ _ _ _ | exact sk_Lin.ite (sk_Lin.bind _ fun _ => sk_Lin.at _ _ _ _) (sk_Lin.bind _ fun _ => sk_Lin.at _ _ _ _) | exact sk_Lin.ite (sk_Lin.bind _ fun _ => sk_Lin.at _ _ _ _) sk_Lin.none | exact sk_Lin.ite (sk_Lin.bind _ fun _ => sk_Lin.at _ _ _ _) (sk_Lin.ite (sk_Lin.ite (sk_Lin.bind _ fun _ => sk_Lin.at _ _ _ _) sk_Lin.none) sk_Lin.none) | exact sk_Lin.sw _ _ _ _ _ _ _ _)
  case newarray t =>
    rcases st with _ | ⟨v, st⟩
    · exact sk_Lin.none
    · cases v <;> dsimp only <;> (first | exact sk_Lin.none | exact sk_Lin.at _ _ _ _ | exact sk_Lin.ite (sk_Lin.at _ _ _ _) (sk_Lin.at _ _ _ _) | exact sk_Lin.ite (sk_Lin.at _ _ _ _) sk_Lin.none | exact sk_Lin.ite sk_Lin.none (sk_Lin.at _ _ _ _) | exact sk_Lin.bind _ fun _ => sk_Lin.at _ _ _ _ | exact sk_Lin.ite (sk_Lin.bind _ fun _ => sk_Lin.at _ _ _ _) (sk_Lin.bind _ fun _ => sk_Lin.at _ _ _ _) | exact sk_Lin.ite (sk_Lin.bind _ fun _ => sk_Lin.at _ _ _ _) sk_Lin.none | exact sk_Lin.ite (sk_Lin.bind _ fun _ => sk_Lin.at _ _ _ _) (sk_Lin.ite (sk_Lin.ite (sk_Lin.bind _ fun _ => sk_Lin.at _ _ _ _) sk_Lin.none) sk_Lin.none) | exact sk_Lin.sw _ _ _ _ _ _ _ _)
  case anewarray n =>
    rcases st with _ | ⟨v, st⟩
    · exact sk_Lin.none
    · cases v <;> dsimp only <;> (first | exact sk_Lin.none | exact sk_Lin.at _ _ _ _ | exact sk_Lin.ite (sk_Lin.at _ _ _ _) (sk_Lin.at _ _ _ _) | exact sk_Lin.ite (sk_Lin.at _ _ _ _) sk_Lin.none | exact sk_Lin.ite sk_Lin.none (sk_Lin.at _ _ _ _) | exact sk_Lin.bind _ fun _ => sk_Lin.at _ _ _ _ | exact sk_Lin.ite (sk_Lin.bind _ fun _ => sk_Lin.at _ _ _ _) (sk_Lin.bind _ fun _ => sk_Lin.at _ _ _ _) | exact sk_Lin.ite (sk_Lin.bind _ fun _ => sk_Lin.at _ _ _ _) sk_Lin.none | exact sk_Lin.ite (sk_Lin.bind _ fun _ => sk_Lin.at _ _ _ _) (sk_Lin.ite (sk_Lin.ite (sk_Lin.bind _ fun _ => sk_Lin.at _ _ _ _) sk_Lin.none) sk_Lin.none) | exact sk_Lin.sw _ _ _ _ _ _ _ _)
  case iadd =>
    rcases st with _ | ⟨v, _ | ⟨u, st⟩⟩
    · exact sk_Lin.none
    · cases v <;> exact sk_Lin.none
    · cases v <;> cases u <;> dsimp only <;> (first | exact sk_Lin.none | exact sk_Lin.at _ _ _ _ | exact sk_Lin.ite (sk_Lin.at _ _ _ _) (sk_Lin.at _ _ _ _) | exact sk_Lin.ite (sk_Lin.at _ _ _ _) sk_Lin.none | exact sk_Lin.ite sk_Lin.none (sk_Lin.at _ _ _ _) | exact sk_Lin.bind _ fun _ => sk_Lin.at _ _ _ _ | exact sk_Lin.ite (sk_Lin.bind _ fun _ => sk_Lin.at _ _ _ _) (sk_Lin.bind _ fun _ => sk_Lin.at _ _ _ _) | exact sk_Lin.ite (sk_Lin.bind _ fun _ => sk_Lin.at _ _ _ _) sk_Lin.none | exact sk_Lin.ite (sk_Lin.bind _ fun _ => sk_Lin.at _ _ _ _) (sk_Lin.ite (sk_Lin.ite (sk_Lin.bind _ fun _ => sk_Lin.at _ _ _ _) sk_Lin.none) sk_Lin.none) | exact sk_Lin.sw _ _ _ _ _ _ _ _)
  case isub =>
    rcases st with _ | ⟨v, _ | ⟨u, st⟩⟩
    · exact sk_Lin.none
    · cases v <;> exact sk_Lin.none
    · cases v <;> cases u <;> dsimp only <;> (first | exact sk_Lin.none | exact sk_Lin.at _ _ _ _ | exact sk_Lin.ite (sk_Lin.at _ _ _ _) (sk_Lin.at _ _ _ _) | exact sk_Lin.ite (sk_Lin.at _ _ _ _) sk_Lin.none | exact sk_Lin.ite sk_Lin.none (sk_Lin.at _ _ _ _) | exact sk_Lin.bind _ fun _ => sk_Lin.at _ _ _ _ | exact sk_Lin.ite (sk_Lin.bind _ fun _ => sk_Lin.at _ _ _ _) (sk_Lin.bind _ fun _ => sk_Lin.at _ _ _ _) | exact sk_Lin.ite (sk_Lin.bind _ fun _ => sk_Lin.at _ _ _ _) sk_Lin.none | exact sk_Lin.ite (sk_Lin.bind _ fun _ => sk_Lin.at _ _ _ _) (sk_Lin.ite (sk_Lin.ite (sk_Lin.bind _ fun _ => sk_Lin.at _ _ _ _) sk_Lin.none) sk_Lin.none) | exact sk_Lin.sw _ _ _ _ _ _ _ _)
  case imul =>
    rcases st with _ | ⟨v, _ | ⟨u, st⟩⟩
    · exact sk_Lin.none
    · cases v <;> exact sk_Lin.none
    · cases v <;> cases u <;> dsimp only <;> (first | exact sk_Lin.none | exact sk_Lin.at _ _ _ _ | exact sk_Lin.ite (sk_Lin.at _ _ _ _) (sk_Lin.at _ _ _ _) | exact sk_Lin.ite (sk_Lin.at _ _ _ _) sk_Lin.none | exact sk_Lin.ite sk_Lin.none (sk_Lin.at _ _ _ _) | exact sk_Lin.bind _ fun _ => sk_Lin.at _ _ _ _ | exact sk_Lin.ite (sk_Lin.bind _ fun _ => sk_Lin.at _ _ _ _) (sk_Lin.bind _ fun _ => sk_Lin.at _ _ _ _) | exact sk_Lin.ite (sk_Lin.bind _ fun _ => sk_Lin.at _ _ _ _) sk_Lin.none | exact sk_Lin.ite (sk_Lin.bind _ fun _ => sk_Lin.at _ _ _ _) (sk_Lin.ite (sk_Lin.ite (sk_Lin.bind _ fun _ => sk_Lin.at _ _ _ _) sk_Lin.none) sk_Lin.none) | exact sk_Lin.sw _ _ _ _ _ _ _ _)
  case idiv =>
    rcases st with _ | ⟨v, _ | ⟨u, st⟩⟩
    · exact sk_Lin.none
    · cases v <;> exact sk_Lin.none
    · cases v <;> cases u <;> dsimp only <;> (first | exact sk_Lin.none | exact sk_Lin.at _ _ _ _ | exact sk_Lin.ite (sk_Lin.at _ _ _ _) (sk_Lin.at _ _ _ _) | exact sk_Lin.ite (sk_Lin.at _ _ _ _) sk_Lin.none | exact sk_Lin.ite sk_Lin.none (sk_Lin.at _ _ _ _) | exact sk_Lin.bind _ fun _ => sk_Lin.at _ _ _ _ | exact sk_Lin.ite (sk_Lin.bind _ fun _ => sk_Lin.at _ _ _ _) (sk_Lin.bind _ fun _ => sk_Lin.at _ _ _ _) | exact sk_Lin.ite (sk_Lin.bind _ fun _ => sk_Lin.at _ _ _ _) sk_Lin.none | exact sk_Lin.ite (sk_Lin.bind _ fun _ => sk_Lin.at _ _ _ _) (sk_Lin.ite (sk_Lin.ite (sk_Lin.bind _ fun _ => sk_Lin.at _ _ _ _) sk_Lin.none) sk_Lin.none) | exact sk_Lin.sw _ _ _ _ _ _ _ _)
  case irem =>
    rcases st with _ | ⟨v, _ | ⟨u, st⟩⟩
    · exact sk_Lin.none
    · cases v <;> exact sk_Lin.none
    · cases v <;> cases u <;> dsimp only <;> (first | exact sk_Lin.none | exact sk_Lin.at _ _ _ _ | exact sk_Lin.ite (sk_Lin.at _ _ _ _) (sk_Lin.at _ _ _ _) | exact sk_Lin.ite (sk_Lin.at _ _ _ _) sk_Lin.none | exact sk_Lin.ite sk_Lin.none (sk_Lin.at _ _ _ _) | exact sk_Lin.bind _ fun _ => sk_Lin.at _ _ _ _ | exact sk_Lin.ite (sk_Lin.bind _ fun _ => sk_Lin.at _ _ _ _) (sk_Lin.bind _ fun _ => sk_Lin.at _ _ _ _) | exact sk_Lin.ite (sk_Lin.bind _ fun _ => sk_Lin.at _ _ _ _) sk_Lin.none | exact sk_Lin.ite (sk_Lin.bind _ fun _ => sk_Lin.at _ _ _ _) (sk_Lin.ite (sk_Lin.ite (sk_Lin.bind _ fun _ => sk_Lin.at _ _ _ _) sk_Lin.none) sk_Lin.none) | exact sk_Lin.sw _ _ _ _ _ _ _ _)
  case iand =>
    rcases st with _ | ⟨v, _ | ⟨u, st⟩⟩
    · exact sk_Lin.none
    · cases v <;> exact sk_Lin.none
    · cases v <;> cases u <;> dsimp only <;> (first | exact sk_Lin.none | exact sk_Lin.at _ _ _ _ | exact sk_Lin.ite (sk_Lin.at _ _ _ _) (sk_Lin.at _ _ _ _) | exact sk_Lin.ite (sk_Lin.at _ _ _ _) sk_Lin.none | exact sk_Lin.ite sk_Lin.none (sk_Lin.at _ _ _ _) | exact sk_Lin.bind _ fun _ => sk_Lin.at _ _ _ _ | exact sk_Lin.ite (sk_Lin.bind _ fun _ => sk_Lin.at _ _ _ _) (sk_Lin.bind _ fun _ => sk_Lin.at _ _ _ _) | exact sk_Lin.ite (sk_Lin.bind _ fun _ => sk_Lin.at _ _ _ _) sk_Lin.none | exact sk_Lin.ite (sk_Lin.bind _ fun _ => sk_Lin.at _ _ _ _) (sk_Lin.ite (sk_Lin.ite (sk_Lin.bind _ fun _ => sk_Lin.at _ _ _ _) sk_Lin.none) sk_Lin.none) | exact sk_Lin.sw _ _ _ _ _ _ _ _)
  case ior =>
    rcases st with _ | ⟨v, _ | ⟨u, st⟩⟩
    · exact sk_Lin.none
    · cases v <;> exact sk_Lin.none
    · cases v <;> cases u <;> dsimp only <;> (first | exact sk_Lin.none | exact sk_Lin.at _ _ _ _ | exact sk_Lin.ite (sk_Lin.at _ _ _ _) (sk_Lin.at _ _ _ _) | exact sk_Lin.ite (sk_Lin.at _ _ _ _) sk_Lin.none | exact sk_Lin.ite sk_Lin.none (sk_Lin.at _ _ _ _) | exact sk_Lin.bind _ fun _ => sk_Lin.at _ _ _ _ | exact sk_Lin.ite (sk_Lin.bind _ fun _ => sk_Lin.at _ _ _ _) (sk_Lin.bind _ fun _ => sk_Lin.at _ _ _ _) | exact sk_Lin.ite (sk_Lin.bind _ fun _ => sk_Lin.at _ _ _ _) sk_Lin.none | exact sk_Lin.ite (sk_Lin.bind _ fun _ => sk_Lin.at _ _ _ _) (sk_Lin.ite (sk_Lin.ite (sk_Lin.bind _ fun _ => sk_Lin.at _ _ _ _) sk_Lin.none) sk_Lin.none) | exact sk_Lin.sw _ _ _ _ _ _ _ _)
  case ishl =>
    rcases st with _ | ⟨v, _ | ⟨u, st⟩⟩
    · exact sk_Lin.none
    · cases v <;> exact sk_Lin.none
    · cases v <;> cases u <;> dsimp only <;> (first | exact sk_Lin.none | exact sk_Lin.at _ _ _ _ | exact sk_Lin.ite (sk_Lin.at _ _ _ _) (sk_Lin.at _ _ _ _) | exact sk_Lin.ite (sk_Lin.at _ _ _ _) sk_Lin.none | exact sk_Lin.ite sk_Lin.none (sk_Lin.at _ _ _ _) | exact sk_Lin.bind _ fun _ => sk_Lin.at _ _ _ _ | exact sk_Lin.ite (sk_Lin.bind _ fun _ => sk_Lin.at _ _ _ _) (sk_Lin.bind _ fun _ => sk_Lin.at _ _ _ _) | exact sk_Lin.ite (sk_Lin.bind _ fun _ => sk_Lin.at _ _ _ _) sk_Lin.none | exact sk_Lin.ite (sk_Lin.bind _ fun _ => sk_Lin.at _ _ _ _) (sk_Lin.ite (sk_Lin.ite (sk_Lin.bind _ fun _ => sk_Lin.at _ _ _ _) sk_Lin.none) sk_Lin.none) | exact sk_Lin.sw _ _ _ _ _ _ _ _)
  case iushr =>
    rcases st with _ | ⟨v, _ | ⟨u, st⟩⟩
    · exact sk_Lin.none
    · cases v <;> exact sk_Lin.none
    · cases v <;> cases u <;> dsimp only <;> (first | exact sk_Lin.none | exact sk_Lin.at _ _ _ _ | exact sk_Lin.ite (sk_Lin.at _ _ _ _) (sk_Lin.at _ _ _ _) | exact sk_Lin.ite (sk_Lin.at _ _ _ _) sk_Lin.none | exact sk_Lin.ite sk_Lin.none (sk_Lin.at _ _ _ _) | exact sk_Lin.bind _ fun _ => sk_Lin.at _ _ _ _ | exact sk_Lin.ite (sk_Lin.bind _ fun _ => sk_Lin.at _ _ _ _) (sk_Lin.bind _ fun _ => sk_Lin.at _ _ _ _) | exact sk_Lin.ite (sk_Lin.bind _ fun _ => sk_Lin.at _ _ _ _) sk_Lin.none | exact sk_Lin.ite (sk_Lin.bind _ fun _ => sk_Lin.at _ _ _ _) (sk_Lin.ite (sk_Lin.ite (sk_Lin.bind _ fun _ => sk_Lin.at _ _ _ _) sk_Lin.none) sk_Lin.none) | exact sk_Lin.sw _ _ _ _ _ _ _ _)
  case fadd =>
    rcases st with _ | ⟨v, _ | ⟨u, st⟩⟩
    · exact sk_Lin.none
    · cases v <;> exact sk_Lin.none
    · cases v <;> cases u <;> dsimp only <;> (first | exact sk_Lin.none | exact sk_Lin.at _ _ _ _ | exact sk_Lin.ite (sk_Lin.at _ _ _ _) (sk_Lin.at _ _ _ _) | exact sk_Lin.ite (sk_Lin.at _ _ _ _) sk_Lin.none | exact sk_Lin.ite sk_Lin.none (sk_Lin.at _ _ _ _) | exact sk_Lin.bind _ fun _ => sk_Lin.at _ _ _ _ | exact sk_Lin.ite (sk_Lin.bind _ fun _ => sk_Lin.at _ _ _ _) (sk_Lin.bind _ fun _ => sk_Lin.at _ _ _ _) | exact sk_Lin.ite (sk_Lin.bind _ fun _ => sk_Lin.at _ _ _ _) sk_Lin.none | exact sk_Lin.ite (sk_Lin.bind _ fun _ => sk_Lin.at _ _ _ _) (sk_Lin.ite (sk_Lin.ite (sk_Lin.bind _ fun _ => sk_Lin.at _ _ _ _) sk_Lin.none) sk_Lin.none) | exact sk_Lin.sw _ _ _ _ _ _ _ _)
  case fsub =>
    rcases st with _ | ⟨v, _ | ⟨u, st⟩⟩
    · exact sk_Lin.none
    · cases v <;> exact sk_Lin.none
    · cases v <;> cases u <;> dsimp only <;> (first | exact sk_Lin.none | exact sk_Lin.at _ _ _ _ | exact sk_Lin.ite (sk_Lin.at _ _ _ _) (sk_Lin.at _ _ _ _) | exact sk_Lin.ite (sk_Lin.at _ _ _ _) sk_Lin.none | exact sk_Lin.ite sk_Lin.none (sk_Lin.at _ _ _ _) | exact sk_Lin.bind _ fun _ => sk_Lin.at _ _ _ _ | exact sk_Lin.ite (sk_Lin.bind _ fun _ => sk_Lin.at _ _ _ _) (sk_Lin.bind _ fun _ => sk_Lin.at _ _ _ _) | exact sk_Lin.ite (sk_Lin.bind _ fun _ => sk_Lin.at _ _ _ _) sk_Lin.none | exact sk_Lin.ite (sk_Lin.bind _ fun _ => sk_Lin.at _ _ _ _) (sk_Lin.ite (sk_Lin.ite (sk_Lin.bind _ fun _ => sk_Lin.at _ _ _ _) sk_Lin.none) sk_Lin.none) | exact sk_Lin.sw _ _ _ _ _ _ _ _)
  case fmul =>
    rcases st with _ | ⟨v, _ | ⟨u, st⟩⟩
    · exact sk_Lin.none
    · cases v <;> exact sk_Lin.none
    · cases v <;> cases u <;> dsimp only <;> (first | exact sk_Lin.none | exact sk_Lin.at _ _ _ _ | exact sk_Lin.ite (sk_Lin.at _ _ _ _) (sk_Lin.at _ _ _ _) | exact sk_Lin.ite (sk_Lin.at _ _ _ _) sk_Lin.none | exact sk_Lin.ite sk_Lin.none (sk_Lin.at _ _ _ _) | exact sk_Lin.bind _ fun _ => sk_Lin.at _ _ _ _ | exact sk_Lin.ite (sk_Lin.bind _ fun _ => sk_Lin.at _ _ _ _) (sk_Lin.bind _ fun _ => sk_Lin.at _ _ _ _) | exact sk_Lin.ite (sk_Lin.bind _ fun _ => sk_Lin.at _ _ _ _) sk_Lin.none | exact sk_Lin.ite (sk_Lin.bind _ fun _ => sk_Lin.at _ _ _ _) (sk_Lin.ite (sk_Lin.ite (sk_Lin.bind _ fun _ => sk_Lin.at _ _ _ _) sk_Lin.none) sk_Lin.none) | exact sk_Lin.sw _ _ _ _ _ _ _ _)
  case fdiv =>
    rcases st with _ | ⟨v, _ | ⟨u, st⟩⟩
    · exact sk_Lin.none
    · cases v <;> exact sk_Lin.none
    · cases v <;> cases u <;> dsimp only <;> (first | exact sk_Lin.none | exact sk_Lin.at _ _ _ _ | exact sk_Lin.ite (sk_Lin.at _ _ _ _) (sk_Lin.at _ _ _ _) | exact sk_Lin.ite (sk_Lin.at _ _ _ _) sk_Lin.none | exact sk_Lin.ite sk_Lin.none (sk_Lin.at _ _ _ _) | exact sk_Lin.bind _ fun _ => sk_Lin.at _ _ _ _ | exact sk_Lin.ite (sk_Lin.bind _ fun _ => sk_Lin.at _ _ _ _) (sk_Lin.bind _ fun _ => sk_Lin.at _ _ _ _) | exact sk_Lin.ite (sk_Lin.bind _ fun _ => sk_Lin.at _ _ _ _) sk_Lin.none | exact sk_Lin.ite (sk_Lin.bind _ fun _ => sk_Lin.at _ _ _ _) (sk_Lin.ite (sk_Lin.ite (sk_Lin.bind _ fun _ => sk_Lin.at _ _ _ _) sk_Lin.none) sk_Lin.none) | exact sk_Lin.sw _ _ _ _ _ _ _ _)
  case fcmp o =>
    rcases st with _ | ⟨v, _ | ⟨u, st⟩⟩
    · exact sk_Lin.none
    · cases v <;> exact sk_Lin.none
    · cases v <;> cases u <;> dsimp only <;> (first | exact sk_Lin.none | exact sk_Lin.at _ _ _ _ | exact sk_Lin.ite (sk_Lin.at _ _ _ _) (sk_Lin.at _ _ _ _) | exact sk_Lin.ite (sk_Lin.at _ _ _ _) sk_Lin.none | exact sk_Lin.ite sk_Lin.none (sk_Lin.at _ _ _ _) | exact sk_Lin.bind _ fun _ => sk_Lin.at _ _ _ _ | exact sk_Lin.ite (sk_Lin.bind _ fun _ => sk_Lin.at _ _ _ _) (sk_Lin.bind _ fun _ => sk_Lin.at _ _ _ _) | exact sk_Lin.ite (sk_Lin.bind _ fun _ => sk_Lin.at _ _ _ _) sk_Lin.none | exact sk_Lin.ite (sk_Lin.bind _ fun _ => sk_Lin.at _ _ _ _) (sk_Lin.ite (sk_Lin.ite (sk_Lin.bind _ fun _ => sk_Lin.at _ _ _ _) sk_Lin.none) sk_Lin.none) | exact sk_Lin.sw _ _ _ _ _ _ _ _)
  case if_icmp c o =>
    rcases st with _ | ⟨v, _ | ⟨u, st⟩⟩
    · exact sk_Lin.none
    · cases v <;> exact sk_Lin.none
    · cases v <;> cases u <;> dsimp only <;> (first | exact sk_Lin.none | exact sk_Lin.at _ _ _ _ | exact sk_Lin.ite (sk_Lin.at _ _ _ _) (sk_Lin.at _ _ _ _) | exact sk_Lin.ite (sk_Lin.at _ _ _ _) sk_Lin.none | exact sk_Lin.ite sk_Lin.none (sk_Lin.at _ _ _ _) | exact sk_Lin.bind _ fun _ => sk_Lin.at _ _ _ _ | exact sk_Lin.ite (sk_Lin.bind _ fun _ => sk_Lin.at _ _ _ _) (sk_Lin.bind _ fun _ => sk_Lin.at _ _ _ _) | exact sk_Lin.ite (sk_Lin.bind _ fun _ => sk_Lin.at _ _ _ _) sk_Lin.none | exact sk_Lin.ite (sk_Lin.bind _ fun _ => sk_Lin.at _ _ _ _) (sk_Lin.ite (sk_Lin.ite (sk_Lin.bind _ fun _ => sk_Lin.at _ _ _ _) sk_Lin.none) sk_Lin.none) | exact sk_Lin.sw _ _ _ _ _ _ _ _)
  case iaload =>
    rcases st with _ | ⟨v, _ | ⟨u, st⟩⟩
    · exact sk_Lin.none
    · cases v <;> exact sk_Lin.none
    · cases v <;> cases u <;> dsimp only <;> (first | exact sk_Lin.none | exact sk_Lin.at _ _ _ _ | exact sk_Lin.ite (sk_Lin.at _ _ _ _) (sk_Lin.at _ _ _ _) | exact sk_Lin.ite (sk_Lin.at _ _ _ _) sk_Lin.none | exact sk_Lin.ite sk_Lin.none (sk_Lin.at _ _ _ _) | exact sk_Lin.bind _ fun _ => sk_Lin.at _ _ _ _ | exact sk_Lin.ite (sk_Lin.bind _ fun _ => sk_Lin.at _ _ _ _) (sk_Lin.bind _ fun _ => sk_Lin.at _ _ _ _) | exact sk_Lin.ite (sk_Lin.bind _ fun _ => sk_Lin.at _ _ _ _) sk_Lin.none | exact sk_Lin.ite (sk_Lin.bind _ fun _ => sk_Lin.at _ _ _ _) (sk_Lin.ite (sk_Lin.ite (sk_Lin.bind _ fun _ => sk_Lin.at _ _ _ _) sk_Lin.none) sk_Lin.none) | exact sk_Lin.sw _ _ _ _ _ _ _ _)
  case aaload =>
    rcases st with _ | ⟨v, _ | ⟨u, st⟩⟩
    · exact sk_Lin.none
    · cases v <;> exact sk_Lin.none
    · cases v <;> cases u <;> dsimp only <;> (first | exact sk_Lin.none | exact sk_Lin.at _ _ _ _ | exact sk_Lin.ite (sk_Lin.at _ _ _ _) (sk_Lin.at _ _ _ _) | exact sk_Lin.ite (sk_Lin.at _ _ _ _) sk_Lin.none | exact sk_Lin.ite sk_Lin.none (sk_Lin.at _ _ _ _) | exact sk_Lin.bind _ fun _ => sk_Lin.at _ _ _ _ | exact sk_Lin.ite (sk_Lin.bind _ fun _ => sk_Lin.at _ _ _ _) (sk_Lin.bind _ fun _ => sk_Lin.at _ _ _ _) | exact sk_Lin.ite (sk_Lin.bind _ fun _ => sk_Lin.at _ _ _ _) sk_Lin.none | exact sk_Lin.ite (sk_Lin.bind _ fun _ => sk_Lin.at _ _ _ _) (sk_Lin.ite (sk_Lin.ite (sk_Lin.bind _ fun _ => sk_Lin.at _ _ _ _) sk_Lin.none) sk_Lin.none) | exact sk_Lin.sw _ _ _ _ _ _ _ _)
  case dup2 =>
    rcases st with _ | ⟨v, _ | ⟨u, st⟩⟩
    · exact sk_Lin.none
    · cases v <;> exact sk_Lin.none
    · cases v <;> cases u <;> dsimp only <;> (first | exact sk_Lin.none | exact sk_Lin.at _ _ _ _ | exact sk_Lin.ite (sk_Lin.at _ _ _ _) (sk_Lin.at _ _ _ _) | exact sk_Lin.ite (sk_Lin.at _ _ _ _) sk_Lin.none | exact sk_Lin.ite sk_Lin.none (sk_Lin.at _ _ _ _) | exact sk_Lin.bind _ fun _ => sk_Lin.at _ _ _ _ | exact sk_Lin.ite (sk_Lin.bind _ fun _ => sk_Lin.at _ _ _ _) (sk_Lin.bind _ fun _ => sk_Lin.at _ _ _ _) | exact sk_Lin.ite (sk_Lin.bind _ fun _ => sk_Lin.at _ _ _ _) sk_Lin.none | exact sk_Lin.ite (sk_Lin.bind _ fun _ => sk_Lin.at _ _ _ _) (sk_Lin.ite (sk_Lin.ite (sk_Lin.bind _ fun _ => sk_Lin.at _ _ _ _) sk_Lin.none) sk_Lin.none) | exact sk_Lin.sw _ _ _ _ _ _ _ _)
  case putfield n =>
    rcases st with _ | ⟨v, _ | ⟨u, st⟩⟩
    · exact sk_Lin.none
    · cases v <;> exact sk_Lin.none
    · cases v <;> cases u <;> dsimp only <;> (first | exact sk_Lin.none | exact sk_Lin.at _ _ _ _ | exact sk_Lin.ite (sk_Lin.at _ _ _ _) (sk_Lin.at _ _ _ _) | exact sk_Lin.ite (sk_Lin.at _ _ _ _) sk_Lin.none | exact sk_Lin.ite sk_Lin.none (sk_Lin.at _ _ _ _) | exact sk_Lin.bind _ fun _ => sk_Lin.at _ _ _ _ | exact sk_Lin.ite (sk_Lin.bind _ fun _ => sk_Lin.at _ _ _ _) (sk_Lin.bind _ fun _ => sk_Lin.at _ _ _ _) | exact sk_Lin.ite (sk_Lin.bind _ fun _ => sk_Lin.at _ _ _ _) sk_Lin.none | exact sk_Lin.ite (sk_Lin.bind _ fun _ => sk_Lin.at _ _ _ _) (sk_Lin.ite (sk_Lin.ite (sk_Lin.bind _ fun _ => sk_Lin.at _ _ _ _) sk_Lin.none) sk_Lin.none) | exact sk_Lin.sw _ _ _ _ _ _ _ _)
  case multianewarray n d =>
    rcases st with _ | ⟨v, _ | ⟨u, st⟩⟩
    · exact sk_Lin.none
    · cases v <;> exact sk_Lin.none
    · cases v <;> cases u <;> dsimp only <;> (first | exact sk_Lin.none | exact sk_Lin.at _ _ _ _ | exact sk_Lin.ite (sk_Lin.at _ _ _ _) (sk_Lin.at _ _ _ _) | exact sk_Lin.ite (sk_Lin.at _ _ _ _) sk_Lin.none | exact sk_Lin.ite sk_Lin.none (sk_Lin.at _ _ _ _) | exact sk_Lin.bind _ fun _ => sk_Lin.at _ _ _ _ | exact sk_Lin.ite (sk_Lin.bind _ fun _ => sk_Lin.at _ _ _ _) (sk_Lin.bind _ fun _ => sk_Lin.at _ _ _ _) | exact sk_Lin.ite (sk_Lin.bind _ fun _ => sk_Lin.at _ _ _ _) sk_Lin.none | exact sk_Lin.ite (sk_Lin.bind _ fun _ => sk_Lin.at _ _ _ _) (sk_Lin.ite (sk_Lin.ite (sk_Lin.bind _ fun _ => sk_Lin.at _ _ _ _) sk_Lin.none) sk_Lin.none) | exact sk_Lin.sw _ _ _ _ _ _ _ _)
  case iastore =>
    rcases st with _ | ⟨v, _ | ⟨u, _ | ⟨t, st⟩⟩⟩
    · exact sk_Lin.none
    · cases v <;> exact sk_Lin.none
    · cases v <;> cases u <;> exact sk_Lin.none
    · cases v <;> cases u <;> first | exact sk_Lin.none | (cases t <;> dsimp only <;> (first | exact sk_Lin.none | exact sk_Lin.at _ _ _ _ | exact sk_Lin.ite (sk_Lin.at _ _ _ _) (sk_Lin.at _ _ _ _) | exact sk_Lin.ite (sk_Lin.at _ _ _ _) sk_Lin.none | exact sk_Lin.ite sk_Lin.none (sk_Lin.at _ _ _ _) | exact sk_Lin.bind _ fun _ => sk_Lin.at _ _ _ _ | exact sk_Lin.ite (sk_Lin.bind _ fun _ => sk_Lin.at _ _ _ _) (sk_Lin.bind _ fun _ => sk_Lin.at _ _ _ _) | exact sk_Lin.ite (sk_Lin.bind _ fun _ => sk_Lin.at _ _ _ _) sk_Lin.none | exact sk_Lin.ite (sk_Lin.bind _ fun _ => sk_Lin.at _ _ _ _) (sk_Lin.ite (sk_Lin.ite (sk_Lin.bind _ fun _ => sk_Lin.at _ _ _ _) sk_Lin.none) sk_Lin.none) | exact sk_Lin.sw _ _ _ _ _ _ _ _))
  case aastore =>
    rcases st with _ | ⟨v, _ | ⟨u, _ | ⟨t, st⟩⟩⟩
    · exact sk_Lin.none
    · cases v <;> exact sk_Lin.none
    · cases v <;> cases u <;> exact sk_Lin.none
    · cases v <;> cases u <;> first | exact sk_Lin.none | (cases t <;> dsimp only <;> (first | exact sk_Lin.none | exact sk_Lin.at _ _ _ _ | exact sk_Lin.ite (sk_Lin.at _ _ _ _) (sk_Lin.at _ _ _ _) | exact sk_Lin.ite (sk_Lin.at _ _ _ _) sk_Lin.none | exact sk_Lin.ite sk_Lin.none (sk_Lin.at _ _ _ _) | exact sk_Lin.bind _ fun _ => sk_Lin.at _ _ _ _ | exact sk_Lin.ite (sk_Lin.bind _ fun _ => sk_Lin.at _ _ _ _) (sk_Lin.bind _ fun _ => sk_Lin.at _ _ _ _) | exact sk_Lin.ite (sk_Lin.bind _ fun _ => sk_Lin.at _ _ _ _) sk_Lin.none | exact sk_Lin.ite (sk_Lin.bind _ fun _ => sk_Lin.at _ _ _ _) (sk_Lin.ite (sk_Lin.ite (sk_Lin.bind _ fun _ => sk_Lin.at _ _ _ _) sk_Lin.none) sk_Lin.none) | exact sk_Lin.sw _ _ _ _ _ _ _ _))
  case invokevirtual n =>
    dsimp only
    generalize sk_pops (y + 1) [] st = q
    rcases q with _ | ⟨as, st⟩
    · exact sk_Lin.none
    · exact sk_Lin.ite (sk_Lin.push _ _ fun _ _ => sk_Lin.at _ _ _ _) sk_Lin.none
  case invokespecial n =>
    dsimp only
    refine sk_Lin.ite ?_ ?_
    · rcases st with _ | ⟨v, st⟩
      · exact sk_Lin.none
      · cases v <;> first | exact sk_Lin.none | exact sk_Lin.ite (sk_Lin.at _ _ _ _) sk_Lin.none
    · generalize sk_pops (y + 1) [] st = q
      rcases q with _ | ⟨as, st⟩
      · exact sk_Lin.none
      · exact sk_Lin.ite (sk_Lin.push _ _ fun _ _ => sk_Lin.at _ _ _ _) sk_Lin.none
  case invokestatic n =>
    dsimp only
    refine sk_Lin.ite (sk_Lin.ite ?_ ?_) ?_
    · split
      · exact sk_Lin.ite (sk_Lin.bind _ fun _ => sk_Lin.at _ _ _ _) sk_Lin.none
      · exact sk_Lin.none
    · rcases st with _ | ⟨v, st⟩
      · exact sk_Lin.none
      · cases v <;> first | exact sk_Lin.none | exact sk_Lin.ite (sk_Lin.at _ _ _ _) sk_Lin.none
    · generalize sk_pops y [] st = q
      rcases q with _ | ⟨as, st⟩
      · exact sk_Lin.none
      · exact sk_Lin.push _ _ fun _ _ => sk_Lin.at _ _ _ _
  case ireturn => exact sk_Lin.ret _
  case freturn => exact sk_Lin.ret _
  case return_ => exact sk_Lin.ret _
  all_goals exact sk_Lin.none
/-- one instruction of a table -/
def sk_one (cal : Nat → List Value → sk_W → Option sk_R) (fields : Nat → List Value) (rz : Bool) (tab : List sk_E) (k : sk_K) : sk_K := fun pc ls st w => match sk_find tab pc with
  | none => none
  | some (i, x, y, z) => sk_step cal fields rz i x y z pc ls st w k
theorem sk_one_lin (cal : Nat → List Value → sk_W → Option sk_R) (fields : Nat → List Value) (rz : Bool) (tab : List sk_E) (pc : Nat) (ls : sk_L) (st : List Value) (w : sk_W) : sk_Lin (fun k => sk_one cal fields rz tab k pc ls st w) := by
  unfold sk_one
  generalize sk_find tab pc = q
  rcases q with _ | ⟨i, x, y, z⟩
  · exact sk_Lin.none
  · exact sk_step_lin cal fields rz i x y z pc ls st w
/-- where a row of tries comes to, if it does -/
noncomputable def sk_lim (f : Nat → Option sk_R) : Option sk_R := @dite (Option sk_R) (∃ (r : sk_R) (n : Nat), f n = some r) (Classical.propDecidable _) (fun h => some (Classical.choose h)) (fun _ => none)
theorem sk_lim_ex {f : Nat → Option sk_R} {r : sk_R} (h : sk_lim f = some r) : ∃ n, f n = some r := by
  unfold sk_lim at h
  by_cases hc : ∃ (r : sk_R) (n : Nat), f n = some r
  · rw [dif_pos hc] at h
    cases h
    exact Classical.choose_spec hc
  · rw [dif_neg hc] at h
    cases h
theorem sk_mono {f : Nat → Option sk_R} (hm : ∀ n r, f n = some r → f (n + 1) = some r) {n : Nat} {r : sk_R} (h : f n = some r) (k : Nat) : f (n + k) = some r := by
  induction k with
  | zero => exact h
  | succ k ih => exact hm _ _ ih
theorem sk_lim_eq {f : Nat → Option sk_R} (hm : ∀ n r, f n = some r → f (n + 1) = some r) {n : Nat} {r : sk_R} (h : f n = some r) : sk_lim f = some r := by
  cases hl : sk_lim f with
  | none =>
    unfold sk_lim at hl
    rw [dif_pos ⟨r, n, h⟩] at hl
    cases hl
  | some r' =>
    obtain ⟨m, h'⟩ := sk_lim_ex hl
    have h1 := sk_mono hm h m
    have h2 := sk_mono hm h' n
    rw [Nat.add_comm] at h2
    exact h2.symm.trans h1
section DEN
variable (cal : Nat → List Value → sk_W → Option sk_R) (fields : Nat → List Value) (rz : Bool) (tab : List sk_E)
theorem sk_run_one (n pc : Nat) (ls : sk_L) (st : List Value) (w : sk_W) : sk_run cal fields rz tab (n + 1) pc ls st w = sk_one cal fields rz tab (sk_run cal fields rz tab n) pc ls st w := rfl
theorem sk_run_mono : ∀ (n pc : Nat) (ls : sk_L) (st : List Value) (w : sk_W) (r : sk_R), sk_run cal fields rz tab n pc ls st w = some r → sk_run cal fields rz tab (n + 1) pc ls st w = some r := by
  intro n
  induction n with
  | zero => intro pc ls st w r h; cases h
  | succ n ih =>
    intro pc ls st w r h
    rw [sk_run_one] at h ⊢
    rcases sk_one_lin cal fields rz tab pc ls st w _ _ h with h1 | ⟨pc', ls', st', w', h1, h2⟩
    · exact h1 _
    · exact h2 _ (ih _ _ _ _ _ h1)
/-- what comes of a place in a method -/
noncomputable def sk_den : sk_K := fun pc ls st w => sk_lim fun n => sk_run cal fields rz tab n pc ls st w
theorem sk_den_of {n pc : Nat} {ls : sk_L} {st : List Value} {w : sk_W} {r : sk_R} (h : sk_run cal fields rz tab n pc ls st w = some r) : sk_den cal fields rz tab pc ls st w = some r := sk_lim_eq (fun n r => sk_run_mono cal fields rz tab n pc ls st w r) h
theorem sk_den_ex {pc : Nat} {ls : sk_L} {st : List Value} {w : sk_W} {r : sk_R} (h : sk_den cal fields rz tab pc ls st w = some r) : ∃ n, sk_run cal fields rz tab n pc ls st w = some r := sk_lim_ex h
theorem sk_den_one (pc : Nat) (ls : sk_L) (st : List Value) (w : sk_W) : sk_den cal fields rz tab pc ls st w = sk_one cal fields rz tab (sk_den cal fields rz tab) pc ls st w := by
  cases h : sk_one cal fields rz tab (sk_den cal fields rz tab) pc ls st w with
  | some r =>
    rcases sk_one_lin cal fields rz tab pc ls st w _ _ h with h1 | ⟨pc', ls', st', w', h1, h2⟩
    · exact sk_den_of cal fields rz tab (n := 1) (h1 _)
    · obtain ⟨n, hn⟩ := sk_den_ex cal fields rz tab h1
      exact sk_den_of cal fields rz tab (n := n + 1) (h2 _ hn)
  | none =>
    cases h0 : sk_den cal fields rz tab pc ls st w with
    | none => rfl
    | some r =>
      obtain ⟨n, hn⟩ := sk_den_ex cal fields rz tab h0
      cases n with
      | zero => cases hn
      | succ n =>
        rw [sk_run_one] at hn
        rcases sk_one_lin cal fields rz tab pc ls st w _ _ hn with h1 | ⟨pc', ls', st', w', h1, h2⟩
        · exact absurd ((h1 (sk_den cal fields rz tab)).symm.trans h) (by simp)
        · exact absurd ((h2 (sk_den cal fields rz tab) (sk_den_of cal fields rz tab h1)).symm.trans h) (by simp)
def sk_in : Nat → List Nat → Bool
  | _, [] => false
  | p, q :: l => Nat.beq p q || sk_in p l
/-- n instructions, but not on from a cut point -/
def sk_go (k : sk_K) (cuts : List Nat) : Nat → sk_K
  | 0 => k
  | n + 1 => sk_one cal fields rz tab (fun pc ls st w => bif sk_in pc cuts then k pc ls st w else sk_go k cuts n pc ls st w)
theorem sk_den_go (cuts : List Nat) (n : Nat) : sk_go cal fields rz tab (sk_den cal fields rz tab) cuts n = sk_den cal fields rz tab := by
  induction n with
  | zero => rfl
  | succ n ih =>
    funext pc ls st w
    rw [sk_den_one cal fields rz tab]
    show sk_one cal fields rz tab (fun pc ls st w => bif sk_in pc cuts then sk_den cal fields rz tab pc ls st w else sk_go cal fields rz tab (sk_den cal fields rz tab) cuts n pc ls st w) pc ls st w = _
    congr 1
    funext pc ls st w
    rw [ih]
    cases sk_in pc cuts <;> rfl
/-- THE ROW TO UNFOLD BY: h is found by rfl -/
theorem sk_unf (cuts : List Nat) (n : Nat) {pc : Nat} {ls : sk_L} {st : List Value} {w : sk_W} {o : Option sk_R} (h : sk_go cal fields rz tab (sk_den cal fields rz tab) cuts n pc ls st w = o) : sk_den cal fields rz tab pc ls st w = o := by
  rw [← h, sk_den_go]
end DEN
