/-! ===== runs ===== -/
theorem sk_gr_set {w w1 : sk_W} {r : sk_R} {a : Nat} {c c' : sk_C} (hw : w[a]? = some c) (hc : sk_csz c' = sk_csz c) (he : w1 = w.set a c') (h : w1.length ≤ r.2.length ∧ sk_sz w1 ≤ sk_sz r.2) : w.length ≤ r.2.length ∧ sk_sz w ≤ sk_sz r.2 := by
  subst he
  rw [List.length_set, sk_sz_set hw hc] at h
  exact h
theorem sk_gr_push {w u : sk_W} {r : sk_R} (h : (w ++ u).length ≤ r.2.length ∧ sk_sz (w ++ u) ≤ sk_sz r.2) : w.length ≤ r.2.length ∧ sk_sz w ≤ sk_sz r.2 := by
  rw [List.length_append, sk_sz_push] at h
  omega
set_option maxHeartbeats 8000000 in
theorem sk_step_gr {cal : Nat → List Value → sk_W → Option sk_R} (hcg : ∀ (mi : Nat) (as : List Value) (w : sk_W) (r : sk_R), cal mi as w = some r → w.length ≤ r.2.length ∧ sk_sz w ≤ sk_sz r.2) {fields : Nat → List Value} {rz : Bool} {i : Instr} {x y z pc : Nat} {ls : sk_L} {st : List Value} {w : sk_W} {k : sk_K} {r : sk_R}
    (h : sk_step cal fields rz i x y z pc ls st w k = some r) (hk : ∀ (pc' : Nat) (ls' : sk_L) (st' : List Value) (w1 : sk_W), k pc' ls' st' w1 = some r → w1.length ≤ r.2.length ∧ sk_sz w1 ≤ sk_sz r.2) : w.length ≤ r.2.length ∧ sk_sz w ≤ sk_sz r.2 := by
  cases i
  case iconst n =>
    exact hk _ _ _ _ h
  case bipush n =>
    exact hk _ _ _ _ h
  case sipush n =>
    exact hk _ _ _ _ h
  case ldc n =>
    exact hk _ _ _ _ h
  case fconst n =>
    exact hk _ _ _ _ h
  case goto n =>
    exact hk _ _ _ _ h
  case ldc_w n =>
    unfold sk_step at h
    dsimp only at h
    repeat' split at h
    all_goals first | exact hk _ _ _ _ h | (cases h; done)
  case iload_n n =>
    unfold sk_step at h
    dsimp only at h
    repeat' split at h
    all_goals first | exact hk _ _ _ _ h | (cases h; done)
  case iload n =>
    unfold sk_step at h
    dsimp only at h
    repeat' split at h
    all_goals first | exact hk _ _ _ _ h | (cases h; done)
  case fload_n n =>
    unfold sk_step at h
    dsimp only at h
    repeat' split at h
    all_goals first | exact hk _ _ _ _ h | (cases h; done)
  case fload n =>
    unfold sk_step at h
    dsimp only at h
    repeat' split at h
    all_goals first | exact hk _ _ _ _ h | (cases h; done)
  case aload_n n =>
    unfold sk_step at h
    dsimp only at h
    repeat' split at h
    all_goals first | exact hk _ _ _ _ h | (cases h; done)
  case aload n =>
    unfold sk_step at h
    dsimp only at h
    repeat' split at h
    all_goals first | exact hk _ _ _ _ h | (cases h; done)
  case istore_n n =>
    unfold sk_step at h
    dsimp only at h
    repeat' split at h
    all_goals first | exact hk _ _ _ _ h | (cases h; done)
  case istore n =>
    unfold sk_step at h
    dsimp only at h
    repeat' split at h
    all_goals first | exact hk _ _ _ _ h | (cases h; done)
  case fstore_n n =>
    unfold sk_step at h
    dsimp only at h
    repeat' split at h
    all_goals first | exact hk _ _ _ _ h | (cases h; done)
  case fstore n =>
    unfold sk_step at h
    dsimp only at h
    repeat' split at h
    all_goals first | exact hk _ _ _ _ h | (cases h; done)
  case astore_n n =>
    unfold sk_step at h
    dsimp only at h
    repeat' split at h
    all_goals first | exact hk _ _ _ _ h | (cases h; done)
  case astore n =>
    unfold sk_step at h
    dsimp only at h
    repeat' split at h
    all_goals first | exact hk _ _ _ _ h | (cases h; done)
  case iinc n q =>
    unfold sk_step at h
    dsimp only at h
    repeat' split at h
    all_goals first | exact hk _ _ _ _ h | (cases h; done)
  case iadd =>
    unfold sk_step at h
    dsimp only at h
    repeat' split at h
    all_goals first | exact hk _ _ _ _ h | (cases h; done)
  case isub =>
    unfold sk_step at h
    dsimp only at h
    repeat' split at h
    all_goals first | exact hk _ _ _ _ h | (cases h; done)
  case imul =>
    unfold sk_step at h
    dsimp only at h
    repeat' split at h
    all_goals first | exact hk _ _ _ _ h | (cases h; done)
  case idiv =>
    unfold sk_step at h
    dsimp only at h
    repeat' split at h
    all_goals first | exact hk _ _ _ _ h | (cases h; done)
  case irem =>
    unfold sk_step at h
    dsimp only at h
    repeat' split at h
    all_goals first | exact hk _ _ _ _ h | (cases h; done)
  case ineg =>
    unfold sk_step at h
    dsimp only at h
    repeat' split at h
    all_goals first | exact hk _ _ _ _ h | (cases h; done)
  case iand =>
    unfold sk_step at h
    dsimp only at h
    repeat' split at h
    all_goals first | exact hk _ _ _ _ h | (cases h; done)
  case ior =>
    unfold sk_step at h
    dsimp only at h
    repeat' split at h
    all_goals first | exact hk _ _ _ _ h | (cases h; done)
  case ishl =>
    unfold sk_step at h
    dsimp only at h
    repeat' split at h
    all_goals first | exact hk _ _ _ _ h | (cases h; done)
  case iushr =>
    unfold sk_step at h
    dsimp only at h
    repeat' split at h
    all_goals first | exact hk _ _ _ _ h | (cases h; done)
  case i2s =>
    unfold sk_step at h
    dsimp only at h
    repeat' split at h
    all_goals first | exact hk _ _ _ _ h | (cases h; done)
  case i2f =>
    unfold sk_step at h
    dsimp only at h
    repeat' split at h
    all_goals first | exact hk _ _ _ _ h | (cases h; done)
  case f2i =>
    unfold sk_step at h
    dsimp only at h
    repeat' split at h
    all_goals first | exact hk _ _ _ _ h | (cases h; done)
  case fadd =>
    unfold sk_step at h
    dsimp only at h
    repeat' split at h
    all_goals first | exact hk _ _ _ _ h | (cases h; done)
  case fsub =>
    unfold sk_step at h
    dsimp only at h
    repeat' split at h
    all_goals first | exact hk _ _ _ _ h | (cases h; done)
  case fmul =>
    unfold sk_step at h
    dsimp only at h
    repeat' split at h
    all_goals first | exact hk _ _ _ _ h | (cases h; done)
  case fdiv =>
    unfold sk_step at h
    dsimp only at h
    repeat' split at h
    all_goals first | exact hk _ _ _ _ h | (cases h; done)
  case fcmp o =>
    unfold sk_step at h
    dsimp only at h
    repeat' split at h
    all_goals first | exact hk _ _ _ _ h | (cases h; done)
  case dup =>
    unfold sk_step at h
    dsimp only at h
    repeat' split at h
    all_goals first | exact hk _ _ _ _ h | (cases h; done)
  case dup2 =>
    unfold sk_step at h
    dsimp only at h
    repeat' split at h
    all_goals first | exact hk _ _ _ _ h | (cases h; done)
  case pop =>
    unfold sk_step at h
    dsimp only at h
    repeat' split at h
    all_goals first | exact hk _ _ _ _ h | (cases h; done)
  case ifCond q o =>
    unfold sk_step at h
    dsimp only at h
    repeat' split at h
    all_goals first | exact hk _ _ _ _ h | (cases h; done)
  case if_icmp q o =>
    unfold sk_step at h
    dsimp only at h
    repeat' split at h
    all_goals first | exact hk _ _ _ _ h | (cases h; done)
  case tableswitch dd lo hi offs =>
    unfold sk_step at h
    dsimp only at h
    split at h
    · rcases sk_sw_spec _ _ h with ⟨j, o, g1, g2, g3⟩ | ⟨g1, g2⟩
      · exact hk _ _ _ _ g3
      · exact hk _ _ _ _ g2
    · cases h
  case getfield n =>
    unfold sk_step at h
    dsimp only at h
    repeat' split at h
    all_goals first | (cases h; done) | (obtain ⟨q, hq, h⟩ := Option.bind_eq_some_iff.mp h; exact hk _ _ _ _ h)
  case iaload =>
    unfold sk_step at h
    dsimp only at h
    repeat' split at h
    all_goals first | (cases h; done) | (obtain ⟨q, hq, h⟩ := Option.bind_eq_some_iff.mp h; exact hk _ _ _ _ h)
  case aaload =>
    unfold sk_step at h
    dsimp only at h
    repeat' split at h
    all_goals first | (cases h; done) | (obtain ⟨q, hq, h⟩ := Option.bind_eq_some_iff.mp h; exact hk _ _ _ _ h)
  case arraylength =>
    unfold sk_step at h
    dsimp only at h
    repeat' split at h
    all_goals first | (cases h; done) | (obtain ⟨q, hq, h⟩ := Option.bind_eq_some_iff.mp h; exact hk _ _ _ _ h)
  case putfield n =>
    unfold sk_step at h
    dsimp only at h
    repeat' split at h
    all_goals first | (cases h; done) | (obtain ⟨q, hq, h⟩ := Option.bind_eq_some_iff.mp h; obtain ⟨fs, e1, e2, e3⟩ := sk_put_spec hq; exact sk_gr_set e1 (by simp [sk_csz]) e3 (hk _ _ _ _ h))
  case iastore =>
    unfold sk_step at h
    dsimp only at h
    split at h
    · obtain ⟨q, hq, h⟩ := Option.bind_eq_some_iff.mp h
      obtain ⟨a', n, f, e0, e1, e2, e3⟩ := sk_ast_spec hq
      exact sk_gr_set e1 (by rfl) e3 (hk _ _ _ _ h)
    · cases h
  case aastore =>
    unfold sk_step at h
    dsimp only at h
    split at h
    · obtain ⟨q, hq, h⟩ := Option.bind_eq_some_iff.mp h
      obtain ⟨n, f, fs, e1, e2, e3, e4⟩ := sk_astr_spec hq
      exact sk_gr_set e1 (by rfl) e4 (hk _ _ _ _ h)
    · cases h
  case new n =>
    exact sk_gr_push (hk _ _ _ _ h)
  case newarray n =>
    unfold sk_step at h
    dsimp only at h
    split at h
    · split at h
      · exact sk_gr_push (hk _ _ _ _ h)
      · cases h
    · cases h
  case anewarray n =>
    unfold sk_step at h
    dsimp only at h
    split at h
    · split at h
      · exact sk_gr_push (hk _ _ _ _ h)
      · cases h
    · cases h
  case multianewarray n q =>
    unfold sk_step at h
    dsimp only at h
    split at h
    · split at h
      · exact sk_gr_push (hk _ _ _ _ h)
      · cases h
    · cases h
  case invokevirtual n =>
    unfold sk_step at h
    dsimp only at h
    split at h
    · split at h
      · obtain ⟨v, w1, hq, h⟩ := sk_push_spec h
        have h1 := hcg _ _ _ _ hq
        have h2 := hk _ _ _ _ h
        dsimp only at h1
        omega
      · cases h
    · cases h
  case invokespecial n =>
    unfold sk_step at h
    dsimp only at h
    split at h
    · split at h
      · split at h
        · exact hk _ _ _ _ h
        · cases h
      · cases h
    · split at h
      · split at h
        · obtain ⟨v, w1, hq, h⟩ := sk_push_spec h
          have h1 := hcg _ _ _ _ hq
          have h2 := hk _ _ _ _ h
          dsimp only at h1
          omega
        · cases h
      · cases h
  case invokestatic n =>
    unfold sk_step at h
    dsimp only at h
    split at h
    · split at h
      · split at h
        · split at h
          · obtain ⟨q, hq, h⟩ := Option.bind_eq_some_iff.mp h
            obtain ⟨b0, b1, n0, n1, f, g, e8, e9, e1, e2, e3, e4⟩ := sk_copy_spec hq
            exact sk_gr_set e2 (by rfl) e4 (hk _ _ _ _ h)
          · cases h
        · cases h
      · split at h
        · split at h
          · exact hk _ _ _ _ h
          · cases h
        · cases h
    · split at h
      · obtain ⟨v, w1, hq, h⟩ := sk_push_spec h
        have h1 := hcg _ _ _ _ hq
        have h2 := hk _ _ _ _ h
        dsimp only at h1
        omega
      · cases h
  case ireturn =>
    unfold sk_step at h
    dsimp only at h
    repeat' split at h
    all_goals first | (cases h; done) | (cases h; exact ⟨Nat.le_refl _, Nat.le_refl _⟩)
  case freturn =>
    unfold sk_step at h
    dsimp only at h
    repeat' split at h
    all_goals first | (cases h; done) | (cases h; exact ⟨Nat.le_refl _, Nat.le_refl _⟩)
  case return_ =>
    unfold sk_step at h
    dsimp only at h
    repeat' split at h
    all_goals first | (cases h; done) | (cases h; exact ⟨Nat.le_refl _, Nat.le_refl _⟩)
  all_goals exact absurd h (fun q => by cases q)
theorem sk_run_gr {cal : Nat → List Value → sk_W → Option sk_R} (hcg : ∀ (mi : Nat) (as : List Value) (w : sk_W) (r : sk_R), cal mi as w = some r → w.length ≤ r.2.length ∧ sk_sz w ≤ sk_sz r.2) {fields : Nat → List Value} {rz : Bool} {tab : List sk_E} : ∀ (n pc : Nat) (ls : sk_L) (st : List Value) (w : sk_W) (r : sk_R), sk_run cal fields rz tab n pc ls st w = some r → w.length ≤ r.2.length ∧ sk_sz w ≤ sk_sz r.2 := by
  intro n
  induction n with
  | zero => intro pc ls st w r h; cases h
  | succ n ih =>
    intro pc ls st w r h
    rw [sk_run_one] at h
    unfold sk_one at h
    split at h
    · cases h
    · exact sk_step_gr hcg h (fun pc' ls' st' w1 h1 => ih pc' ls' st' w1 r h1)
/-- a table tells the method's code -/
def sk_tabOK (inf : Nat → sk_I) (nest : List Jvm.Cond) (own nm : String) (cc : ByteArray) (nL : Nat) (tab : List sk_E) : Prop := ∀ (pc : Nat) (i : Instr) (x y z : Nat), sk_find tab pc = some (i, x, y, z) → decode cc pc = .ok (i, sk_ilen i z) ∧ sk_okI inf nest own nm nL i x y z pc
/-- the rule of 'new int[n][m]' -/
def sk_multiOK (Sx : State → Prop) : Prop := ∀ {p : Program} {l : Launch} {e : Env} {R : Room} {s : State} {m : MethodId} {args : Array Value} {below : List Frame} {meth : Method} {c : Code} {Q : State → Prop} {nest : List Jvm.Cond} {D : va_G} {cA : Nat → ClassId} {b : Nat} {X : Nat × (Nat → Int32)} {H0 : Heap} {w0 : sk_W} {own nm : String} {cc : ByteArray} {nL : Nat}, sk_Cx nest Sx D cA b X H0 w0 own nm cc nL p s m args meth c →
  ∀ {pc : Nat} {ls : sk_L} {w : sk_W} (idx : Nat) (n j : Int32) (st : List Value), decode cc pc = .ok (.multianewarray idx 2, 4) → ¬ n < 0 ∧ ¬ j < 0 ∧ n.toNatClampNeg ≤ 1000 ∧ j.toNatClampNeg ≤ 100000 → Jvm.Cond.classLink own idx "[[I" ∈ sk_B → Jvm.Cond.arrayClass .int ∈ sk_B →
      w.length + (1 + n.toNatClampNeg) - w0.length ≤ R.cells ∧ sk_sz w + (n.toNatClampNeg + n.toNatClampNeg * j.toNatClampNeg) - sk_sz w0 ≤ R.slots →
      sk_Good p l e R s m args below meth c Q D cA b X H0 w0 nL (pc + 4) ls (.ref w.length :: st) (w ++ .inr (.inl (3, n.toNatClampNeg, fun q => if q < n.toNatClampNeg then some (w.length + 1 + q) else none)) :: List.replicate n.toNatClampNeg (.inl (j.toNatClampNeg, fun _ => 0))) → sk_Good p l e R s m args below meth c Q D cA b X H0 w0 nL pc ls (.int j :: .int n :: st) w
theorem sk_run_snd {p : Program} {l : Launch} {e : Env} {R : Room} {s : State} {m : MethodId} {args : Array Value} {below : List Frame} {meth : Method} {c : Code} {Q : State → Prop} {nest : List Jvm.Cond} {Sx : State → Prop} {D : va_G} {cA : Nat → ClassId} {b : Nat} {X : Nat × (Nat → Int32)} {H0 : Heap} {w0 : sk_W} {own nm : String} {cc : ByteArray} {nL : Nat} (hC : sk_Cx nest Sx D cA b X H0 w0 own nm cc nL p s m args meth c) (hn : sk_nestOK nest) (hsx : sk_SxOK Sx) (hmul : sk_multiOK Sx)
    {inf : Nat → sk_I} {d : Nat} {cal : Nat → List Value → sk_W → Option sk_R} (hcal : sk_calOK l nest Sx D cA b X H0 inf d cal) {rz : Bool} {tab : List sk_E} (ht : sk_tabOK inf nest own nm cc nL tab) {r : sk_R} (hRm : d + 1 ≤ R.frames ∧ 80 * (d + 1) ≤ R.locals ∧ r.2.length - w0.length ≤ R.cells ∧ sk_sz r.2 - sk_sz w0 ≤ R.slots)
    (hir : ∀ (pc : Nat) (ls : sk_L) (v : Int32) (x y z : Nat), sk_find tab pc = some (.ireturn, x, y, z) → decode cc pc = .ok (.ireturn, 1) → r.1 = some (.int v) → (rz = true → v = 0 ∨ v = 1) → sk_Good p l e R s m args below meth c Q D cA b X H0 w0 nL pc ls [.int v] r.2) (hfr : ∀ (pc : Nat) (ls : sk_L) (v : UInt32) (x y z : Nat), sk_find tab pc = some (.freturn, x, y, z) → decode cc pc = .ok (.freturn, 1) → r.1 = some (.float v) → sk_Good p l e R s m args below meth c Q D cA b X H0 w0 nL pc ls [.float v] r.2) (hvr : ∀ (pc : Nat) (ls : sk_L) (x y z : Nat), sk_find tab pc = some (.return_, x, y, z) → decode cc pc = .ok (.return_, 1) → r.1 = none → sk_Good p l e R s m args below meth c Q D cA b X H0 w0 nL pc ls [] r.2) :
    ∀ (n pc : Nat) (ls : sk_L) (st : List Value) (w : sk_W), sk_run cal sk_fields rz tab n pc ls st w = some r → sk_Good p l e R s m args below meth c Q D cA b X H0 w0 nL pc ls st w := by
  intro n
  induction n with
  | zero => intro pc ls st w h; cases h
  | succ n ih =>
    intro pc ls st w h
    rw [sk_run_one] at h
    unfold sk_one at h
    split at h
    · cases h
    · next i x y z hf =>
      obtain ⟨hd, hO⟩ := ht _ _ _ _ _ hf
      refine sk_snd hC hn hsx hcal hd hO h (fun pc' ls' st' w1 h1 => sk_run_gr (fun mi as w r h => (hcal mi as w r h).2) _ _ _ _ _ _ h1) hRm ?_ ?_ ?_ ?_ (fun pc' ls' st' w1 h1 => ih _ _ _ _ h1)
      · intro idx n j st hi
        subst hi
        exact hmul hC idx n j st hd
      · intro v hi hr hz
        subst hi
        have e1 : r.2 = w := by rw [hr]
        rw [← e1]
        exact hir pc ls v x y z hf hd (by rw [hr]) hz
      · intro v hi hr
        subst hi
        have e1 : r.2 = w := by rw [hr]
        rw [← e1]
        exact hfr pc ls v x y z hf hd (by rw [hr])
      · intro hi hr
        subst hi
        have e1 : r.2 = w := by rw [hr]
        rw [← e1]
        exact hvr pc ls x y z hf hd (by rw [hr])
