/-! ===== SkylineNester.isUnder: a table that nobody writes ===== -/
def sk_KA (j : Nat) : Int32 := ([-1, 0, 0, 1, 2, 0] : List Int32).getD j 0
def sk_under : Nat → Int32 → Int32 → Option Int32
  | 0, _, _ => some 0
  | n + 1, a, b => if a = -1 then some 0 else if a = b then some 1 else if a < 0 ∨ 6 ≤ a.toNatClampNeg then none else sk_under n (sk_KA a.toNatClampNeg) b
def sk_prim1 (as : List Value) (w : sk_W) : Option sk_R := match as with
  | [.int k, .int b] => (sk_under 6 k b).bind fun v => some (some (.int v), w)
  | _ => none
/-- the static table -/
def sk_S1 (H0 : Heap) (s : State) : Prop := ∃ t : Nat, va_Z "SkylineNester" "KIND_ABOVE" "[I" (.ref t) (fun q : Nat => H0.size ≤ q) s H0 ∧ va_T .int t 6 (fun j => .int (sk_KA j)) (fun q : Nat => H0.size ≤ q) s H0
theorem sk_S1.warm {H0 : Heap} {s U : State} (hW : s.WarmedH U.vm) (h : sk_S1 H0 s) : sk_S1 H0 U := by
  obtain ⟨t, h1, h2⟩ := h
  exact ⟨t, va_Z.moved hW.alike h1, va_T.moved hW.alike h2⟩
theorem sk_under_01 : ∀ (n : Nat) (a b v : Int32), sk_under n a b = some v → v = 0 ∨ v = 1
  | 0, _, _, _, h => by cases h; exact Or.inl rfl
  | n + 1, a, b, v, h => by
    unfold sk_under at h
    split at h
    · cases h; exact Or.inl rfl
    · split at h
      · cases h; exact Or.inr rfl
      · split at h
        · cases h
        · exact sk_under_01 n _ _ _ h
theorem sk_dU : decode cX11_isUnder 0 = .ok (.iload_n 0, 1) ∧ decode cX11_isUnder 1 = .ok (.istore_n 2, 1) ∧ decode cX11_isUnder 2 = .ok (.iconst 0, 1) ∧ decode cX11_isUnder 3 = .ok (.istore_n 3, 1) ∧ decode cX11_isUnder 4 = .ok (.iload_n 3, 1) ∧ decode cX11_isUnder 5 = .ok (.bipush 6, 2) ∧ decode cX11_isUnder 7 = .ok (.if_icmp .ge 27, 3) ∧ decode cX11_isUnder 10 = .ok (.iload_n 2, 1) ∧ decode cX11_isUnder 11 = .ok (.iconst (-1), 1) ∧ decode cX11_isUnder 12 = .ok (.if_icmp .eq 22, 3) ∧ decode cX11_isUnder 15 = .ok (.iload_n 2, 1) ∧ decode cX11_isUnder 16 = .ok (.iload_n 1, 1) ∧ decode cX11_isUnder 17 = .ok (.if_icmp .ne 5, 3) ∧ decode cX11_isUnder 20 = .ok (.iconst 1, 1) ∧ decode cX11_isUnder 21 = .ok (.ireturn, 1) ∧ decode cX11_isUnder 22 = .ok (.getstatic 361, 3) ∧ decode cX11_isUnder 25 = .ok (.iload_n 2, 1) ∧ decode cX11_isUnder 26 = .ok (.iaload, 1) ∧ decode cX11_isUnder 27 = .ok (.istore_n 2, 1) ∧ decode cX11_isUnder 28 = .ok (.iinc 3 1, 3) ∧ decode cX11_isUnder 31 = .ok (.goto (-27), 3) ∧ decode cX11_isUnder 34 = .ok (.iconst 0, 1) ∧ decode cX11_isUnder 35 = .ok (.ireturn, 1) := by
  (repeat' apply And.intro) <;> decide +kernel
theorem sk_flU : Jvm.Cond.fieldLink "SkylineNester" 361 "SkylineNester" "KIND_ABOVE" "[I" ∈ sk_B := sk_memB [Jvm.Cond.fieldLink "SkylineNester" 361 "SkylineNester" "KIND_ABOVE" "[I"] [589] (by decide +kernel) (by decide +kernel) _ List.mem_cons_self
set_option maxHeartbeats 4000000 in
theorem sk_loopU {p : Program} {l : Launch} {e : Env} {R : Room} {s : State} {m : MethodId} {args : Array Value} {below : List Frame} {meth : Method} {c : Code} {Q : State → Prop} {H0 : Heap} (hx : p.tables.exec = Jvm.exec) (hb : c.code = cX11_isUnder) (hown : s.vm.findClass "SkylineNester" = some m.cls) (hlk : (Jvm.Cond.fieldLink "SkylineNester" 361 "SkylineNester" "KIND_ABOVE" "[I").before args s = true) (hS1 : sk_S1 H0 s) (hh : ∀ q : Nat, q < H0.size → s.heap[q]? = H0[q]?) {k b v : Int32}
    (hret : ∀ (pc : Nat) (ls : Array Slot), decode cX11_isUnder pc = .ok (.ireturn, 1) → W p l e R s m args below meth c s.heap [] 0 0 Q (F0 m pc ls [.int v])) :
    ∀ (n : Nat) (a st : Int32) (ls : Array Slot), n ≤ 6 → st = nI (6 - n) → sk_under n a b = some v → lv_has ls 4 [(0, .int k), (1, .int b), (2, .int a), (3, .int st)] → W p l e R s m args below meth c s.heap [] 0 0 Q (F0 m 4 ls []) := by
  obtain ⟨d0, d1, d2, d3, d4, d5, d7, d10, d11, d12, d15, d16, d17, d20, d21, d22, d25, d26, d27, d28, d31, d34, d35⟩ := sk_dU
  intro n
  induction n with
  | zero =>
    intro a st ls hn hst hu hl
    cases hu
    subst hst
    refine lv_iload_n hx hb d4 rfl (lv_at hl 3 rfl) ?_
    refine lv_bipush (v := 6) hx hb d5 (by decide) ?_
    refine lv_icmp_ge (tgt := 34) hx hb d7 (by decide) (fun _ => ?_) (fun hc => absurd (by decide : (6 : Int32) ≤ nI (6 - 0)) hc)
    refine lv_iconst (v := 0) hx hb d34 (by decide) ?_
    exact hret _ _ d35
  | succ n ih =>
    intro a st ls hn hst hu hl
    refine lv_iload_n hx hb d4 rfl (lv_at hl 3 rfl) ?_
    refine lv_bipush (v := 6) hx hb d5 (by decide) ?_
    have h6 : ¬ (6 : Int32) ≤ st := by
      rw [hst]
      exact nI_ge (a := 6 - (n + 1)) (b := 6) (by omega) (by decide)
    refine lv_icmp_ge (tgt := 34) hx hb d7 (by decide) (fun hc => absurd hc h6) (fun _ => ?_)
    refine lv_iload_n hx hb d10 rfl (lv_at hl 2 rfl) ?_
    refine lv_iconst (v := -1) hx hb d11 (by decide) ?_
    unfold sk_under at hu
    refine lv_icmp_eq (tgt := 34) hx hb d12 (by decide) (fun hc => ?_) (fun hc => ?_)
    · rw [if_pos hc] at hu
      cases hu
      refine lv_iconst (v := 0) hx hb d34 (by decide) ?_
      exact hret _ _ d35
    · rw [if_neg hc] at hu
      refine lv_iload_n hx hb d15 rfl (lv_at hl 2 rfl) ?_
      refine lv_iload_n hx hb d16 rfl (lv_at hl 1 rfl) ?_
      refine lv_icmp_ne (tgt := 22) hx hb d17 (by decide) (fun hc2 => ?_) (fun hc2 => ?_)
      · rw [if_neg hc2] at hu
        split at hu
        · cases hu
        · next hin =>
          obtain ⟨t, hZ, hT⟩ := hS1
          have hq : ∀ a : Nat, a < H0.size → ¬ (H0.size ≤ a) → s.heap[a]? = H0[a]? := fun a ha _ => hh a ha
          refine va_gets (C := "SkylineNester") hx hb (va_Z.kept hZ hq) va_S.rf hown hlk (fun x hx => hx) d22 ?_
          refine lv_iload_n hx hb d25 rfl (lv_at hl 2 rfl) ?_
          refine va_ti hx hb (va_T.kept hT hq) va_S.rf hin rfl d26 ?_
          refine lv_istore_n (lv' := [(2, .int (sk_KA a.toNatClampNeg)), (0, .int k), (1, .int b), (3, .int st)]) hx hb d27 rfl hl (by decide) rfl (fun ls hl => ?_)
          refine lv_iinc (v := st + 1) (lv' := [(3, .int (st + 1)), (2, .int (sk_KA a.toNatClampNeg)), (0, .int k), (1, .int b)]) hx hb d28 hl (k := 3) rfl rfl (by decide) rfl (fun ls hl => ?_)
          refine lv_goto (tgt := 4) hx hb d31 (by decide) ?_
          refine ih (sk_KA a.toNatClampNeg) (st + 1) ls (by omega) ?_ hu (lv_sub hl [2, 3, 1, 0] rfl)
          rw [hst, nI_1]
          congr 1
          omega
      · rw [if_pos hc2] at hu
        cases hu
        refine lv_iconst (v := 1) hx hb d20 (by decide) ?_
        exact hret _ _ d21
theorem sk_prim1_met {l : Launch} {nest : List Jvm.Cond} {Sx : State → Prop} {D : va_G} {cA : Nat → ClassId} {b : Nat} {X : Nat × (Nat → Int32)} {H0 : Heap} (hSx : ∀ s : State, Sx s → sk_S1 H0 s) (d : Nat) (as : List Value) (w : sk_W) (r : sk_R) (h : sk_prim1 as w = some r) : sk_Met l nest Sx D cA b X H0 (sk_inf 1).1 (sk_inf 1).2.1 (sk_inf 1).2.2.1 (sk_inf 1).2.2.2 (d + 1) as w r.1 r.2 ∧ w.length ≤ r.2.length ∧ sk_sz w ≤ sk_sz r.2 := by
  unfold sk_prim1 at h
  split at h
  · next k0 b0 =>
    obtain ⟨v, hv, h⟩ := Option.bind_eq_some_iff.mp h
    cases h
    refine ⟨?_, Nat.le_refl _, Nat.le_refl _⟩
    refine Met.ofW (cc := cX11_isUnder) (maxL := 4) (ret := some .boolean) (by decide +kernel) rfl ?_
    intro p e s m args below meth c s₁ B hml hP
    obtain ⟨rfl, hR, hsize, hT⟩ := hP
    have hx := B.exec
    have hb := B.bytes
    have hr := B.returns
    have hts := atoms_spec (ws := Cond.code (sk_inf 1).1 (sk_inf 1).2.1 (sk_inf 1).2.2.1 (sk_inf 1).2.2.2 :: sk_B) B.pre
    have hown : s.vm.findClass "SkylineNester" = some m.cls := findClass_of_methodNamed B.named
    have hlocks := B.notSynchronized
    have hS1 := hSx s hT.2.2.2.2.2
    obtain ⟨lsA, he, hlv, -⟩ := sk_entry (b := b) (n0 := H0.size) (m := m) (as := [.int k0, .int b0]) (nL := 4) (Nat.le_of_ble_eq_true rfl) (by simp [Value.category])
    rw [he]
    have hl : lv_has lsA 4 [(0, .int k0), (1, .int b0)] := hlv
    have hh : ∀ q : Nat, q < H0.size → s.heap[q]? = H0[q]? := by
      obtain ⟨t, -, -, -, h4⟩ := hR
      exact h4
    show W p l e _ s m _ below meth c s.heap [] 0 0 (MQ below _ _ s (w.length - w.length) (sk_sz w - sk_sz w) _) _
    rw [Nat.sub_self, Nat.sub_self]
    obtain ⟨d0, d1, d2, d3, -⟩ := sk_dU
    refine lv_iload_n hx hb d0 rfl (lv_at hl 0 rfl) ?_
    refine lv_istore_n (lv' := [(2, .int k0), (0, .int k0), (1, .int b0)]) hx hb d1 rfl hl (by decide) rfl (fun ls hl => ?_)
    refine lv_iconst (v := 0) hx hb d2 (by decide) ?_
    refine lv_istore_n (lv' := [(3, .int 0), (2, .int k0), (0, .int k0), (1, .int b0)]) hx hb d3 rfl hl (by decide) rfl (fun ls hl => ?_)
    refine sk_loopU (H0 := H0) (v := v) hx hb hown (hts _ (List.mem_cons_of_mem _ sk_flU)) hS1 hh (fun pc ls hd => ?_) 6 k0 0 ls (Nat.le_refl _) (by decide) hv (lv_sub hl [2, 3, 1, 0] rfl)
    refine W.zret hx hb hr ?_ (fun t ht _ => ⟨rfl, by rw [ht]; exact hR⟩) (fun _ h => by cases h) hd
    rcases sk_under_01 6 _ _ _ hv with rfl | rfl <;> rfl
  · cases h
