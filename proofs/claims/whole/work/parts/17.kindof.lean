/-! ===== SkylineNesterModel.kindOf: a String constant ===== -/
def sk_KB (j : Nat) : Int32 := ([112, 116, 103, 99, 115, 104] : List Int32).getD j 0
def sk_kof : Nat → Nat → Int32 → Int32
  | 0, _, _ => -1
  | n + 1, k, x => if sk_KB k = x then nI k else sk_kof n (k + 1) x
def sk_prim2 (as : List Value) (w : sk_W) : Option sk_R := match as with
  | [.int x] => some (some (.int (sk_kof 6 0 x)), w)
  | _ => none
/-- the String constant, and what its members ask -/
def sk_S2 (H0 : Heap) (s : State) : Prop := ∃ adK adV : Nat → Nat, vk_S 1 [6] [[112, 116, 103, 99, 115, 104]] adK adV (fun q : Nat => H0.size ≤ q) s H0 ∧ vk_R "SkylineNesterModel" 105 "ptgcsh" (adK 0) s ∧ va_Z "java/lang/String" "COMPACT_STRINGS" "Z" (.int 1) (fun q : Nat => H0.size ≤ q) s H0 ∧ va_Zq "jdk/internal/util/Preconditions" "SIOOBE_FORMATTER" "Ljava/util/function/BiFunction;" (fun q : Nat => H0.size ≤ q) s H0
theorem sk_S2.warm {H0 : Heap} {s U : State} (hW : s.WarmedH U.vm) (h : sk_S2 H0 s) : sk_S2 H0 U := by
  obtain ⟨k, v, h1, h2, h3, h4⟩ := h
  exact ⟨k, v, vk_S.moved hW.alike h1, h2.warm hW, va_Z.moved hW.alike h3, va_Zq.moved hW.alike h4⟩
def sk_Low (H0 : Heap) (U : State) : Prop := ∀ q : Nat, q < H0.size → ¬ (H0.size ≤ q) → U.heap[q]? = H0[q]?
def sk_P0 (H0 : Heap) (Px : State → Prop) (av : List Value) : Array Value → State → Prop := fun a U => a = av.toArray ∧ sk_Low H0 U ∧ sk_S2 H0 U ∧ Px U
def sk_QV : Array Value → State → Outcome → State → Prop := fun _ st o t => o = .returned none ∧ t.heap = st.heap
theorem sk_P0_blind {H0 : Heap} {av : List Value} {P : Prop} : FrameBlind (sk_P0 H0 (fun _ => P) av) := by
  rintro v U g mk ⟨h1, h2, h3, h4⟩
  exact ⟨h1, h2, sk_S2.warm (s := U) (U := U.calling g mk v) (State.WarmedH.refl U) h3, h4⟩
theorem sk_callV0 {p : Program} {l : Launch} {e : Env} {R : Room} {s : State} {m : MethodId} {args : Array Value} {below : List Frame} {meth : Method} {c : Code} {H : Heap} {locs : List Loc} {cells slots : Nat} {Q : State → Prop} {g : JFrame} {rest : List Value} {a : Array Value} (hr : CallRun p l e R s m args below meth c H locs cells slots 0 0 g rest (sk_QV a) (fun _ => False)) (kk : W p l e R s m args below meth c H locs cells slots Q { g with pc := g.pc + 3, stack := rest }) : W p l e R s m args below meth c H locs cells slots Q g := by
  intro T hT X
  obtain ⟨v, st₀, t, T', L, h0, X', hL, e1, ⟨hv, hh⟩, st⟩ := hr T hT X
  cases hv
  obtain ⟨t2, a1, b1⟩ := kk T' (by rw [e1, hh, h0]) (Stand.forget X' (fun q h => (hL q h).elim))
  exact ⟨t2, st t2 a1, b1⟩
abbrev sk_rm (f : Nat) : Room := { frames := f, cells := 0, slots := 0, locals := 80 * f }
set_option maxRecDepth 100000 in
theorem sk_kw : ∀ w ∈ [Jvm.Cond.code yJ3_checkIndex_8e157 cJ3_checkIndex_8e157 3 (some .int), Jvm.Cond.code yJ0_checkIndex_df160 cJ0_checkIndex_df160 2 none, Jvm.Cond.code yJ1_charAt_3b067 cJ1_charAt_3b067 2 (some .char), Jvm.Cond.code yJ0_isLatin1_aae02 cJ0_isLatin1_aae02 1 (some .boolean), Jvm.Cond.code yJ0_charAt_5068e cJ0_charAt_5068e 2 (some .char)], w ∈ sk_B := sk_memB _ [1181, 1176, 1173, 1168, 1164] rfl rfl
theorem sk_kx : ∀ w ∈ [Jvm.Cond.methodLink "java/lang/String" 1059 yJ3_checkIndex_8e157, Jvm.Cond.static yJ3_checkIndex_8e157, Jvm.Cond.initialized "jdk/internal/util/Preconditions", Jvm.Cond.methodLink "java/lang/StringLatin1" 9 yJ0_checkIndex_df160, Jvm.Cond.static yJ0_checkIndex_df160, Jvm.Cond.initialized "java/lang/String", Jvm.Cond.methodLink "java/lang/String" 495 yJ1_charAt_3b067, Jvm.Cond.static yJ1_charAt_3b067, Jvm.Cond.initialized "java/lang/StringLatin1", Jvm.Cond.methodLink "java/lang/String" 492 yJ0_isLatin1_aae02, Jvm.Cond.instanceMethod yJ0_isLatin1_aae02, Jvm.Cond.selects "java/lang/String" yJ0_isLatin1_aae02 yJ0_isLatin1_aae02, Jvm.Cond.methodLink "SkylineNesterModel" 107 yJ0_charAt_5068e, Jvm.Cond.instanceMethod yJ0_charAt_5068e, Jvm.Cond.selects "java/lang/String" yJ0_charAt_5068e yJ0_charAt_5068e, Jvm.Cond.fieldLink "java/lang/String" 38 "java/lang/String" "COMPACT_STRINGS" "Z", Jvm.Cond.fieldLink "java/lang/String" 1053 "jdk/internal/util/Preconditions" "SIOOBE_FORMATTER" "Ljava/util/function/BiFunction;", Jvm.Cond.fieldLink "java/lang/String" 15 "java/lang/String" "coder" "B", Jvm.Cond.fieldLink "java/lang/String" 9 "java/lang/String" "value" "[B"], w ∈ sk_B := sk_memB _ [1179, 1180, 94, 1174, 1175, 92, 1171, 1172, 93, 1165, 1166, 1167, 1161, 1162, 1163, 1169, 1177, 1547, 1548] (by decide +kernel) (by decide +kernel)
theorem sk_goodW {w0 : Jvm.Cond} (h : w0 ∈ sk_B) : GoodIn sk_B (w0 :: sk_B) := fun w hw => by
  rcases List.mem_cons.mp hw with rfl | hw
  · exact ⟨h, sk_B_good h⟩
  · exact ⟨hw, sk_B_good hw⟩
theorem sk_goodL {ws : List Jvm.Cond} {w0 : Jvm.Cond} (hl : ∀ w ∈ ws, w ∈ sk_B) (h : w0 ∈ sk_B) : GoodIn sk_B (ws ++ (w0 :: sk_B)) := fun w hw => by
  rcases List.mem_append.mp hw with hw | hw
  · exact ⟨hl w hw, sk_B_good (hl w hw)⟩
  · exact sk_goodW h w hw
theorem sk_dK : decode cJ3_checkIndex_8e157 0 = .ok (.iload_n 0, 1) ∧ decode cJ3_checkIndex_8e157 1 = .ok (.ifCond .lt 8, 3) ∧ decode cJ3_checkIndex_8e157 4 = .ok (.iload_n 0, 1) ∧ decode cJ3_checkIndex_8e157 5 = .ok (.iload_n 1, 1) ∧ decode cJ3_checkIndex_8e157 6 = .ok (.if_icmp .lt 10, 3) ∧ decode cJ3_checkIndex_8e157 16 = .ok (.iload_n 0, 1) ∧ decode cJ3_checkIndex_8e157 17 = .ok (.ireturn, 1) := by
  (repeat' apply And.intro) <;> decide +kernel
theorem sk_dK2 : decode cJ0_checkIndex_df160 0 = .ok (.iload_n 0, 1) ∧ decode cJ0_checkIndex_df160 1 = .ok (.iload_n 1, 1) ∧ decode cJ0_checkIndex_df160 2 = .ok (.getstatic 1053, 3) ∧ decode cJ0_checkIndex_df160 5 = .ok (.invokestatic 1059, 3) ∧ decode cJ0_checkIndex_df160 8 = .ok (.pop, 1) ∧ decode cJ0_checkIndex_df160 9 = .ok (.return_, 1) := by
  (repeat' apply And.intro) <;> decide +kernel
theorem sk_dK3 : decode cJ1_charAt_3b067 0 = .ok (.iload_n 1, 1) ∧ decode cJ1_charAt_3b067 1 = .ok (.aload_n 0, 1) ∧ decode cJ1_charAt_3b067 2 = .ok (.arraylength, 1) ∧ decode cJ1_charAt_3b067 3 = .ok (.invokestatic 9, 3) ∧ decode cJ1_charAt_3b067 6 = .ok (.aload_n 0, 1) ∧ decode cJ1_charAt_3b067 7 = .ok (.iload_n 1, 1) ∧ decode cJ1_charAt_3b067 8 = .ok (.baload, 1) ∧ decode cJ1_charAt_3b067 9 = .ok (.sipush 255, 3) ∧ decode cJ1_charAt_3b067 12 = .ok (.iand, 1) ∧ decode cJ1_charAt_3b067 13 = .ok (.i2c, 1) ∧ decode cJ1_charAt_3b067 14 = .ok (.ireturn, 1) := by
  (repeat' apply And.intro) <;> decide +kernel
theorem sk_dK4 : decode cJ0_isLatin1_aae02 0 = .ok (.getstatic 38, 3) ∧ decode cJ0_isLatin1_aae02 3 = .ok (.ifCond .eq 14, 3) ∧ decode cJ0_isLatin1_aae02 6 = .ok (.aload_n 0, 1) ∧ decode cJ0_isLatin1_aae02 7 = .ok (.getfield 15, 3) ∧ decode cJ0_isLatin1_aae02 10 = .ok (.ifCond .ne 7, 3) ∧ decode cJ0_isLatin1_aae02 13 = .ok (.iconst 1, 1) ∧ decode cJ0_isLatin1_aae02 14 = .ok (.goto 4, 3) ∧ decode cJ0_isLatin1_aae02 18 = .ok (.ireturn, 1) := by
  (repeat' apply And.intro) <;> decide +kernel
theorem sk_dK5 : decode cJ0_charAt_5068e 0 = .ok (.aload_n 0, 1) ∧ decode cJ0_charAt_5068e 1 = .ok (.invokevirtual 492, 3) ∧ decode cJ0_charAt_5068e 4 = .ok (.ifCond .eq 12, 3) ∧ decode cJ0_charAt_5068e 7 = .ok (.aload_n 0, 1) ∧ decode cJ0_charAt_5068e 8 = .ok (.getfield 9, 3) ∧ decode cJ0_charAt_5068e 11 = .ok (.iload_n 1, 1) ∧ decode cJ0_charAt_5068e 12 = .ok (.invokestatic 495, 3) ∧ decode cJ0_charAt_5068e 15 = .ok (.ireturn, 1) := by
  (repeat' apply And.intro) <;> decide +kernel
theorem sk_dK6 : decode cX12_kindOf 0 = .ok (.iconst 0, 1) ∧ decode cX12_kindOf 1 = .ok (.istore_n 1, 1) ∧ decode cX12_kindOf 2 = .ok (.iload_n 1, 1) ∧ decode cX12_kindOf 3 = .ok (.bipush 6, 2) ∧ decode cX12_kindOf 5 = .ok (.if_icmp .ge 21, 3) ∧ decode cX12_kindOf 8 = .ok (.ldc 105, 2) ∧ decode cX12_kindOf 10 = .ok (.iload_n 1, 1) ∧ decode cX12_kindOf 11 = .ok (.invokevirtual 107, 3) ∧ decode cX12_kindOf 14 = .ok (.iload_n 0, 1) ∧ decode cX12_kindOf 15 = .ok (.if_icmp .ne 5, 3) ∧ decode cX12_kindOf 18 = .ok (.iload_n 1, 1) ∧ decode cX12_kindOf 19 = .ok (.ireturn, 1) ∧ decode cX12_kindOf 20 = .ok (.iinc 1 1, 3) ∧ decode cX12_kindOf 23 = .ok (.goto (-21), 3) ∧ decode cX12_kindOf 26 = .ok (.iconst (-1), 1) ∧ decode cX12_kindOf 27 = .ok (.ireturn, 1) := by
  (repeat' apply And.intro) <;> decide +kernel
/-- the start of a walk without a world -/
theorem sk_start0 {m : MethodId} {as : List Value} {nL : Nat} (hlen : as.length ≤ nL) (hcat : ∀ v ∈ as, v.category = 1) : ∃ lsA : Array Slot, entryFrame m as.toArray nL = F0 m 0 lsA [] ∧ lv_has lsA nL (lv_args 0 as) := by
  have hl := lv_entry as (n := nL) (by rw [sk_args_sl _ hcat]; exact hlen)
  exact ⟨_, lg_entry_eq m as nL, hl⟩
theorem sk_c1 (l : Launch) (H0 : Heap) (i n : Int32) (fv : Value) (hf : fv.category = 1) (h1 : ¬ i < 0) (h2 : i < n) : Met l yJ3_checkIndex_8e157 (.code yJ3_checkIndex_8e157 cJ3_checkIndex_8e157 3 (some .int) :: sk_B) (sk_rm 1) (sk_P0 H0 (fun _ => True) [.int i, .int n, fv]) (QcRead i) 0 0 (fun _ => False) := by
  refine Met.ofW (cc := cJ3_checkIndex_8e157) (maxL := 3) (ret := some .int) (by decide +kernel) rfl ?_
  intro p e s m args below meth c s₁ B hml hP
  obtain ⟨rfl, -⟩ := hP
  have hx := B.exec
  have hb := B.bytes
  have hr := B.returns
  have hlocks := B.notSynchronized
  obtain ⟨d0, d1, d4, d5, d6, d16, d17⟩ := sk_dK
  obtain ⟨ls, he, hl⟩ := sk_start0 (m := m) (as := [.int i, .int n, fv]) (nL := 3) (Nat.le_of_ble_eq_true rfl) (by intro v hv; simp only [List.mem_cons, List.not_mem_nil, or_false] at hv; rcases hv with rfl | rfl | rfl <;> first | rfl | exact hf)
  rw [he]
  have hl : lv_has ls 3 [(0, .int i), (1, .int n), (2, fv)] := hl
  refine lv_iload_n hx hb d0 rfl (lv_at hl 0 rfl) ?_
  refine lv_if_lt (tgt := 9) hx hb d1 (by decide) (fun q => absurd q h1) (fun _ => ?_)
  refine lv_iload_n hx hb d4 rfl (lv_at hl 0 rfl) ?_
  refine lv_iload_n hx hb d5 rfl (lv_at hl 1 rfl) ?_
  refine lv_icmp_lt (tgt := 16) hx hb d6 (by decide) (fun _ => ?_) (fun q => absurd h2 q)
  refine lv_iload_n hx hb d16 rfl (lv_at hl 0 rfl) ?_
  exact W.iret hx hb hr (fun t ht _ => ⟨rfl, ht⟩) (fun _ h => by cases h) d17
theorem sk_c2 (l : Launch) (H0 : Heap) (i n : Int32) (h1 : ¬ i < 0) (h2 : i < n) : Met l yJ0_checkIndex_df160 (.code yJ0_checkIndex_df160 cJ0_checkIndex_df160 2 none :: sk_B) (sk_rm 2) (sk_P0 H0 (fun _ => True) [.int i, .int n]) sk_QV 0 0 (fun _ => False) := by
  refine Met.ofW (cc := cJ0_checkIndex_df160) (maxL := 2) (ret := none) (by decide +kernel) rfl ?_
  intro p e s m args below meth c s₁ B hml hP
  obtain ⟨rfl, hlow, hS2, -⟩ := hP
  have hx := B.exec
  have hb := B.bytes
  have hr := B.returns
  have hlocks := B.notSynchronized
  have hts0 := atoms_spec (ws := Cond.code yJ0_checkIndex_df160 cJ0_checkIndex_df160 2 none :: sk_B) B.pre
  have hts : ∀ w ∈ sk_B, w.before _ s = true := fun w h => hts0 w (List.mem_cons_of_mem _ h)
  have hown : s.vm.findClass "java/lang/String" = some m.cls := findClass_of_methodNamed B.named
  obtain ⟨d0, d1, d2, d5, d8, d9⟩ := sk_dK2
  obtain ⟨ls, he, hl⟩ := sk_start0 (m := m) (as := [.int i, .int n]) (nL := 2) (Nat.le_of_ble_eq_true rfl) (by simp [Value.category])
  rw [he]
  have hl : lv_has ls 2 [(0, .int i), (1, .int n)] := hl
  have main : ∀ fv : Value, fv.category = 1 → va_Z "jdk/internal/util/Preconditions" "SIOOBE_FORMATTER" "Ljava/util/function/BiFunction;" fv (fun q : Nat => H0.size ≤ q) s H0 → W p l e (headSpec (Cond.code yJ0_checkIndex_df160 cJ0_checkIndex_df160 2 none :: sk_B) (sk_rm 2)).room s m (List.toArray [.int i, .int n]) below meth c s.heap [] 0 0 (MQ below sk_QV (List.toArray [.int i, .int n]) s 0 0 (fun _ => False)) (F0 m 0 ls []) := by
    intro fv hfv hZ
    refine lv_iload_n hx hb d0 rfl (lv_at hl 0 rfl) ?_
    refine lv_iload_n hx hb d1 rfl (lv_at hl 1 rfl) ?_
    refine va_gets (C := "jdk/internal/util/Preconditions") hx hb (va_Z.kept hZ hlow) va_S.rf hown (hts _ (sk_kx _ (by decide +kernel))) (fun x hx => hx) d2 ?_
    refine W.callR (W.runS (As := [.int i, .int n, fv]) (rest := []) ⟨hx, hb, hml, hown, hts⟩ (sk_c1 l H0 i n fv hfv h1 h2) (va_cwS 3 hts (sk_goodL (ws := [.methodLink "java/lang/String" 1059 yJ3_checkIndex_8e157, .static yJ3_checkIndex_8e157, .initialized "jdk/internal/util/Preconditions"]) (fun w hw => sk_kx w (by simp only [List.mem_cons, List.not_mem_nil, or_false] at hw; rcases hw with rfl | rfl | rfl <;> decide +kernel)) (sk_kw _ (List.mem_of_getElem? (i := 0) rfl))) rfl rfl rfl (by decide +kernel) ⟨by decide, by decide⟩) ⟨sk_P0_blind, fun U hU hW => ⟨rfl, fun q h1 h2 => by rw [hU]; exact hlow q h1 h2, hS2.warm hW, trivial⟩⟩ rfl rfl hl.1 rfl (lv_room (by decide)) d5 ⟨by decide, by decide⟩) ?_
    refine W.eq (g2 := F0 m 8 ls [.int i]) rfl ?_
    refine lv_pop hx hb d8 rfl ?_
    exact W.vret hx hb hr (fun t ht _ => ⟨rfl, ht⟩) (fun _ h => by cases h) d9
  obtain ⟨_, _, -, -, -, hq⟩ := hS2
  rcases hq with h | ⟨t, h⟩
  · exact main .null rfl h
  · exact main (.ref t) rfl h
theorem sk_KBb : ∀ k : Nat, k < 6 → ((sk_KB k &&& 255).toUInt32.toUInt16.toUInt32.toInt32 = sk_KB k ∧ narrow .char (.int (sk_KB k)) = .int (sk_KB k)) := by decide +kernel
theorem sk_c3 (l : Launch) (H0 : Heap) (k : Nat) (hk : k < 6) (a : Nat) : Met l yJ1_charAt_3b067 (.code yJ1_charAt_3b067 cJ1_charAt_3b067 2 (some .char) :: sk_B) (sk_rm 3) (fun v U => sk_P0 H0 (fun _ => True) [.ref a, .int (nI k)] v U ∧ va_T .byte a 6 (fun j => .int (sk_KB j)) (fun q : Nat => H0.size ≤ q) U H0) (QcRead (sk_KB k)) 0 0 (fun _ => False) := by
  refine Met.ofW (cc := cJ1_charAt_3b067) (maxL := 2) (ret := some .char) (by decide +kernel) rfl ?_
  intro p e s m args below meth c s₁ B hml hP
  obtain ⟨⟨rfl, hlow, hS2, -⟩, hT0⟩ := hP
  have hx := B.exec
  have hb := B.bytes
  have hr := B.returns
  have hlocks := B.notSynchronized
  have hts0 := atoms_spec (ws := Cond.code yJ1_charAt_3b067 cJ1_charAt_3b067 2 (some .char) :: sk_B) B.pre
  have hts : ∀ w ∈ sk_B, w.before _ s = true := fun w h => hts0 w (List.mem_cons_of_mem _ h)
  have hown : s.vm.findClass "java/lang/StringLatin1" = some m.cls := findClass_of_methodNamed B.named
  have hT := va_T.kept hT0 hlow
  obtain ⟨d0, d1, d2, d3, d6, d7, d8, d9, d12, d13, d14⟩ := sk_dK3
  obtain ⟨ls, he, hl⟩ := sk_start0 (m := m) (as := [.ref a, .int (nI k)]) (nL := 2) (Nat.le_of_ble_eq_true rfl) (by simp [Value.category])
  rw [he]
  have hl : lv_has ls 2 [(0, .ref a), (1, .int (nI k))] := hl
  have h31 : k < 2 ^ 31 := by omega
  refine lv_iload_n hx hb d0 rfl (lv_at hl 1 rfl) ?_
  refine lv_aload_n hx hb d1 rfl (lv_at hl 0 rfl) ?_
  refine va_tlen hx hb hT va_S.rf (v := nI 6) rfl d2 ?_
  refine sk_callV0 (W.runS (As := [.int (nI k), .int (nI 6)]) (rest := []) ⟨hx, hb, hml, hown, hts⟩ (sk_c2 l H0 (nI k) (nI 6) (nI_pos h31) (nI_lt hk (by decide))) (va_cwS 2 hts (sk_goodL (ws := [.methodLink "java/lang/StringLatin1" 9 yJ0_checkIndex_df160, .static yJ0_checkIndex_df160, .initialized "java/lang/String"]) (fun w hw => sk_kx w (by simp only [List.mem_cons, List.not_mem_nil, or_false] at hw; rcases hw with rfl | rfl | rfl <;> decide +kernel)) (sk_kw _ (List.mem_of_getElem? (i := 1) rfl))) rfl rfl rfl (by decide +kernel) ⟨by decide, by decide⟩) ⟨sk_P0_blind, fun U hU hW => ⟨rfl, fun q h1 h2 => by rw [hU]; exact hlow q h1 h2, hS2.warm hW, trivial⟩⟩ rfl rfl hl.1 rfl (lv_room (by decide)) d3 ⟨by decide, by decide⟩) ?_
  refine W.eq (g2 := F0 m 6 ls []) rfl ?_
  refine lv_aload_n hx hb d6 rfl (lv_at hl 0 rfl) ?_
  refine lv_iload_n hx hb d7 rfl (lv_at hl 1 rfl) ?_
  refine va_tb hx hb hT va_S.rf (vp_in_nI hk (by decide)) (v := .int (sk_KB k)) (by rw [nI_clamp h31]) d8 ?_
  refine lv_sipush (v := 255) hx hb d9 (by decide) ?_
  refine lv_iand hx hb d12 ?_
  refine lv_i2c (v := sk_KB k) hx hb d13 (sk_KBb k hk).1 ?_
  exact W.zret hx hb hr (sk_KBb k hk).2 (fun t ht _ => ⟨rfl, ht⟩) (fun _ h => by cases h) d14
theorem sk_c4 (l : Launch) (H0 : Heap) (a : Nat) : Met l yJ0_isLatin1_aae02 (.code yJ0_isLatin1_aae02 cJ0_isLatin1_aae02 1 (some .boolean) :: sk_B) (sk_rm 1) (fun v U => sk_P0 H0 (fun _ => True) [.ref a] v U ∧ va_OF "java/lang/String" "coder" "B" (.int 0) a (fun q : Nat => H0.size ≤ q) U H0) (QcRead 1) 0 0 (fun _ => False) := by
  refine Met.ofW (cc := cJ0_isLatin1_aae02) (maxL := 1) (ret := some .boolean) (by decide +kernel) rfl ?_
  intro p e s m args below meth c s₁ B hml hP
  obtain ⟨⟨rfl, hlow, hS2, -⟩, hF0⟩ := hP
  have hx := B.exec
  have hb := B.bytes
  have hr := B.returns
  have hlocks := B.notSynchronized
  have hts0 := atoms_spec (ws := Cond.code yJ0_isLatin1_aae02 cJ0_isLatin1_aae02 1 (some .boolean) :: sk_B) B.pre
  have hts : ∀ w ∈ sk_B, w.before _ s = true := fun w h => hts0 w (List.mem_cons_of_mem _ h)
  have hown : s.vm.findClass "java/lang/String" = some m.cls := findClass_of_methodNamed B.named
  obtain ⟨_, _, -, -, hZ, -⟩ := hS2
  obtain ⟨d0, d3, d6, d7, d10, d13, d14, d18⟩ := sk_dK4
  obtain ⟨ls, he, hl⟩ := sk_start0 (m := m) (as := [.ref a]) (nL := 1) (Nat.le_of_ble_eq_true rfl) (by simp [Value.category])
  rw [he]
  have hl : lv_has ls 1 [(0, .ref a)] := hl
  refine va_gets (C := "java/lang/String") hx hb (va_Z.kept hZ hlow) va_S.rf hown (hts _ (sk_kx _ (by decide +kernel))) (fun x hx => hx) d0 ?_
  refine lv_if_eq (tgt := 17) hx hb d3 (by decide) (fun q => absurd q (by decide)) (fun _ => ?_)
  refine lv_aload_n hx hb d6 rfl (lv_at hl 0 rfl) ?_
  refine vk_getf hx hb (va_OF.kept hF0 hlow) va_S.rf hown (hts _ (sk_kx _ (by decide +kernel))) (fun x hx => hx) d7 ?_
  refine lv_if_ne (tgt := 17) hx hb d10 (by decide) (fun q => absurd rfl q) (fun _ => ?_)
  refine lv_iconst (v := 1) hx hb d13 (by decide) ?_
  refine lv_goto (tgt := 18) hx hb d14 (by decide) ?_
  exact W.zret hx hb hr rfl (fun t ht _ => ⟨rfl, ht⟩) (fun _ h => by cases h) d18
theorem sk_blind2 {H0 : Heap} {av : List Value} {P : Prop} {F : State → Prop} (hF : ∀ u U : State, u.vm.Alike U.vm → F u → F U) : FrameBlind (fun v U => sk_P0 H0 (fun _ => P) av v U ∧ F U) := by
  rintro v U g mk ⟨h1, h2⟩
  exact ⟨sk_P0_blind v U g mk h1, hF U (U.calling g mk v) (Vm.Alike.refl U.vm) h2⟩
theorem sk_c5 (l : Launch) (H0 : Heap) (k : Nat) (hk : k < 6) (a v : Nat) : Met l yJ0_charAt_5068e (.code yJ0_charAt_5068e cJ0_charAt_5068e 2 (some .char) :: sk_B) (sk_rm 4) (fun w U => sk_P0 H0 (fun _ => True) [.ref a, .int (nI k)] w U ∧ (va_O "java/lang/String" a (fun q : Nat => H0.size ≤ q) U H0 ∧ va_OF "java/lang/String" "coder" "B" (.int 0) a (fun q : Nat => H0.size ≤ q) U H0 ∧ va_OF "java/lang/String" "value" "[B" (.ref v) a (fun q : Nat => H0.size ≤ q) U H0 ∧ va_T .byte v 6 (fun j => .int (sk_KB j)) (fun q : Nat => H0.size ≤ q) U H0)) (QcRead (sk_KB k)) 0 0 (fun _ => False) := by
  refine Met.ofW (cc := cJ0_charAt_5068e) (maxL := 2) (ret := some .char) (by decide +kernel) rfl ?_
  intro p e s m args below meth c s₁ B hml hP
  obtain ⟨⟨rfl, hlow, hS2, -⟩, hO, hFc, hFv, hT⟩ := hP
  have hx := B.exec
  have hb := B.bytes
  have hr := B.returns
  have hlocks := B.notSynchronized
  have hts0 := atoms_spec (ws := Cond.code yJ0_charAt_5068e cJ0_charAt_5068e 2 (some .char) :: sk_B) B.pre
  have hts : ∀ w ∈ sk_B, w.before _ s = true := fun w h => hts0 w (List.mem_cons_of_mem _ h)
  have hown : s.vm.findClass "java/lang/String" = some m.cls := findClass_of_methodNamed B.named
  obtain ⟨d0, d1, d4, d7, d8, d11, d12, d15⟩ := sk_dK5
  obtain ⟨ls, he, hl⟩ := sk_start0 (m := m) (as := [.ref a, .int (nI k)]) (nL := 2) (Nat.le_of_ble_eq_true rfl) (by simp [Value.category])
  rw [he]
  have hl : lv_has ls 2 [(0, .ref a), (1, .int (nI k))] := hl
  have hrecv : ∃ cell : Cell, s.heap[a]? = some cell ∧ cell.vm.isStatics = false ∧ s.vm.findClass "java/lang/String" = some cell.cls := by
    obtain ⟨cell, h1, h2, h3, -⟩ := va_O.kept hO hlow
    exact ⟨cell, h1, h2, h3⟩
  refine lv_aload_n hx hb d0 rfl (lv_at hl 0 rfl) ?_
  refine W.callR (W.runV (As := []) (b := a) (rest := []) ⟨hx, hb, hml, hown, hts⟩ (sk_c4 l H0 a) (cwV (C := "java/lang/String") 0 hts (sk_goodL (ws := [.methodLink "java/lang/String" 492 yJ0_isLatin1_aae02, .instanceMethod yJ0_isLatin1_aae02, .selects "java/lang/String" yJ0_isLatin1_aae02 yJ0_isLatin1_aae02, .initialized "java/lang/String"]) (fun w hw => sk_kx w (by simp only [List.mem_cons, List.not_mem_nil, or_false] at hw; rcases hw with rfl | rfl | rfl | rfl <;> decide +kernel)) (sk_kw _ (List.mem_of_getElem? (i := 3) rfl))) rfl rfl rfl (by decide +kernel) ⟨by decide, by decide⟩) ⟨sk_blind2 (fun u U h h2 => va_OF.moved h h2), hrecv, fun U hU hW => ⟨⟨rfl, fun q h1 h2 => by rw [hU]; exact hlow q h1 h2, hS2.warm hW, trivial⟩, va_OF.moved hW.alike hFc⟩⟩ rfl rfl hl.1 rfl (lv_room (by decide)) d1 ⟨by decide, by decide⟩) ?_
  refine W.eq (g2 := F0 m 4 ls [.int 1]) rfl ?_
  refine lv_if_eq (tgt := 16) hx hb d4 (by decide) (fun q => absurd q (by decide)) (fun _ => ?_)
  refine lv_aload_n hx hb d7 rfl (lv_at hl 0 rfl) ?_
  refine vk_getf hx hb (va_OF.kept hFv hlow) va_S.rf hown (hts _ (sk_kx _ (by decide +kernel))) (fun x hx => hx) d8 ?_
  refine lv_iload_n hx hb d11 rfl (lv_at hl 1 rfl) ?_
  refine W.callR (W.runS (As := [.ref v, .int (nI k)]) (rest := []) ⟨hx, hb, hml, hown, hts⟩ (sk_c3 l H0 k hk v) (va_cwS 2 hts (sk_goodL (ws := [.methodLink "java/lang/String" 495 yJ1_charAt_3b067, .static yJ1_charAt_3b067, .initialized "java/lang/StringLatin1"]) (fun w hw => sk_kx w (by simp only [List.mem_cons, List.not_mem_nil, or_false] at hw; rcases hw with rfl | rfl | rfl <;> decide +kernel)) (sk_kw _ (List.mem_of_getElem? (i := 2) rfl))) rfl rfl rfl (by decide +kernel) ⟨by decide, by decide⟩) ⟨sk_blind2 (fun u U h h2 => va_T.moved h h2), fun U hU hW => ⟨⟨rfl, fun q h1 h2 => by rw [hU]; exact hlow q h1 h2, hS2.warm hW, trivial⟩, va_T.moved hW.alike hT⟩⟩ rfl rfl hl.1 rfl (lv_room (by decide)) d12 ⟨by decide, by decide⟩) ?_
  refine W.eq (g2 := F0 m 15 ls [.int (sk_KB k)]) rfl ?_
  exact W.zret hx hb hr (sk_KBb k hk).2 (fun t ht _ => ⟨rfl, ht⟩) (fun _ h => by cases h) d15
set_option maxHeartbeats 4000000 in
theorem sk_loopK {p : Program} {l : Launch} {e : Env} {R : Room} {s : State} {m : MethodId} {args : Array Value} {below : List Frame} {meth : Method} {c : Code} {Q : State → Prop} {H0 : Heap} (hx : p.tables.exec = Jvm.exec) (hb : c.code = cX12_kindOf) (hml : c.maxLocals = 2) (hown : s.vm.findClass "SkylineNesterModel" = some m.cls) (hts : ∀ w ∈ sk_B, w.before args s = true) (hlow : sk_Low H0 s) (hS2 : sk_S2 H0 s) (hR : 5 ≤ R.frames ∧ 400 ≤ R.locals) {x : Int32}
    (hret : ∀ (pc : Nat) (ls : Array Slot) (v : Int32), v = sk_kof 6 0 x → decode cX12_kindOf pc = .ok (.ireturn, 1) → W p l e R s m args below meth c s.heap [] 0 0 Q (F0 m pc ls [.int v])) :
    ∀ (n k : Nat) (ls : Array Slot), n + k = 6 → sk_kof n k x = sk_kof 6 0 x → lv_has ls 2 [(0, .int x), (1, .int (nI k))] → W p l e R s m args below meth c s.heap [] 0 0 Q (F0 m 2 ls []) := by
  obtain ⟨d0, d1, d2, d3, d5, d8, d10, d11, d14, d15, d18, d19, d20, d23, d26, d27⟩ := sk_dK6
  intro n
  induction n with
  | zero =>
    intro k ls hn hk hl
    have hk6 : k = 6 := by omega
    subst hk6
    refine lv_iload_n hx hb d2 rfl (lv_at hl 1 rfl) ?_
    refine lv_bipush (v := 6) hx hb d3 (by decide) ?_
    refine lv_icmp_ge (tgt := 26) hx hb d5 (by decide) (fun _ => ?_) (fun hc => absurd (by decide : (6 : Int32) ≤ nI 6) hc)
    refine lv_iconst (v := -1) hx hb d26 (by decide) ?_
    exact hret _ _ _ hk d27
  | succ n ih =>
    intro k ls hn hk hl
    have hk6 : k < 6 := by omega
    refine lv_iload_n hx hb d2 rfl (lv_at hl 1 rfl) ?_
    refine lv_bipush (v := 6) hx hb d3 (by decide) ?_
    refine lv_icmp_ge (tgt := 26) hx hb d5 (by decide) (fun hc => absurd hc (nI_ge (a := k) (b := 6) hk6 (by decide))) (fun _ => ?_)
    obtain ⟨adK, adV, hS, hRf, hZ, hq⟩ := id hS2
    obtain ⟨hO, hFc, hFv, hT⟩ := hS.1 0 (by decide)
    refine va_ldcS hx hb hown hRf d8 ?_
    refine lv_iload_n hx hb d10 rfl (lv_at hl 1 rfl) ?_
    have hrecv : ∃ cell : Cell, s.heap[adK 0]? = some cell ∧ cell.vm.isStatics = false ∧ s.vm.findClass "java/lang/String" = some cell.cls := by
      obtain ⟨cell, h1, h2, h3, -⟩ := va_O.kept hO hlow
      exact ⟨cell, h1, h2, h3⟩
    refine W.callR (W.runV (As := [.int (nI k)]) (b := adK 0) (rest := []) ⟨hx, hb, hml, hown, hts⟩ (sk_c5 l H0 k hk6 (adK 0) (adV 0)) (cwV (C := "java/lang/String") 1 hts (sk_goodL (ws := [.methodLink "SkylineNesterModel" 107 yJ0_charAt_5068e, .instanceMethod yJ0_charAt_5068e, .selects "java/lang/String" yJ0_charAt_5068e yJ0_charAt_5068e, .initialized "java/lang/String"]) (fun w hw => sk_kx w (by simp only [List.mem_cons, List.not_mem_nil, or_false] at hw; rcases hw with rfl | rfl | rfl | rfl <;> decide +kernel)) (sk_kw _ (List.mem_of_getElem? (i := 4) rfl))) rfl rfl rfl (by decide +kernel) ⟨hR.1, by show 8 + (2 + 11) + 80 * 4 ≤ R.locals; have := hR.2; omega⟩) ⟨sk_blind2 (fun u U h h2 => ⟨va_O.moved h h2.1, va_OF.moved h h2.2.1, va_OF.moved h h2.2.2.1, va_T.moved h h2.2.2.2⟩), hrecv, fun U hU hW => ⟨⟨rfl, fun q h1 h2 => by rw [hU]; exact hlow q h1 h2, hS2.warm hW, trivial⟩, va_O.moved hW.alike hO, va_OF.moved hW.alike hFc, va_OF.moved hW.alike hFv, va_T.moved hW.alike hT⟩⟩ rfl rfl hl.1 rfl (lv_room (by decide)) d11 ⟨Nat.zero_le _, Nat.zero_le _⟩) ?_
    refine W.eq (g2 := F0 m 14 ls [.int (sk_KB k)]) rfl ?_
    refine lv_iload_n hx hb d14 rfl (lv_at hl 0 rfl) ?_
    unfold sk_kof at hk
    refine lv_icmp_ne (tgt := 20) hx hb d15 (by decide) (fun hc => ?_) (fun hc => ?_)
    · rw [if_neg hc] at hk
      refine lv_iinc (v := nI k + 1) (lv' := [(1, .int (nI k + 1)), (0, .int x)]) hx hb d20 hl (k := 1) rfl rfl (by decide) rfl (fun ls hl => ?_)
      refine lv_goto (tgt := 2) hx hb d23 (by decide) ?_
      rw [nI_1] at hl
      exact ih (k + 1) ls (by omega) hk (lv_sub hl [1, 0] rfl)
    · rw [if_pos hc] at hk
      refine lv_iload_n hx hb d18 rfl (lv_at hl 1 rfl) ?_
      exact hret _ _ _ hk d19
theorem sk_prim2_met {l : Launch} {nest : List Jvm.Cond} {Sx : State → Prop} {D : va_G} {cA : Nat → ClassId} {b : Nat} {X : Nat × (Nat → Int32)} {H0 : Heap} (hSx : ∀ s : State, Sx s → sk_S2 H0 s) (d : Nat) (hd6 : 6 ≤ d) (as : List Value) (w : sk_W) (r : sk_R) (h : sk_prim2 as w = some r) : sk_Met l nest Sx D cA b X H0 (sk_inf 2).1 (sk_inf 2).2.1 (sk_inf 2).2.2.1 (sk_inf 2).2.2.2 (d + 1) as w r.1 r.2 ∧ w.length ≤ r.2.length ∧ sk_sz w ≤ sk_sz r.2 := by
  unfold sk_prim2 at h
  split at h
  · next x =>
    cases h
    refine ⟨?_, Nat.le_refl _, Nat.le_refl _⟩
    refine Met.ofW (cc := cX12_kindOf) (maxL := 2) (ret := some .int) (by decide +kernel) rfl ?_
    intro p e s m args below meth c s₁ B hml hP
    obtain ⟨rfl, hR, hsize, hT⟩ := hP
    have hx := B.exec
    have hb := B.bytes
    have hr := B.returns
    have hts0 := atoms_spec (ws := Cond.code (sk_inf 2).1 (sk_inf 2).2.1 (sk_inf 2).2.2.1 (sk_inf 2).2.2.2 :: sk_B) B.pre
    have hts : ∀ w ∈ sk_B, w.before _ s = true := fun w h => hts0 w (List.mem_cons_of_mem _ h)
    have hown : s.vm.findClass "SkylineNesterModel" = some m.cls := findClass_of_methodNamed B.named
    have hlocks := B.notSynchronized
    have hS2 := hSx s hT.2.2.2.2.2
    obtain ⟨lsA, he, hlv, -⟩ := sk_entry (b := b) (n0 := H0.size) (m := m) (as := [.int x]) (nL := 2) (Nat.le_of_ble_eq_true rfl) (by simp [Value.category])
    rw [he]
    have hl : lv_has lsA 2 [(0, .int x)] := hlv
    have hlow : sk_Low H0 s := by
      obtain ⟨t, -, -, -, h4⟩ := hR
      exact fun q h1 _ => h4 q h1
    show W p l e _ s m _ below meth c s.heap [] 0 0 (MQ below _ _ s (w.length - w.length) (sk_sz w - sk_sz w) _) _
    rw [Nat.sub_self, Nat.sub_self]
    obtain ⟨d0, d1, -⟩ := sk_dK6
    refine lv_iconst (v := 0) hx hb d0 (by decide) ?_
    refine lv_istore_n (lv' := [(1, .int 0), (0, .int x)]) hx hb d1 rfl hl (by decide) rfl (fun ls hl => ?_)
    refine sk_loopK (H0 := H0) (x := x) hx hb hml hown hts hlow hS2 ⟨by show 5 ≤ d + 1; omega, by show 400 ≤ 80 * (d + 1); omega⟩ (fun pc ls v hv hd => ?_) 6 0 ls rfl rfl (lv_sub hl [1, 0] rfl)
    subst hv
    exact W.iret hx hb hr (fun t ht _ => ⟨rfl, by rw [ht]; exact hR⟩) (fun _ h => by cases h) hd
  · cases h
