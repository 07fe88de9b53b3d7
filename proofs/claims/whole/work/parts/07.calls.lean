/-! ===== calls ===== -/
def sk_Pc (nest : List Jvm.Cond) (Sx : State → Prop) (D : va_G) (cA : Nat → ClassId) (b : Nat) (X : Nat × (Nat → Int32)) (H0 : Heap) (as : List Value) (w : sk_W) : Array Value → State → Prop := fun v U => v = (as.map (sk_tr b H0.size)).toArray ∧ sk_Rel D cA b X H0 w U.heap ∧ U.heap.size + 1 = H0.size + w.length ∧ sk_Tb nest Sx D cA b X H0 U
def sk_Qc (D : va_G) (cA : Nat → ClassId) (b : Nat) (X : Nat × (Nat → Int32)) (H0 : Heap) (r : Option Value) (w1 : sk_W) : Array Value → State → Outcome → State → Prop := fun _ _ o t => o = .returned (r.map (sk_tr b H0.size)) ∧ sk_Rel D cA b X H0 w1 t.heap
/-- the contract of one run of a method: from the world w with the arguments as it comes to r and w1 -/
def sk_Met (l : Launch) (nest : List Jvm.Cond) (Sx : State → Prop) (D : va_G) (cA : Nat → ClassId) (b : Nat) (X : Nat × (Nat → Int32)) (H0 : Heap) (y : MethodName) (bytes : ByteArray) (maxL : Nat) (ret : Option FieldType) (d : Nat) (as : List Value) (w : sk_W) (r : Option Value) (w1 : sk_W) : Prop :=
  Met l y (.code y bytes maxL ret :: sk_B) ({ frames := d, cells := w1.length - w.length, slots := sk_sz w1 - sk_sz w, locals := 80 * d }) (sk_Pc nest Sx D cA b X H0 as w) (sk_Qc D cA b X H0 r w1) (w1.length - w.length) (sk_sz w1 - sk_sz w) (fun q => H0.size ≤ q)
/-- the words that stay are of one form -/
def sk_nestOK (nest : List Jvm.Cond) : Prop := ∀ x ∈ nest, ∃ (o : String) (i : Nat) (y : MethodName) (h : String), x = .methodLinkNest o i y h
def sk_SxOK (Sx : State → Prop) : Prop := ∀ s U : State, s.WarmedH U.vm → Sx s → Sx U
theorem sk_Tb.warm {nest : List Jvm.Cond} {Sx : State → Prop} {D : va_G} {cA : Nat → ClassId} {b : Nat} {X : Nat × (Nat → Int32)} {H0 : Heap} {s U : State} (hn : sk_nestOK nest) (hx : sk_SxOK Sx) (hW : s.WarmedH U.vm) (h : sk_Tb nest Sx D cA b X H0 s) : sk_Tb nest Sx D cA b X H0 U := by
  obtain ⟨hK, hN, ⟨a1, a2, a3⟩, hX, hb, hS⟩ := h
  refine ⟨va_K.moved hW.alike hK, fun x hx => ?_, ⟨a1.moved hW.alike, a2.moved hW.alike, a3.moved hW.alike⟩, va_X.moved hW.alike hX, hb, hx s U hW hS⟩
  obtain ⟨o, i, y, h, rfl⟩ := hn x hx
  exact va_Nw.warmM hW (hN _ hx)
theorem sk_Pc_blind {nest : List Jvm.Cond} {Sx : State → Prop} {D : va_G} {cA : Nat → ClassId} {b : Nat} {X : Nat × (Nat → Int32)} {H0 : Heap} {as : List Value} {w : sk_W} (hn : sk_nestOK nest) (hx : sk_SxOK Sx) : FrameBlind (sk_Pc nest Sx D cA b X H0 as w) := by
  rintro v U g mk ⟨h1, h2, h3, h4⟩
  exact ⟨h1, h2, h3, sk_Tb.warm (s := U) (U := U.calling g mk v) hn hx (State.WarmedH.refl U) h4⟩
theorem sk_called {p : Program} {l : Launch} {e : Env} {R : Room} {s : State} {m : MethodId} {args : Array Value} {below : List Frame} {meth : Method} {c : Code} {Q : State → Prop} {D : va_G} {cA : Nat → ClassId} {b : Nat} {X : Nat × (Nat → Int32)} {H0 : Heap} {w0 : sk_W} {nL : Nat} {w w1 : sk_W} {pc : Nat} {ls : sk_L} {st st0 : List Value} {lsA : Array Slot} {A : Array Value} {r : Option Value} {H : Heap} {locs : List Loc} (hL : ∀ q ∈ locs, H0.size ≤ q.base) (hg : w.length ≤ w1.length ∧ sk_sz w ≤ sk_sz w1) (h1 : w0.length ≤ w.length) (h2 : sk_sz w0 ≤ sk_sz w) (h3 : sk_lok nL ls) (h4 : lv_has lsA nL (sk_lv b H0.size 0 ls))
    (hr : va_Run p l e R s m args below meth c H locs (w.length - w0.length) (sk_sz w - sk_sz w0) (w1.length - w.length) (sk_sz w1 - sk_sz w) (F0 m pc lsA st0) (st.map (sk_tr b H0.size)) (sk_Qc D cA b X H0 r w1 A) (fun q => H0.size ≤ q))
    (kk : sk_Good p l e R s m args below meth c Q D cA b X H0 w0 nL (pc + 3) ls (r.toList ++ st) w1) : W p l e R s m args below meth c H locs (w.length - w0.length) (sk_sz w - sk_sz w0) Q (F0 m pc lsA st0) := by
  intro T hT X'
  obtain ⟨v, st₀, t, T', L, h0, X2, hLf, e1, e2, ⟨hv, hR2⟩, hgo⟩ := hr T hT X'
  have hv := Outcome.returned.inj hv
  subst hv
  have k1 : w.length - w0.length + (w1.length - w.length) = w1.length - w0.length := by omega
  have k2 : sk_sz w - sk_sz w0 + (sk_sz w1 - sk_sz w) = sk_sz w1 - sk_sz w0 := by omega
  rw [k1, k2] at X2
  have kk1 := kk T'.heap (locs ++ L) lsA (by rw [e1]; exact hR2) (fun q hq => (List.mem_append.mp hq).elim (hL q) (hLf q)) (by omega) (by omega) h3 h4
  have k3 : (r.toList ++ st).map (sk_tr b H0.size) = (r.map (sk_tr b H0.size)).toList ++ st.map (sk_tr b H0.size) := by cases r <;> simp
  rw [k3] at kk1
  obtain ⟨t2, a1, b1⟩ := kk1 T' rfl X2
  exact ⟨t2, hgo t2 a1, b1⟩
/-- what the tables say of a callee -/
def sk_callee (y : MethodName) (bytes : ByteArray) (maxL : Nat) (ret : Option FieldType) (n : Nat) : Prop := Jvm.Cond.code y bytes maxL ret ∈ sk_B ∧ Jvm.Cond.initialized y.cls ∈ sk_B ∧ (y.cls ≠ "java/lang/invoke/MethodHandle" ∧ y.cls ≠ "java/lang/invoke/VarHandle" ∧ (parseMethodDescriptor y.desc).map (fun d => d.parameters.length) = some n) ∧ maxL ≤ 45
theorem sk_words {y : MethodName} {bytes : ByteArray} {maxL : Nat} {ret : Option FieldType} {n : Nat} (h : sk_callee y bytes maxL ret n) : GoodIn sk_B (Jvm.Cond.code y bytes maxL ret :: sk_B) := by
  intro w hw
  rcases List.mem_cons.mp hw with rfl | hw
  · exact ⟨h.1, sk_B_good h.1⟩
  · exact ⟨hw, sk_B_good hw⟩
theorem sk_cats {b n0 : Nat} {st : List Value} (h : (st.map fun v => v.category).sum ≤ 8) : ((st.map (sk_tr b n0)).map fun v => v.category).sum ≤ 8 := by
  rw [List.map_map]
  have : ((fun v : Value => v.category) ∘ sk_tr b n0) = fun v : Value => v.category := by funext v; exact sk_tr_cat _ _ v
  rw [this]
  exact h
theorem sk_pops_spec : ∀ (n : Nat) (acc st as rest : List Value), sk_pops n acc st = some (as, rest) → (∃ us : List Value, us.length = n ∧ as = us.reverse ++ acc ∧ st = us ++ rest ∧ ∀ v ∈ us, v.category = 1) ∧ (rest.map fun v => v.category).sum ≤ 8
  | 0, acc, st, as, rest, h => by
    unfold sk_pops at h
    split at h
    · next hc => cases h; exact ⟨⟨[], rfl, rfl, rfl, fun _ h => by cases h⟩, hc⟩
    · cases h
  | n + 1, acc, [], as, rest, h => by cases h
  | n + 1, acc, v :: st, as, rest, h => by
    unfold sk_pops at h
    split at h
    · next hc =>
      obtain ⟨⟨us, h1, h2, h3, h4⟩, h5⟩ := sk_pops_spec n (v :: acc) st as rest h
      refine ⟨⟨v :: us, by simp [h1], by rw [h2]; simp, by rw [h3]; rfl, fun u hu => ?_⟩, h5⟩
      rcases List.mem_cons.mp hu with rfl | hu
      · exact hc
      · exact h4 u hu
    · cases h
theorem sk_s_callV {p : Program} {l : Launch} {e : Env} {R : Room} {s : State} {m : MethodId} {args : Array Value} {below : List Frame} {meth : Method} {c : Code} {Q : State → Prop} {nest : List Jvm.Cond} {Sx : State → Prop} {D : va_G} {cA : Nat → ClassId} {b : Nat} {X : Nat × (Nat → Int32)} {H0 : Heap} {w0 : sk_W} {own nm : String} {cc : ByteArray} {nL : Nat} (hC : sk_Cx nest Sx D cA b X H0 w0 own nm cc nL p s m args meth c) {pc : Nat} {ls : sk_L} {st : List Value} {w : sk_W} (hn : sk_nestOK nest) (hsx : sk_SxOK Sx) {y : MethodName} {bytes : ByteArray} {maxL n idx ci d : Nat} {ret : Option FieldType} (hy : sk_callee y bytes maxL ret n) {as rest : List Value} {r : Option Value} {w1 : sk_W} (hM : sk_Met l nest Sx D cA b X H0 y bytes maxL ret d as w r w1) (hg : w.length ≤ w1.length ∧ sk_sz w ≤ sk_sz w1) (hRm : d + 1 ≤ R.frames ∧ 80 * (d + 1) ≤ R.locals ∧ w1.length - w0.length ≤ R.cells ∧ sk_sz w1 - sk_sz w0 ≤ R.slots) (hd : decode cc pc = .ok (.invokevirtual idx, 3)) (hlk : Jvm.Cond.methodLink own idx y ∈ sk_B ∧ Jvm.Cond.instanceMethod y ∈ sk_B ∧ Jvm.Cond.selects y.cls y y ∈ sk_B) (hci : sk_cls ci ∧ (sk_q ci).1 = y.cls) (hpop : sk_pops (n + 1) [] st = some (as, rest)) (hrc : sk_rcv w ci as = true) (kk : sk_Good p l e R s m args below meth c Q D cA b X H0 w0 nL (pc + 3) ls (r.toList ++ rest) w1) : sk_Good p l e R s m args below meth c Q D cA b X H0 w0 nL pc ls st w := by
  obtain ⟨⟨hx, hb, hml, hown, hts⟩, hT0, hsz, hnm⟩ := hC
  intro H locs lsA hR hL h1 h2 h3 h4 T hT X'
  have hup := X'.heapSize
  rw [hT] at hup
  have hsize : H.size + 1 = H0.size + w.length := by
    obtain ⟨t, rfl, hP, hlo, -⟩ := id hR
    have := sk_low hP hlo
    have hlt : (.inl X :: t : sk_W).length = t.length + 1 := rfl
    omega
  have hpre : ∀ U : State, U.heap = H → s.WarmedH U.vm → sk_Pc nest Sx D cA b X H0 as w (as.map (sk_tr b H0.size)).toArray U := fun U hU hW => ⟨rfl, by rw [hU]; exact hR, by rw [hU]; exact hsize, sk_Tb.warm hn hsx hW hT0⟩
  obtain ⟨⟨us, hu1, hu2, hu3, hu4⟩, hcat⟩ := sk_pops_spec _ _ _ _ _ hpop
  have hus : us = as.reverse := by rw [hu2]; simp
  subst hus
  subst hu3
  rcases as with _ | ⟨v0, As⟩
  · cases hrc
  cases v0 <;> try cases hrc
  rename_i a0
  obtain ⟨fs, hfs⟩ := sk_isO_spec (show sk_isO w a0 ci = true from hrc)
  have hrecv : ∃ cell : Cell, H[sk_am b H0.size a0]? = some cell ∧ cell.vm.isStatics = false ∧ s.vm.findClass y.cls = some cell.cls := by
    rcases hR.get hfs with ⟨-, h⟩ | ⟨a', t, rfl, rfl, ht, hP⟩
    · cases h
    have := va_recv hT0.1 hP hci.1.1 (sk_lay_at ht)
    rw [hci.2] at this
    exact this
  refine sk_called hL hg h1 h2 h3 h4 (va_runV (As := As.map (sk_tr b H0.size)) (b := sk_am b H0.size a0) (rest := rest.map (sk_tr b H0.size)) ⟨hx, hb, hml, hown, hts⟩ hM (cwV (C := y.cls) n hts ?_ rfl rfl rfl ⟨rfl, hy.2.2.1⟩ ⟨hRm.1, ?_⟩) ⟨sk_Pc_blind hn hsx, hrecv, hpre⟩ rfl ?_ h4.1 ?_ (lv_room (sk_cats hcat)) hd ⟨?_, ?_⟩) kk T hT X'
  · intro w hw
    rcases List.mem_append.mp hw with hw | hw
    · have hm : w ∈ sk_B := by
        simp only [List.mem_cons, List.not_mem_nil, or_false] at hw
        rcases hw with rfl | rfl | rfl | rfl
        · exact hlk.1
        · exact hlk.2.1
        · exact hlk.2.2
        · exact hy.2.1
      exact ⟨hm, sk_B_good hm⟩
    · exact sk_words hy w hw
  · have := hRm.2.1; have := hy.2.2.2; show 8 + (maxL + 11) + 80 * d ≤ R.locals; omega
  · rw [List.length_map]; simp at hu1; omega
  · simp [sk_tr]
  · have := hRm.2.2.1; omega
  · have := hRm.2.2.2; omega
theorem sk_s_callS {p : Program} {l : Launch} {e : Env} {R : Room} {s : State} {m : MethodId} {args : Array Value} {below : List Frame} {meth : Method} {c : Code} {Q : State → Prop} {nest : List Jvm.Cond} {Sx : State → Prop} {D : va_G} {cA : Nat → ClassId} {b : Nat} {X : Nat × (Nat → Int32)} {H0 : Heap} {w0 : sk_W} {own nm : String} {cc : ByteArray} {nL : Nat} (hC : sk_Cx nest Sx D cA b X H0 w0 own nm cc nL p s m args meth c) {pc : Nat} {ls : sk_L} {st : List Value} {w : sk_W} (hn : sk_nestOK nest) (hsx : sk_SxOK Sx) {y : MethodName} {bytes : ByteArray} {maxL n idx ci d : Nat} {ret : Option FieldType} (hy : sk_callee y bytes maxL ret n) {as rest : List Value} {r : Option Value} {w1 : sk_W} (hM : sk_Met l nest Sx D cA b X H0 y bytes maxL ret d as w r w1) (hg : w.length ≤ w1.length ∧ sk_sz w ≤ sk_sz w1) (hRm : d + 1 ≤ R.frames ∧ 80 * (d + 1) ≤ R.locals ∧ w1.length - w0.length ≤ R.cells ∧ sk_sz w1 - sk_sz w0 ≤ R.slots) (hd : decode cc pc = .ok (.invokestatic idx, 3)) (hlk : Jvm.Cond.methodLink own idx y ∈ sk_B ∧ Jvm.Cond.static y ∈ sk_B) (hpop : sk_pops n [] st = some (as, rest)) (kk : sk_Good p l e R s m args below meth c Q D cA b X H0 w0 nL (pc + 3) ls (r.toList ++ rest) w1) : sk_Good p l e R s m args below meth c Q D cA b X H0 w0 nL pc ls st w := by
  obtain ⟨⟨hx, hb, hml, hown, hts⟩, hT0, hsz, hnm⟩ := hC
  intro H locs lsA hR hL h1 h2 h3 h4 T hT X'
  have hup := X'.heapSize
  rw [hT] at hup
  have hsize : H.size + 1 = H0.size + w.length := by
    obtain ⟨t, rfl, hP, hlo, -⟩ := id hR
    have := sk_low hP hlo
    have hlt : (.inl X :: t : sk_W).length = t.length + 1 := rfl
    omega
  have hpre : ∀ U : State, U.heap = H → s.WarmedH U.vm → sk_Pc nest Sx D cA b X H0 as w (as.map (sk_tr b H0.size)).toArray U := fun U hU hW => ⟨rfl, by rw [hU]; exact hR, by rw [hU]; exact hsize, sk_Tb.warm hn hsx hW hT0⟩
  obtain ⟨⟨us, hu1, hu2, hu3, hu4⟩, hcat⟩ := sk_pops_spec _ _ _ _ _ hpop
  have hus : us = as.reverse := by rw [hu2]; simp
  subst hus
  subst hu3
  refine sk_called hL hg h1 h2 h3 h4 (va_runS (As := as.map (sk_tr b H0.size)) (rest := rest.map (sk_tr b H0.size)) ⟨hx, hb, hml, hown, hts⟩ hM (va_cwS n hts ?_ rfl rfl rfl hy.2.2.1 ⟨hRm.1, ?_⟩) ⟨sk_Pc_blind hn hsx, hpre⟩ rfl ?_ h4.1 ?_ (lv_room (sk_cats hcat)) hd ⟨?_, ?_⟩) kk T hT X'
  · intro w hw
    rcases List.mem_append.mp hw with hw | hw
    · have hm : w ∈ sk_B := by
        simp only [List.mem_cons, List.not_mem_nil, or_false] at hw
        rcases hw with rfl | rfl | rfl
        · exact hlk.1
        · exact hlk.2
        · exact hy.2.1
      exact ⟨hm, sk_B_good hm⟩
    · exact sk_words hy w hw
  · have := hRm.2.1; have := hy.2.2.2; show 8 + (maxL + 11) + 80 * d ≤ R.locals; omega
  · rw [List.length_map]; simp at hu1; omega
  · simp
  · have := hRm.2.2.1; omega
  · have := hRm.2.2.2; omega
theorem sk_s_callSN {p : Program} {l : Launch} {e : Env} {R : Room} {s : State} {m : MethodId} {args : Array Value} {below : List Frame} {meth : Method} {c : Code} {Q : State → Prop} {nest : List Jvm.Cond} {Sx : State → Prop} {D : va_G} {cA : Nat → ClassId} {b : Nat} {X : Nat × (Nat → Int32)} {H0 : Heap} {w0 : sk_W} {own nm : String} {cc : ByteArray} {nL : Nat} (hC : sk_Cx nest Sx D cA b X H0 w0 own nm cc nL p s m args meth c) {pc : Nat} {ls : sk_L} {st : List Value} {w : sk_W} (hn : sk_nestOK nest) (hsx : sk_SxOK Sx) {y : MethodName} {bytes : ByteArray} {maxL n idx ci d : Nat} {ret : Option FieldType} (hy : sk_callee y bytes maxL ret n) {as rest : List Value} {r : Option Value} {w1 : sk_W} (hM : sk_Met l nest Sx D cA b X H0 y bytes maxL ret d as w r w1) (hg : w.length ≤ w1.length ∧ sk_sz w ≤ sk_sz w1) (hRm : d + 1 ≤ R.frames ∧ 80 * (d + 1) ≤ R.locals ∧ w1.length - w0.length ≤ R.cells ∧ sk_sz w1 - sk_sz w0 ≤ R.slots) {host : String} (hd : decode cc pc = .ok (.invokestatic idx, 3)) (hlk : Jvm.Cond.methodLinkNest own idx y host ∈ nest ∧ Jvm.Cond.static y ∈ sk_B) (hpop : sk_pops n [] st = some (as, rest)) (kk : sk_Good p l e R s m args below meth c Q D cA b X H0 w0 nL (pc + 3) ls (r.toList ++ rest) w1) : sk_Good p l e R s m args below meth c Q D cA b X H0 w0 nL pc ls st w := by
  obtain ⟨⟨hx, hb, hml, hown, hts⟩, hT0, hsz, hnm⟩ := hC
  intro H locs lsA hR hL h1 h2 h3 h4 T hT X'
  have hup := X'.heapSize
  rw [hT] at hup
  have hsize : H.size + 1 = H0.size + w.length := by
    obtain ⟨t, rfl, hP, hlo, -⟩ := id hR
    have := sk_low hP hlo
    have hlt : (.inl X :: t : sk_W).length = t.length + 1 := rfl
    omega
  have hpre : ∀ U : State, U.heap = H → s.WarmedH U.vm → sk_Pc nest Sx D cA b X H0 as w (as.map (sk_tr b H0.size)).toArray U := fun U hU hW => ⟨rfl, by rw [hU]; exact hR, by rw [hU]; exact hsize, sk_Tb.warm hn hsx hW hT0⟩
  obtain ⟨⟨us, hu1, hu2, hu3, hu4⟩, hcat⟩ := sk_pops_spec _ _ _ _ _ hpop
  have hus : us = as.reverse := by rw [hu2]; simp
  subst hus
  subst hu3
  refine sk_called hL hg h1 h2 h3 h4 (va_runSN (As := as.map (sk_tr b H0.size)) (rest := rest.map (sk_tr b H0.size)) ⟨hx, hb, hml, hown, hts⟩ hM ⟨va_cnB n hts (sk_words hy) rfl rfl rfl (hT0.2.1 _ hlk.1) (hts _ hy.2.1) hy.2.2.1 ⟨hRm.1, ?_⟩, hts _ hlk.2, trivial⟩ ⟨sk_Pc_blind hn hsx, hpre⟩ rfl ?_ h4.1 ?_ (lv_room (sk_cats hcat)) hd ⟨?_, ?_⟩) kk T hT X'
  · have := hRm.2.1; have := hy.2.2.2; show 8 + (maxL + 11) + 80 * d ≤ R.locals; omega
  · rw [List.length_map]; simp at hu1; omega
  · simp
  · have := hRm.2.2.1; omega
  · have := hRm.2.2.2; omega
theorem sk_s_callI {p : Program} {l : Launch} {e : Env} {R : Room} {s : State} {m : MethodId} {args : Array Value} {below : List Frame} {meth : Method} {c : Code} {Q : State → Prop} {nest : List Jvm.Cond} {Sx : State → Prop} {D : va_G} {cA : Nat → ClassId} {b : Nat} {X : Nat × (Nat → Int32)} {H0 : Heap} {w0 : sk_W} {own nm : String} {cc : ByteArray} {nL : Nat} (hC : sk_Cx nest Sx D cA b X H0 w0 own nm cc nL p s m args meth c) {pc : Nat} {ls : sk_L} {st : List Value} {w : sk_W} (hn : sk_nestOK nest) (hsx : sk_SxOK Sx) {y : MethodName} {bytes : ByteArray} {maxL n idx ci d : Nat} (hy : sk_callee y bytes maxL none n) {as rest : List Value} {r : Option Value} {w1 : sk_W} (hM : sk_Met l nest Sx D cA b X H0 y bytes maxL none d as w r w1) (hg : w.length ≤ w1.length ∧ sk_sz w ≤ sk_sz w1) (hRm : d + 1 ≤ R.frames ∧ 80 * (d + 1) ≤ R.locals ∧ w1.length - w0.length ≤ R.cells ∧ sk_sz w1 - sk_sz w0 ≤ R.slots) (hd : decode cc pc = .ok (.invokespecial idx, 3)) (hlk : Jvm.Cond.methodLink own idx y ∈ sk_B ∧ Jvm.Cond.instanceMethod y ∈ sk_B ∧ y.name = "<init>") (hpop : sk_pops (n + 1) [] st = some (as, rest)) (hrc : sk_rcv w ci as = true) (kk : sk_Good p l e R s m args below meth c Q D cA b X H0 w0 nL (pc + 3) ls (r.toList ++ rest) w1) : sk_Good p l e R s m args below meth c Q D cA b X H0 w0 nL pc ls st w := by
  obtain ⟨⟨hx, hb, hml, hown, hts⟩, hT0, hsz, hnm⟩ := hC
  intro H locs lsA hR hL h1 h2 h3 h4 T hT X'
  have hup := X'.heapSize
  rw [hT] at hup
  have hsize : H.size + 1 = H0.size + w.length := by
    obtain ⟨t, rfl, hP, hlo, -⟩ := id hR
    have := sk_low hP hlo
    have hlt : (.inl X :: t : sk_W).length = t.length + 1 := rfl
    omega
  have hpre : ∀ U : State, U.heap = H → s.WarmedH U.vm → sk_Pc nest Sx D cA b X H0 as w (as.map (sk_tr b H0.size)).toArray U := fun U hU hW => ⟨rfl, by rw [hU]; exact hR, by rw [hU]; exact hsize, sk_Tb.warm hn hsx hW hT0⟩
  obtain ⟨⟨us, hu1, hu2, hu3, hu4⟩, hcat⟩ := sk_pops_spec _ _ _ _ _ hpop
  have hus : us = as.reverse := by rw [hu2]; simp
  subst hus
  subst hu3
  rcases as with _ | ⟨v0, As⟩
  · cases hrc
  cases v0 <;> try cases hrc
  rename_i a0
  refine sk_called hL hg h1 h2 h3 h4 (va_runI (As := As.map (sk_tr b H0.size)) (b := sk_am b H0.size a0) (rest := rest.map (sk_tr b H0.size)) ⟨hx, hb, hml, hown, hts⟩ hM (cwI n hts (sk_words hy) rfl rfl rfl (hts _ hy.2.1) (hts _ hlk.1) (hts _ hlk.2.1) hlk.2.2 hy.2.2.1 ⟨hRm.1, ?_⟩) ⟨sk_Pc_blind hn hsx, hpre⟩ rfl ?_ h4.1 ?_ (lv_room (sk_cats hcat)) hd ⟨?_, ?_⟩) kk T hT X'
  · have := hRm.2.1; have := hy.2.2.2; show 8 + (maxL + 11) + 80 * d ≤ R.locals; omega
  · rw [List.length_map]; simp at hu1; omega
  · simp [sk_tr]
  · have := hRm.2.2.1; omega
  · have := hRm.2.2.2; omega
theorem sk_s_callIN {p : Program} {l : Launch} {e : Env} {R : Room} {s : State} {m : MethodId} {args : Array Value} {below : List Frame} {meth : Method} {c : Code} {Q : State → Prop} {nest : List Jvm.Cond} {Sx : State → Prop} {D : va_G} {cA : Nat → ClassId} {b : Nat} {X : Nat × (Nat → Int32)} {H0 : Heap} {w0 : sk_W} {own nm : String} {cc : ByteArray} {nL : Nat} (hC : sk_Cx nest Sx D cA b X H0 w0 own nm cc nL p s m args meth c) {pc : Nat} {ls : sk_L} {st : List Value} {w : sk_W} (hn : sk_nestOK nest) (hsx : sk_SxOK Sx) {y : MethodName} {bytes : ByteArray} {maxL n idx ci d : Nat} (hy : sk_callee y bytes maxL none n) {as rest : List Value} {r : Option Value} {w1 : sk_W} (hM : sk_Met l nest Sx D cA b X H0 y bytes maxL none d as w r w1) (hg : w.length ≤ w1.length ∧ sk_sz w ≤ sk_sz w1) (hRm : d + 1 ≤ R.frames ∧ 80 * (d + 1) ≤ R.locals ∧ w1.length - w0.length ≤ R.cells ∧ sk_sz w1 - sk_sz w0 ≤ R.slots) {host : String} (hd : decode cc pc = .ok (.invokespecial idx, 3)) (hlk : Jvm.Cond.methodLinkNest own idx y host ∈ nest ∧ Jvm.Cond.instanceMethod y ∈ sk_B ∧ y.name = "<init>") (hpop : sk_pops (n + 1) [] st = some (as, rest)) (hrc : sk_rcv w ci as = true) (kk : sk_Good p l e R s m args below meth c Q D cA b X H0 w0 nL (pc + 3) ls (r.toList ++ rest) w1) : sk_Good p l e R s m args below meth c Q D cA b X H0 w0 nL pc ls st w := by
  obtain ⟨⟨hx, hb, hml, hown, hts⟩, hT0, hsz, hnm⟩ := hC
  intro H locs lsA hR hL h1 h2 h3 h4 T hT X'
  have hup := X'.heapSize
  rw [hT] at hup
  have hsize : H.size + 1 = H0.size + w.length := by
    obtain ⟨t, rfl, hP, hlo, -⟩ := id hR
    have := sk_low hP hlo
    have hlt : (.inl X :: t : sk_W).length = t.length + 1 := rfl
    omega
  have hpre : ∀ U : State, U.heap = H → s.WarmedH U.vm → sk_Pc nest Sx D cA b X H0 as w (as.map (sk_tr b H0.size)).toArray U := fun U hU hW => ⟨rfl, by rw [hU]; exact hR, by rw [hU]; exact hsize, sk_Tb.warm hn hsx hW hT0⟩
  obtain ⟨⟨us, hu1, hu2, hu3, hu4⟩, hcat⟩ := sk_pops_spec _ _ _ _ _ hpop
  have hus : us = as.reverse := by rw [hu2]; simp
  subst hus
  subst hu3
  rcases as with _ | ⟨v0, As⟩
  · cases hrc
  cases v0 <;> try cases hrc
  rename_i a0
  refine sk_called hL hg h1 h2 h3 h4 (va_runIN (As := As.map (sk_tr b H0.size)) (b := sk_am b H0.size a0) (rest := rest.map (sk_tr b H0.size)) ⟨hx, hb, hml, hown, hts⟩ hM ⟨va_cnB n hts (sk_words hy) rfl rfl rfl (hT0.2.1 _ hlk.1) (hts _ hy.2.1) hy.2.2.1 ⟨hRm.1, ?_⟩, hlk.2.2, hts _ hlk.2.1⟩ ⟨sk_Pc_blind hn hsx, hpre⟩ rfl ?_ h4.1 ?_ (lv_room (sk_cats hcat)) hd ⟨?_, ?_⟩) kk T hT X'
  · have := hRm.2.1; have := hy.2.2.2; show 8 + (maxL + 11) + 80 * d ≤ R.locals; omega
  · rw [List.length_map]; simp at hu1; omega
  · simp [sk_tr]
  · have := hRm.2.2.1; omega
  · have := hRm.2.2.2; omega
