/-! ===== an abstract instruction is a real one ===== -/
def sk_q (ci : Nat) : vw_C := (vwCl[ci]?).getD ("", fun _ => ("", "", "", false), 0)
def sk_ty (ci : Nat) : Nat → FieldType := match ci with
  | 0 => tyX1
  | 1 => tyX2
  | 2 => tyX3
  | 3 => tyX4
  | 4 => tyX5
  | 5 => tyX6
  | 6 => tyX7
  | 7 => tyX8
  | 8 => tyX9
  | 9 => tyX10
  | 10 => tyX11
  | _ => tyX12
def sk_fields (ci : Nat) : List Value := (List.range (sk_q ci).2.2).map fun k => defaultValue (sk_ty ci k)
/-- what the tables say of the kinds of objects -/
def sk_cls (ci : Nat) : Prop := vwCl[ci]? = some (sk_q ci) ∧ (∀ w ∈ u_ws (sk_q ci).1 (sk_q ci).2.1 (sk_q ci).2.2, w ∈ sk_B) ∧ (∀ k, k < (sk_q ci).2.2 → parseFieldDescriptor ((sk_q ci).2.1 k).2.2.1 = some (sk_ty ci k)) ∧ (∀ x, x < (sk_q ci).2.2 → ∀ y, y < (sk_q ci).2.2 → x ≠ y → ((sk_q ci).2.1 x).2.1 ≠ ((sk_q ci).2.1 y).2.1) ∧ Jvm.Cond.instantiable (sk_q ci).1 (sk_q ci).2.2 ∈ sk_B ∧ Jvm.Cond.initialized (sk_q ci).1 ∈ sk_B
theorem sk_fields_at (ci j : Nat) (h : j < (sk_q ci).2.2) : defaultValue (sk_ty ci j) = vp_V (sk_fields ci) j := by
  unfold vp_V sk_fields
  rw [List.getD_eq_getElem?_getD, List.getElem?_map, List.getElem?_range h]
  rfl
theorem sk_fields_len (ci : Nat) : (sk_fields ci).length = (sk_q ci).2.2 := by simp [sk_fields]
/-- place idx of own's pool is field k of the kind ci -/
def sk_fieldOK (own : String) (idx ci k : Nat) : Prop := sk_cls ci ∧ k < (sk_q ci).2.2 ∧ Jvm.Cond.fieldLink own idx ((sk_q ci).2.1 k).1 ((sk_q ci).2.1 k).2.1 ((sk_q ci).2.1 k).2.2.1 ∈ sk_B
def sk_refTy : FieldType → Bool
  | .object _ => true
  | .array _ => true
  | _ => false
def sk_putOK (own nm : String) (idx ci k z : Nat) : Prop := sk_fieldOK own idx ci k ∧ (z = 0 → ((sk_q ci).2.1 k).2.2.2 = false ∧ sk_ty ci k = .int) ∧ (z = 2 → ((sk_q ci).2.1 k).2.2.2 = false ∧ sk_ty ci k = .boolean) ∧ (z = 3 → ((sk_q ci).2.1 k).2.2.2 = true ∧ nm = "<init>" ∧ ((sk_q ci).2.1 k).1 = own ∧ sk_refTy (sk_ty ci k) = true)
theorem sk_ref_nar {ty : FieldType} (h : sk_refTy ty = true) (q : Nat) : narrow ty (.ref q) = .ref q ∧ fits ty (.ref q) = true := by
  cases ty <;> first | exact ⟨rfl, rfl⟩ | cases h
def sk_Good (p : Program) (l : Launch) (e : Env) (R : Room) (s : State) (m : MethodId) (args : Array Value) (below : List Frame) (meth : Method) (c : Code) (Q : State → Prop) (D : va_G) (cA : Nat → ClassId) (b : Nat) (X : Nat × (Nat → Int32)) (H0 : Heap) (w0 : sk_W) (nL pc : Nat) (ls : sk_L) (st : List Value) (w : sk_W) : Prop :=
  ∀ (H : Heap) (locs : List Loc) (lsA : Array Slot), sk_Rel D cA b X H0 w H → (∀ q ∈ locs, H0.size ≤ q.base) → w0.length ≤ w.length → sk_sz w0 ≤ sk_sz w → sk_lok nL ls → lv_has lsA nL (sk_lv b H0.size 0 ls) →
    W p l e R s m args below meth c H locs (w.length - w0.length) (sk_sz w - sk_sz w0) Q (F0 m pc lsA (st.map (sk_tr b H0.size)))
theorem sk_Rel.get {D : va_G} {cA : Nat → ClassId} {b : Nat} {X : Nat × (Nat → Int32)} {H0 H : Heap} {w : sk_W} (h : sk_Rel D cA b X H0 w H) {a : Nat} {c : sk_C} (ha : w[a]? = some c) : (a = 0 ∧ c = .inl X) ∨ ∃ (a' : Nat) (t : sk_W), a = a' + 1 ∧ w = .inl X :: t ∧ t[a']? = some c ∧ va_P D vwCl (sk_lay b H0.size cA t) H := by
  obtain ⟨t, rfl, hP, -⟩ := h
  cases a with
  | zero => simp at ha; exact Or.inl ⟨rfl, ha.symm⟩
  | succ a => exact Or.inr ⟨a, t, rfl, rfl, by simpa using ha, hP⟩
theorem sk_Rel.S {D : va_G} {cA : Nat → ClassId} {b : Nat} {X : Nat × (Nat → Int32)} {H0 H : Heap} {w : sk_W} {locs : List Loc} (h : sk_Rel D cA b X H0 w H) (hL : ∀ q ∈ locs, H0.size ≤ q.base) : va_S (fun q : Nat => H0.size ≤ q) H0 H locs := by
  obtain ⟨t, -, -, h1, h2⟩ := h
  exact ⟨h1, fun q hq _ => h2 q hq, hL⟩
theorem sk_Rel.of {D : va_G} {cA : Nat → ClassId} {b : Nat} {X : Nat × (Nat → Int32)} {H0 H : Heap} {t : sk_W} {locs : List Loc} (hP : va_P D vwCl (sk_lay b H0.size cA t) H) (hS : va_S (fun q : Nat => H0.size ≤ q) H0 H locs) : sk_Rel D cA b X H0 (.inl X :: t) H :=
  ⟨t, rfl, hP, hS.1, fun q hq => hS.2.1 q hq (Nat.not_le.mpr hq)⟩
theorem sk_geti_spec {w : sk_W} {a ci k : Nat} {v : Int32} (h : sk_geti w a ci k = some v) : ∃ fs, w[a]? = some (.inr (.inr (ci, fs))) ∧ fs[k]? = some (.int v) := by
  unfold sk_geti at h
  split at h
  · next c fs hw =>
    split at h
    · next hc =>
      subst hc
      split at h
      · next v' hf => cases h; exact ⟨fs, hw, hf⟩
      · cases h
    · cases h
  · cases h
theorem sk_getr_spec {w : sk_W} {a ci k : Nat} {v : Nat} (h : sk_getr w a ci k = some v) : ∃ fs, w[a]? = some (.inr (.inr (ci, fs))) ∧ fs[k]? = some (.ref v) := by
  unfold sk_getr at h
  split at h
  · next c fs hw =>
    split at h
    · next hc =>
      subst hc
      split at h
      · next v' hf => cases h; exact ⟨fs, hw, hf⟩
      · cases h
    · cases h
  · cases h
theorem sk_put_spec {w w1 : sk_W} {a ci k : Nat} {v : Value} (h : sk_put w a ci k v = some w1) : ∃ fs, w[a]? = some (.inr (.inr (ci, fs))) ∧ k < fs.length ∧ w1 = w.set a (.inr (.inr (ci, fs.set k v))) := by
  unfold sk_put at h
  split at h
  · next c fs hw =>
    split at h
    · next hc => cases h; obtain ⟨rfl, hk⟩ := hc; exact ⟨fs, hw, hk, rfl⟩
    · cases h
  · cases h
theorem sk_ald_spec {w : sk_W} {a : Nat} {i v : Int32} (h : sk_ald w a i = some v) : ∃ n f, w[a]? = some (.inl (n, f)) ∧ vp_in i n ∧ v = f i.toNatClampNeg := by
  unfold sk_ald at h
  split at h
  · next n f hw =>
    split at h
    · cases h
    · next hc => cases h; exact ⟨n, f, hw, hc, rfl⟩
  · cases h
theorem sk_ast_spec {w w1 : sk_W} {a : Nat} {i v : Int32} (h : sk_ast w a i v = some w1) : ∃ a' n f, a = a' + 1 ∧ w[a' + 1]? = some (.inl (n, f)) ∧ vp_in i n ∧ w1 = w.set (a' + 1) (.inl (n, upd f i.toNatClampNeg v)) := by
  unfold sk_ast at h
  split at h
  · cases h
  · next a' =>
    split at h
    · next n f hw =>
      split at h
      · cases h
      · next hc => cases h; exact ⟨a', n, f, rfl, hw, hc, rfl⟩
    · cases h
theorem sk_aldr_spec {w : sk_W} {a : Nat} {i : Int32} {v : Nat} (h : sk_aldr w a i = some v) : ∃ t n f, w[a]? = some (.inr (.inl (t, n, f))) ∧ t < 4 ∧ vp_in i n ∧ f i.toNatClampNeg = some v := by
  unfold sk_aldr at h
  split at h
  · next t n f hw =>
    split at h
    · next h4 =>
      split at h
      · cases h
      · next hc => exact ⟨t, n, f, hw, h4, hc, h⟩
    · cases h
  · cases h
theorem sk_len_spec {w : sk_W} {a : Nat} {v : Int32} (h : sk_len w a = some v) : ∃ n f, w[a]? = some (.inl (n, f)) ∧ v = Int32.ofNat n := by
  unfold sk_len at h
  split at h
  · next n f hw => cases h; exact ⟨n, f, hw, rfl⟩
  · cases h
theorem sk_isO_spec {w : sk_W} {a ci : Nat} (h : sk_isO w a ci = true) : ∃ fs, w[a]? = some (.inr (.inr (ci, fs))) := by
  unfold sk_isO at h
  split at h
  · next c fs hw => rw [beq_iff_eq] at h; subst h; exact ⟨fs, hw⟩
  · cases h
theorem sk_astr_spec {w w1 : sk_W} {a t ci : Nat} {i : Int32} {v : Nat} (h : sk_astr w a t ci i v = some w1) : ∃ n f fs, w[a]? = some (.inr (.inl (t, n, f))) ∧ w[v]? = some (.inr (.inr (ci, fs))) ∧ vp_in i n ∧ w1 = w.set a (.inr (.inl (t, n, va_up f i.toNatClampNeg (some v)))) := by
  unfold sk_astr at h
  split at h
  · next t' n f hw =>
    split at h
    · next hc =>
      obtain ⟨rfl, hc⟩ := hc
      obtain ⟨fs, hv⟩ := sk_isO_spec hc
      split at h
      · cases h
      · next hi => cases h; exact ⟨n, f, fs, hw, hv, hi, rfl⟩
    · cases h
  · cases h
theorem sk_copy_spec {w w1 : sk_W} {a0 a : Nat} {sp dp n : Int32} (h : sk_copy w a0 sp a dp n = some w1) : ∃ b0 b1 n0 n1 f g, a0 = b0 + 1 ∧ a = b1 + 1 ∧ w[b0 + 1]? = some (.inl (n0, f)) ∧ w[b1 + 1]? = some (.inl (n1, g)) ∧ (¬ sp < 0 ∧ ¬ dp < 0 ∧ ¬ n < 0 ∧ sp.toNatClampNeg + n.toNatClampNeg ≤ n0 ∧ dp.toNatClampNeg + n.toNatClampNeg ≤ n1) ∧ w1 = w.set (b1 + 1) (.inl (n1, va_cpy f g sp.toNatClampNeg dp.toNatClampNeg n.toNatClampNeg)) := by
  unfold sk_copy at h
  split at h
  · cases h
  · next b1 =>
    split at h
    · cases h
    · next b0 =>
      split at h
      · next n0 f hw0 =>
        split at h
        · next n1 g hw1 =>
          split at h
          · next hc => cases h; exact ⟨b0, b1, n0, n1, f, g, rfl, rfl, hw0, hw1, hc, rfl⟩
          · cases h
        · cases h
      · cases h
def sk_Cx (nest : List Jvm.Cond) (Sx : State → Prop) (D : va_G) (cA : Nat → ClassId) (b : Nat) (X : Nat × (Nat → Int32)) (H0 : Heap) (w0 : sk_W) (own nm : String) (cc : ByteArray) (nL : Nat) (p : Program) (s : State) (m : MethodId) (args : Array Value) (meth : Method) (c : Code) : Prop :=
  CallFix p m c cc nL s args sk_B own ∧ sk_Tb nest Sx D cA b X H0 s ∧ s.heap.size + 1 = H0.size + w0.length ∧ meth.name = nm
theorem sk_s_geti {p : Program} {l : Launch} {e : Env} {R : Room} {s : State} {m : MethodId} {args : Array Value} {below : List Frame} {meth : Method} {c : Code} {Q : State → Prop} {nest : List Jvm.Cond} {Sx : State → Prop} {D : va_G} {cA : Nat → ClassId} {b : Nat} {X : Nat × (Nat → Int32)} {H0 : Heap} {w0 : sk_W} {own nm : String} {cc : ByteArray} {nL : Nat} (hC : sk_Cx nest Sx D cA b X H0 w0 own nm cc nL p s m args meth c) {pc : Nat} {ls : sk_L} {st : List Value} {w : sk_W} {idx ci k : Nat} {v : Int32} {a0 : Nat} (hd : decode cc pc = .ok (.getfield idx, 3)) (hf : sk_fieldOK own idx ci k) (hv : sk_geti w a0 ci k = some v) (kk : sk_Good p l e R s m args below meth c Q D cA b X H0 w0 nL (pc + 3) ls (.int v :: st) w) : sk_Good p l e R s m args below meth c Q D cA b X H0 w0 nL pc ls (.ref a0 :: st) w := by
  obtain ⟨⟨hx, hb, hml, hown, hts⟩, ⟨hK, hN, hAO, hX, hbl, hSx⟩, hsz, hnm⟩ := hC
  intro H locs lsA hR hL h1 h2 h3 h4
  obtain ⟨⟨hc, hin, hty, hnn, -, -⟩, hk, hl⟩ := hf
  obtain ⟨fs, hw, hfs⟩ := sk_geti_spec hv
  rcases hR.get hw with ⟨-, h⟩ | ⟨a', t, rfl, rfl, ht, hP⟩
  · cases h
  refine va_get hx hb (C := (sk_q ci).1) (T := (sk_q ci).2.1) (N := (sk_q ci).2.2) hts hin hown hK hP a' (sk_lay_at ht) hc k hk (hts _ hl) (fun x hx => hx) (v := .int v) (by rw [List.getElem?_map, hfs]; rfl) hd ?_
  exact kk H locs lsA hR hL h1 h2 h3 h4
theorem sk_s_getr {p : Program} {l : Launch} {e : Env} {R : Room} {s : State} {m : MethodId} {args : Array Value} {below : List Frame} {meth : Method} {c : Code} {Q : State → Prop} {nest : List Jvm.Cond} {Sx : State → Prop} {D : va_G} {cA : Nat → ClassId} {b : Nat} {X : Nat × (Nat → Int32)} {H0 : Heap} {w0 : sk_W} {own nm : String} {cc : ByteArray} {nL : Nat} (hC : sk_Cx nest Sx D cA b X H0 w0 own nm cc nL p s m args meth c) {pc : Nat} {ls : sk_L} {st : List Value} {w : sk_W} {idx ci k : Nat} {v : Nat} {a0 : Nat} (hd : decode cc pc = .ok (.getfield idx, 3)) (hf : sk_fieldOK own idx ci k) (hv : sk_getr w a0 ci k = some v) (kk : sk_Good p l e R s m args below meth c Q D cA b X H0 w0 nL (pc + 3) ls (.ref v :: st) w) : sk_Good p l e R s m args below meth c Q D cA b X H0 w0 nL pc ls (.ref a0 :: st) w := by
  obtain ⟨⟨hx, hb, hml, hown, hts⟩, ⟨hK, hN, hAO, hX, hbl, hSx⟩, hsz, hnm⟩ := hC
  intro H locs lsA hR hL h1 h2 h3 h4
  obtain ⟨⟨hc, hin, hty, hnn, -, -⟩, hk, hl⟩ := hf
  obtain ⟨fs, hw, hfs⟩ := sk_getr_spec hv
  rcases hR.get hw with ⟨-, h⟩ | ⟨a', t, rfl, rfl, ht, hP⟩
  · cases h
  refine va_get hx hb (C := (sk_q ci).1) (T := (sk_q ci).2.1) (N := (sk_q ci).2.2) hts hin hown hK hP a' (sk_lay_at ht) hc k hk (hts _ hl) (fun x hx => hx) (v := sk_tr b H0.size (.ref v)) (by rw [List.getElem?_map, hfs]; rfl) hd ?_
  exact kk H locs lsA hR hL h1 h2 h3 h4
theorem sk_s_put0 {p : Program} {l : Launch} {e : Env} {R : Room} {s : State} {m : MethodId} {args : Array Value} {below : List Frame} {meth : Method} {c : Code} {Q : State → Prop} {nest : List Jvm.Cond} {Sx : State → Prop} {D : va_G} {cA : Nat → ClassId} {b : Nat} {X : Nat × (Nat → Int32)} {H0 : Heap} {w0 : sk_W} {own nm : String} {cc : ByteArray} {nL : Nat} (hC : sk_Cx nest Sx D cA b X H0 w0 own nm cc nL p s m args meth c) {pc : Nat} {ls : sk_L} {st : List Value} {w : sk_W} {idx ci k : Nat} {v : Int32} {a0 : Nat} {w1 : sk_W} (hd : decode cc pc = .ok (.putfield idx, 3)) (hf : sk_putOK own nm idx ci k 0) (hv : sk_put w a0 ci k (.int v) = some w1) (kk : sk_Good p l e R s m args below meth c Q D cA b X H0 w0 nL (pc + 3) ls st w1) : sk_Good p l e R s m args below meth c Q D cA b X H0 w0 nL pc ls (.int v :: .ref a0 :: st) w := by
  obtain ⟨⟨hx, hb, hml, hown, hts⟩, ⟨hK, hN, hAO, hX, hbl, hSx⟩, hsz, hnm⟩ := hC
  intro H locs lsA hR hL h1 h2 h3 h4
  obtain ⟨⟨⟨hc, hin, hty, hnn, -, -⟩, hk, hl⟩, z0, z2, z3⟩ := hf
  obtain ⟨fs, hw, hlt, rfl⟩ := sk_put_spec hv
  rcases hR.get hw with ⟨-, h⟩ | ⟨a', t, rfl, rfl, ht, hP⟩
  · cases h
  have z := z0 rfl
  refine va_put hx hb (C := (sk_q ci).1) (T := (sk_q ci).2.1) (N := (sk_q ci).2.2) hts hin (sk_ty ci) hty hnn hown hK hP sk_lay_D (hR.S hL) a' (sk_lay_at ht) hc k hk (hts _ hl) (fun x hx => hx) z.1 (hty k hk) (by rw [z.2]; rfl) (by rw [z.2]; rfl) (by rw [List.length_map]; exact hlt) hd (fun H1 locs1 hP1 hD1 hS1 => ?_)
  have e1 : (sk_lay b H0.size cA t).set a' (H0.size + a', .inr (ci, (fs.map (sk_tr b H0.size)).set k (sk_tr b H0.size (.int v)))) = sk_lay b H0.size cA (t.set a' (.inr (.inr (ci, fs.set k (.int v))))) := by
    rw [← sk_lay_set]
    show _ = (sk_lay b H0.size cA t).set a' (H0.size + a', .inr (ci, (fs.set k (.int v)).map (sk_tr b H0.size)))
    rw [List.map_set]
  have hP2 : va_P D vwCl (sk_lay b H0.size cA (t.set a' (.inr (.inr (ci, fs.set k (.int v)))))) H1 := by rw [← e1]; exact hP1
  have e2 : (.inl X :: t : sk_W).set (a' + 1) (.inr (.inr (ci, fs.set k (.int v)))) = .inl X :: t.set a' (.inr (.inr (ci, fs.set k (.int v)))) := rfl
  rw [e2] at kk
  have e3 : (.inl X :: t.set a' (.inr (.inr (ci, fs.set k (.int v)))) : sk_W).length = (.inl X :: t : sk_W).length := by simp
  have e4 : sk_sz (.inl X :: t.set a' (.inr (.inr (ci, fs.set k (.int v))))) = sk_sz (.inl X :: t) := by
    rw [← e2]
    exact sk_sz_set hw (by simp [sk_csz])
  have kk1 := kk H1 locs1 lsA (sk_Rel.of hP2 hS1) hS1.2.2 (by rw [e3]; exact h1) (by rw [e4]; exact h2) h3 h4
  rw [e3, e4] at kk1
  exact kk1
theorem sk_s_put2 {p : Program} {l : Launch} {e : Env} {R : Room} {s : State} {m : MethodId} {args : Array Value} {below : List Frame} {meth : Method} {c : Code} {Q : State → Prop} {nest : List Jvm.Cond} {Sx : State → Prop} {D : va_G} {cA : Nat → ClassId} {b : Nat} {X : Nat × (Nat → Int32)} {H0 : Heap} {w0 : sk_W} {own nm : String} {cc : ByteArray} {nL : Nat} (hC : sk_Cx nest Sx D cA b X H0 w0 own nm cc nL p s m args meth c) {pc : Nat} {ls : sk_L} {st : List Value} {w : sk_W} {idx ci k : Nat} {v : Int32} {a0 : Nat} {w1 : sk_W} (hd : decode cc pc = .ok (.putfield idx, 3)) (hf : sk_putOK own nm idx ci k 2) (h01 : v = 0 ∨ v = 1) (hv : sk_put w a0 ci k (.int v) = some w1) (kk : sk_Good p l e R s m args below meth c Q D cA b X H0 w0 nL (pc + 3) ls st w1) : sk_Good p l e R s m args below meth c Q D cA b X H0 w0 nL pc ls (.int v :: .ref a0 :: st) w := by
  obtain ⟨⟨hx, hb, hml, hown, hts⟩, ⟨hK, hN, hAO, hX, hbl, hSx⟩, hsz, hnm⟩ := hC
  intro H locs lsA hR hL h1 h2 h3 h4
  obtain ⟨⟨⟨hc, hin, hty, hnn, -, -⟩, hk, hl⟩, z0, z2, z3⟩ := hf
  obtain ⟨fs, hw, hlt, rfl⟩ := sk_put_spec hv
  rcases hR.get hw with ⟨-, h⟩ | ⟨a', t, rfl, rfl, ht, hP⟩
  · cases h
  have z := z2 rfl
  refine va_put hx hb (C := (sk_q ci).1) (T := (sk_q ci).2.1) (N := (sk_q ci).2.2) hts hin (sk_ty ci) hty hnn hown hK hP sk_lay_D (hR.S hL) a' (sk_lay_at ht) hc k hk (hts _ hl) (fun x hx => hx) z.1 (hty k hk) (by rw [z.2]; rcases h01 with rfl | rfl <;> rfl) (by rw [z.2]; rcases h01 with rfl | rfl <;> rfl) (by rw [List.length_map]; exact hlt) hd (fun H1 locs1 hP1 hD1 hS1 => ?_)
  have e1 : (sk_lay b H0.size cA t).set a' (H0.size + a', .inr (ci, (fs.map (sk_tr b H0.size)).set k (sk_tr b H0.size (.int v)))) = sk_lay b H0.size cA (t.set a' (.inr (.inr (ci, fs.set k (.int v))))) := by
    rw [← sk_lay_set]
    show _ = (sk_lay b H0.size cA t).set a' (H0.size + a', .inr (ci, (fs.set k (.int v)).map (sk_tr b H0.size)))
    rw [List.map_set]
  have hP2 : va_P D vwCl (sk_lay b H0.size cA (t.set a' (.inr (.inr (ci, fs.set k (.int v)))))) H1 := by rw [← e1]; exact hP1
  have e2 : (.inl X :: t : sk_W).set (a' + 1) (.inr (.inr (ci, fs.set k (.int v)))) = .inl X :: t.set a' (.inr (.inr (ci, fs.set k (.int v)))) := rfl
  rw [e2] at kk
  have e3 : (.inl X :: t.set a' (.inr (.inr (ci, fs.set k (.int v)))) : sk_W).length = (.inl X :: t : sk_W).length := by simp
  have e4 : sk_sz (.inl X :: t.set a' (.inr (.inr (ci, fs.set k (.int v))))) = sk_sz (.inl X :: t) := by
    rw [← e2]
    exact sk_sz_set hw (by simp [sk_csz])
  have kk1 := kk H1 locs1 lsA (sk_Rel.of hP2 hS1) hS1.2.2 (by rw [e3]; exact h1) (by rw [e4]; exact h2) h3 h4
  rw [e3, e4] at kk1
  exact kk1
theorem sk_s_put3 {p : Program} {l : Launch} {e : Env} {R : Room} {s : State} {m : MethodId} {args : Array Value} {below : List Frame} {meth : Method} {c : Code} {Q : State → Prop} {nest : List Jvm.Cond} {Sx : State → Prop} {D : va_G} {cA : Nat → ClassId} {b : Nat} {X : Nat × (Nat → Int32)} {H0 : Heap} {w0 : sk_W} {own nm : String} {cc : ByteArray} {nL : Nat} (hC : sk_Cx nest Sx D cA b X H0 w0 own nm cc nL p s m args meth c) {pc : Nat} {ls : sk_L} {st : List Value} {w : sk_W} {idx ci k : Nat} {v : Nat} {a0 : Nat} {w1 : sk_W} (hd : decode cc pc = .ok (.putfield idx, 3)) (hf : sk_putOK own nm idx ci k 3) (hv : sk_put w a0 ci k (.ref v) = some w1) (kk : sk_Good p l e R s m args below meth c Q D cA b X H0 w0 nL (pc + 3) ls st w1) : sk_Good p l e R s m args below meth c Q D cA b X H0 w0 nL pc ls (.ref v :: .ref a0 :: st) w := by
  obtain ⟨⟨hx, hb, hml, hown, hts⟩, ⟨hK, hN, hAO, hX, hbl, hSx⟩, hsz, hnm⟩ := hC
  intro H locs lsA hR hL h1 h2 h3 h4
  obtain ⟨⟨⟨hc, hin, hty, hnn, -, -⟩, hk, hl⟩, z0, z2, z3⟩ := hf
  obtain ⟨fs, hw, hlt, rfl⟩ := sk_put_spec hv
  rcases hR.get hw with ⟨-, h⟩ | ⟨a', t, rfl, rfl, ht, hP⟩
  · cases h
  have z := z3 rfl
  refine va_putF hx hb (C := (sk_q ci).1) (T := (sk_q ci).2.1) (N := (sk_q ci).2.2) hts hin (sk_ty ci) hty hnn hown hK hP sk_lay_D (hR.S hL) a' (sk_lay_at ht) hc k hk (hts _ hl) (fun x hx => hx) z.1 (by rw [hnm]; exact z.2.1) z.2.2.1 (hty k hk) (sk_ref_nar z.2.2.2 _).1 (sk_ref_nar z.2.2.2 _).2 (by rw [List.length_map]; exact hlt) hd (fun H1 locs1 hP1 hD1 hS1 => ?_)
  have e1 : (sk_lay b H0.size cA t).set a' (H0.size + a', .inr (ci, (fs.map (sk_tr b H0.size)).set k (sk_tr b H0.size (.ref v)))) = sk_lay b H0.size cA (t.set a' (.inr (.inr (ci, fs.set k (.ref v))))) := by
    rw [← sk_lay_set]
    show _ = (sk_lay b H0.size cA t).set a' (H0.size + a', .inr (ci, (fs.set k (.ref v)).map (sk_tr b H0.size)))
    rw [List.map_set]
  have hP2 : va_P D vwCl (sk_lay b H0.size cA (t.set a' (.inr (.inr (ci, fs.set k (.ref v)))))) H1 := by rw [← e1]; exact hP1
  have e2 : (.inl X :: t : sk_W).set (a' + 1) (.inr (.inr (ci, fs.set k (.ref v)))) = .inl X :: t.set a' (.inr (.inr (ci, fs.set k (.ref v)))) := rfl
  rw [e2] at kk
  have e3 : (.inl X :: t.set a' (.inr (.inr (ci, fs.set k (.ref v)))) : sk_W).length = (.inl X :: t : sk_W).length := by simp
  have e4 : sk_sz (.inl X :: t.set a' (.inr (.inr (ci, fs.set k (.ref v))))) = sk_sz (.inl X :: t) := by
    rw [← e2]
    exact sk_sz_set hw (by simp [sk_csz])
  have kk1 := kk H1 locs1 lsA (sk_Rel.of hP2 hS1) hS1.2.2 (by rw [e3]; exact h1) (by rw [e4]; exact h2) h3 h4
  rw [e3, e4] at kk1
  exact kk1
