/-! ===== arrays, new cells, calls ===== -/
theorem sk_tr_dflt (b n0 : Nat) (ty : FieldType) : sk_tr b n0 (defaultValue ty) = defaultValue ty := by cases ty <;> rfl
theorem sk_after {p : Program} {l : Launch} {e : Env} {R : Room} {s : State} {m : MethodId} {args : Array Value} {below : List Frame} {meth : Method} {c : Code} {Q : State → Prop} {D : va_G} {cA : Nat → ClassId} {b : Nat} {X : Nat × (Nat → Int32)} {H0 : Heap} {w0 : sk_W} {nL : Nat} {t : sk_W} {a' pc : Nat} {ls : sk_L} {st : List Value} {cl c' : sk_C} {ev : va_E} {H1 : Heap} {locs1 : List Loc} {lsA : Array Slot} (hw : (.inl X :: t : sk_W)[a' + 1]? = some cl) (hcs : sk_csz c' = sk_csz cl) (he : ev = sk_ce b H0.size cA c') (hP1 : va_P D vwCl ((sk_lay b H0.size cA t).set a' (H0.size + a', ev)) H1) (hS1 : va_S (fun q : Nat => H0.size ≤ q) H0 H1 locs1)
    (kk : sk_Good p l e R s m args below meth c Q D cA b X H0 w0 nL pc ls st ((.inl X :: t : sk_W).set (a' + 1) c')) (h1 : w0.length ≤ (.inl X :: t : sk_W).length) (h2 : sk_sz w0 ≤ sk_sz (.inl X :: t)) (h3 : sk_lok nL ls) (h4 : lv_has lsA nL (sk_lv b H0.size 0 ls)) :
    W p l e R s m args below meth c H1 locs1 ((.inl X :: t : sk_W).length - w0.length) (sk_sz (.inl X :: t) - sk_sz w0) Q (F0 m pc lsA (st.map (sk_tr b H0.size))) := by
  subst he
  rw [sk_lay_set] at hP1
  have e2 : (.inl X :: t : sk_W).set (a' + 1) c' = .inl X :: t.set a' c' := rfl
  rw [e2] at kk
  have e3 : (.inl X :: t.set a' c' : sk_W).length = (.inl X :: t : sk_W).length := by simp
  have e4 : sk_sz (.inl X :: t.set a' c') = sk_sz (.inl X :: t) := by
    rw [← e2]
    exact sk_sz_set hw hcs
  have kk1 := kk H1 locs1 lsA (sk_Rel.of hP1 hS1) hS1.2.2 (by rw [e3]; exact h1) (by rw [e4]; exact h2) h3 h4
  rw [e3, e4] at kk1
  exact kk1
theorem sk_low {D : va_G} {cA : Nat → ClassId} {b n0 : Nat} {H : Heap} {t : sk_W} (hP : va_P D vwCl (sk_lay b n0 cA t) H) (h0 : n0 ≤ H.size) : n0 + t.length ≤ H.size := by
  cases ht : t.length with
  | zero => omega
  | succ k =>
    have hk : k < t.length := by omega
    have h1 := (hP k _ (sk_lay_at (List.getElem?_eq_getElem hk))).lt
    have h2 : n0 + k < H.size := h1
    omega
theorem sk_pushed {p : Program} {l : Launch} {e : Env} {R : Room} {s : State} {m : MethodId} {args : Array Value} {below : List Frame} {meth : Method} {c : Code} {Q : State → Prop} {D : va_G} {cA : Nat → ClassId} {b : Nat} {X : Nat × (Nat → Int32)} {H0 : Heap} {w0 : sk_W} {nL : Nat} {t : sk_W} {q pc ms : Nat} {ls : sk_L} {st : List Value} {c' : sk_C} {ev : va_E} {H1 : Heap} {locs1 : List Loc} {lsA : Array Slot} (hs : s.heap.size + 1 = H0.size + w0.length) (he : ev = sk_ce b H0.size cA c') (hms : ms = sk_csz c') (hP1 : va_P D vwCl (sk_lay b H0.size cA t ++ [(q, ev)]) H1) (hD1 : va_D (fun q : Nat => H0.size ≤ q) (sk_lay b H0.size cA t ++ [(q, ev)])) (hS1 : va_S (fun q : Nat => H0.size ≤ q) H0 H1 locs1)
    (kk : sk_Good p l e R s m args below meth c Q D cA b X H0 w0 nL pc ls (.ref (.inl X :: t : sk_W).length :: st) ((.inl X :: t : sk_W) ++ [c'])) (h1 : w0.length ≤ (.inl X :: t : sk_W).length) (h2 : sk_sz w0 ≤ sk_sz (.inl X :: t)) (h3 : sk_lok nL ls) (h4 : lv_has lsA nL (sk_lv b H0.size 0 ls)) :
    W p l e R s m args below meth c H1 locs1 ((.inl X :: t : sk_W).length - w0.length + 1) (sk_sz (.inl X :: t) - sk_sz w0 + ms) Q (F0 m pc lsA (.ref q :: st.map (sk_tr b H0.size))) := by
  subst he
  intro T hT X'
  have hup := X'.heapSize
  have hlen : (sk_lay b H0.size cA t).length = t.length := by simp [sk_lay]
  have hlast : (sk_lay b H0.size cA t ++ [(q, sk_ce b H0.size cA c')])[t.length]? = some (q, sk_ce b H0.size cA c') := by
    rw [List.getElem?_append_right (by omega), hlen]; simp
  have hq1 : H0.size ≤ q := hD1.2 _ _ hlast
  have hq2 : q < H1.size := (hP1 _ _ hlast).lt
  rw [hT] at hup
  have hlt : (.inl X :: t : sk_W).length = t.length + 1 := rfl
  have hq3 : q = H0.size + t.length := by
    rcases Nat.lt_or_ge q (H0.size + t.length) with hh | hh
    · have hj : q - H0.size < t.length := by omega
      have hat := sk_lay_at (b := b) (n0 := H0.size) (cA := cA) (List.getElem?_eq_getElem hj)
      have hat2 : (sk_lay b H0.size cA t ++ [(q, sk_ce b H0.size cA c')])[q - H0.size]? = some (H0.size + (q - H0.size), sk_ce b H0.size cA t[q - H0.size]) := by
        rw [List.getElem?_append_left (by omega)]; exact hat
      have := hD1.1 _ _ _ _ hat2 hlast (by show H0.size + (q - H0.size) = q; omega)
      omega
    · omega
  subst hq3
  rw [sk_lay_push] at hP1
  have e3 : ((.inl X :: t : sk_W) ++ [c']).length = (.inl X :: t : sk_W).length + 1 := by simp
  have e4 : sk_sz ((.inl X :: t : sk_W) ++ [c']) = sk_sz (.inl X :: t) + ms := by rw [sk_sz_push, hms]; simp [sk_sz]
  have kk1 := kk H1 locs1 lsA (sk_Rel.of hP1 hS1) hS1.2.2 (by rw [e3]; omega) (by rw [e4]; omega) h3 h4
  rw [e3, e4] at kk1
  have f3 : (.inl X :: t : sk_W).length + 1 - w0.length = (.inl X :: t : sk_W).length - w0.length + 1 := by omega
  have f4 : sk_sz (.inl X :: t) + ms - sk_sz w0 = sk_sz (.inl X :: t) - sk_sz w0 + ms := by omega
  rw [f3, f4] at kk1
  exact kk1 T hT X'
theorem sk_s_ald {p : Program} {l : Launch} {e : Env} {R : Room} {s : State} {m : MethodId} {args : Array Value} {below : List Frame} {meth : Method} {c : Code} {Q : State → Prop} {nest : List Jvm.Cond} {Sx : State → Prop} {D : va_G} {cA : Nat → ClassId} {b : Nat} {X : Nat × (Nat → Int32)} {H0 : Heap} {w0 : sk_W} {own nm : String} {cc : ByteArray} {nL : Nat} (hC : sk_Cx nest Sx D cA b X H0 w0 own nm cc nL p s m args meth c) {pc : Nat} {ls : sk_L} {st : List Value} {w : sk_W} {j v : Int32} {a0 : Nat} (hd : decode cc pc = .ok (.iaload, 1)) (hv : sk_ald w a0 j = some v) (kk : sk_Good p l e R s m args below meth c Q D cA b X H0 w0 nL (pc + 1) ls (.int v :: st) w) : sk_Good p l e R s m args below meth c Q D cA b X H0 w0 nL pc ls (.int j :: .ref a0 :: st) w := by
  obtain ⟨⟨hx, hb, hml, hown, hts⟩, ⟨hK, hN, hAO, hX, hbl, hSx⟩, hsz, hnm⟩ := hC
  intro H locs lsA hR hL h1 h2 h3 h4
  obtain ⟨n, f, hw, hin, rfl⟩ := sk_ald_spec hv
  rcases hR.get hw with ⟨rfl, h⟩ | ⟨a', t, rfl, rfl, ht, hP⟩
  · have h := Sum.inl.inj h
    subst h
    exact va_sld hx hb hX hbl (Nat.not_le.mpr hbl) (hR.S hL) hin hd (kk H locs lsA hR hL h1 h2 h3 h4)
  · exact va_iald hx hb hK hP a' 4 (sk_lay_at ht) rfl hin hd (kk H locs lsA hR hL h1 h2 h3 h4)
theorem sk_s_len {p : Program} {l : Launch} {e : Env} {R : Room} {s : State} {m : MethodId} {args : Array Value} {below : List Frame} {meth : Method} {c : Code} {Q : State → Prop} {nest : List Jvm.Cond} {Sx : State → Prop} {D : va_G} {cA : Nat → ClassId} {b : Nat} {X : Nat × (Nat → Int32)} {H0 : Heap} {w0 : sk_W} {own nm : String} {cc : ByteArray} {nL : Nat} (hC : sk_Cx nest Sx D cA b X H0 w0 own nm cc nL p s m args meth c) {pc : Nat} {ls : sk_L} {st : List Value} {w : sk_W} {v : Int32} {a0 : Nat} (hd : decode cc pc = .ok (.arraylength, 1)) (hv : sk_len w a0 = some v) (kk : sk_Good p l e R s m args below meth c Q D cA b X H0 w0 nL (pc + 1) ls (.int v :: st) w) : sk_Good p l e R s m args below meth c Q D cA b X H0 w0 nL pc ls (.ref a0 :: st) w := by
  obtain ⟨⟨hx, hb, hml, hown, hts⟩, ⟨hK, hN, hAO, hX, hbl, hSx⟩, hsz, hnm⟩ := hC
  intro H locs lsA hR hL h1 h2 h3 h4
  obtain ⟨n, f, hw, rfl⟩ := sk_len_spec hv
  rcases hR.get hw with ⟨rfl, h⟩ | ⟨a', t, rfl, rfl, ht, hP⟩
  · have h := Sum.inl.inj h
    subst h
    exact va_slen hx hb hX hbl (Nat.not_le.mpr hbl) (hR.S hL) hd (kk H locs lsA hR hL h1 h2 h3 h4)
  · exact va_alen hx hb hK hP a' 4 (sk_lay_at ht) rfl rfl hd (kk H locs lsA hR hL h1 h2 h3 h4)
theorem sk_s_ast {p : Program} {l : Launch} {e : Env} {R : Room} {s : State} {m : MethodId} {args : Array Value} {below : List Frame} {meth : Method} {c : Code} {Q : State → Prop} {nest : List Jvm.Cond} {Sx : State → Prop} {D : va_G} {cA : Nat → ClassId} {b : Nat} {X : Nat × (Nat → Int32)} {H0 : Heap} {w0 : sk_W} {own nm : String} {cc : ByteArray} {nL : Nat} (hC : sk_Cx nest Sx D cA b X H0 w0 own nm cc nL p s m args meth c) {pc : Nat} {ls : sk_L} {st : List Value} {w : sk_W} {j v : Int32} {a0 : Nat} {w1 : sk_W} (hd : decode cc pc = .ok (.iastore, 1)) (hv : sk_ast w a0 j v = some w1) (kk : sk_Good p l e R s m args below meth c Q D cA b X H0 w0 nL (pc + 1) ls st w1) : sk_Good p l e R s m args below meth c Q D cA b X H0 w0 nL pc ls (.int v :: .int j :: .ref a0 :: st) w := by
  obtain ⟨⟨hx, hb, hml, hown, hts⟩, ⟨hK, hN, hAO, hX, hbl, hSx⟩, hsz, hnm⟩ := hC
  intro H locs lsA hR hL h1 h2 h3 h4
  obtain ⟨a', n, f, rfl, hw, hin, rfl⟩ := sk_ast_spec hv
  rcases hR.get hw with ⟨h, -⟩ | ⟨a', t, h, rfl, ht, hP⟩
  · cases h
  cases h
  exact va_iast hx hb hK hP sk_lay_D (hR.S hL) _ 4 (sk_lay_at ht) rfl hin hd (fun H1 locs1 hP1 hD1 hS1 => sk_after hw (by rfl) (by rfl) hP1 hS1 kk h1 h2 h3 h4)
theorem sk_s_aldr {p : Program} {l : Launch} {e : Env} {R : Room} {s : State} {m : MethodId} {args : Array Value} {below : List Frame} {meth : Method} {c : Code} {Q : State → Prop} {nest : List Jvm.Cond} {Sx : State → Prop} {D : va_G} {cA : Nat → ClassId} {b : Nat} {X : Nat × (Nat → Int32)} {H0 : Heap} {w0 : sk_W} {own nm : String} {cc : ByteArray} {nL : Nat} (hC : sk_Cx nest Sx D cA b X H0 w0 own nm cc nL p s m args meth c) {pc : Nat} {ls : sk_L} {st : List Value} {w : sk_W} {j : Int32} {a0 v : Nat} (hd : decode cc pc = .ok (.aaload, 1)) (hv : sk_aldr w a0 j = some v) (kk : sk_Good p l e R s m args below meth c Q D cA b X H0 w0 nL (pc + 1) ls (.ref v :: st) w) : sk_Good p l e R s m args below meth c Q D cA b X H0 w0 nL pc ls (.int j :: .ref a0 :: st) w := by
  obtain ⟨⟨hx, hb, hml, hown, hts⟩, ⟨hK, hN, hAO, hX, hbl, hSx⟩, hsz, hnm⟩ := hC
  intro H locs lsA hR hL h1 h2 h3 h4
  obtain ⟨t0, n, f, hw, h40, hin, hf⟩ := sk_aldr_spec hv
  rcases hR.get hw with ⟨-, h⟩ | ⟨a', t, rfl, rfl, ht, hP⟩
  · cases h
  have hlt : j.toNatClampNeg < n := Nat.not_le.mp fun q => hin (Or.inr q)
  have key : ∀ ty : FieldType, (sk_tys cA)[t0]? = some (cA t0, ty) → ty.isReference = true → W p l e R s m args below meth c H locs ((.inl X :: t : sk_W).length - w0.length) (sk_sz (.inl X :: t) - sk_sz w0) Q (F0 m pc lsA ((.int j :: .ref (a' + 1) :: st).map (sk_tr b H0.size))) := by
    intro ty hty href
    have hcell := hP a' _ (sk_lay_at ht)
    refine W.aald (v := sk_tr b H0.size (.ref v)) (ty := ty) hx hb hcell ((hK.2 t0 _ hty).1 n (fun j => va_rf ((f j).map (sk_am b H0.size)))) href (fun q => by cases q) (by show ¬ (j < 0 ∨ (arrV _ _ _).slots.size ≤ _); rw [arrV_size]; exact hin) (by show (arrV _ _ _).slots[_]? = _; rw [arrV_read _ _ hlt]; show some (va_rf ((f j.toNatClampNeg).map _)) = _; rw [hf]; rfl) rfl rfl hd ?_
    exact kk H locs lsA hR hL h1 h2 h3 h4
  rcases (show t0 = 0 ∨ t0 = 1 ∨ t0 = 2 ∨ t0 = 3 by omega) with rfl | rfl | rfl | rfl <;> exact key _ rfl rfl
theorem sk_s_astr {p : Program} {l : Launch} {e : Env} {R : Room} {s : State} {m : MethodId} {args : Array Value} {below : List Frame} {meth : Method} {c : Code} {Q : State → Prop} {nest : List Jvm.Cond} {Sx : State → Prop} {D : va_G} {cA : Nat → ClassId} {b : Nat} {X : Nat × (Nat → Int32)} {H0 : Heap} {w0 : sk_W} {own nm : String} {cc : ByteArray} {nL : Nat} (hC : sk_Cx nest Sx D cA b X H0 w0 own nm cc nL p s m args meth c) {pc : Nat} {ls : sk_L} {st : List Value} {w : sk_W} {j : Int32} {a0 v t0 ci : Nat} {w1 : sk_W} (hd : decode cc pc = .ok (.aastore, 1)) (hcl : sk_cls ci) (htag : (sk_tys cA)[t0]? = some (cA t0, .object (sk_q ci).1)) (hv : sk_astr w a0 t0 ci j v = some w1) (kk : sk_Good p l e R s m args below meth c Q D cA b X H0 w0 nL (pc + 1) ls st w1) : sk_Good p l e R s m args below meth c Q D cA b X H0 w0 nL pc ls (.ref v :: .int j :: .ref a0 :: st) w := by
  obtain ⟨⟨hx, hb, hml, hown, hts⟩, ⟨hK, hN, hAO, hX, hbl, hSx⟩, hsz, hnm⟩ := hC
  intro H locs lsA hR hL h1 h2 h3 h4
  obtain ⟨n, f, fs, hw, hwv, hin, rfl⟩ := sk_astr_spec hv
  rcases hR.get hw with ⟨-, h⟩ | ⟨a', t, rfl, rfl, ht, hP⟩
  · cases h
  rcases hR.get hwv with ⟨-, h⟩ | ⟨v', t', rfl, e', ht', hP'⟩
  · cases h
  have e' := (List.cons.inj e').2
  subst e'
  refine va_astq hx hb hK hP sk_lay_D (hR.S hL) a' t0 v' ci (sk_lay_at ht) htag (sk_lay_at ht') hcl.1 hin hd (fun H1 locs1 hP1 hD1 hS1 => sk_after hw (by rfl) ?_ hP1 hS1 kk h1 h2 h3 h4)
  show (Sum.inl _ : va_E) = Sum.inl _
  congr 3
  refine congrArg _ (congrArg _ (congrArg _ ?_))
  congr 1
  funext k
  unfold va_up
  by_cases hk : k = j.toNatClampNeg
  · rw [if_pos hk, if_pos hk]; rfl
  · rw [if_neg hk, if_neg hk]
theorem sk_s_new {p : Program} {l : Launch} {e : Env} {R : Room} {s : State} {m : MethodId} {args : Array Value} {below : List Frame} {meth : Method} {c : Code} {Q : State → Prop} {nest : List Jvm.Cond} {Sx : State → Prop} {D : va_G} {cA : Nat → ClassId} {b : Nat} {X : Nat × (Nat → Int32)} {H0 : Heap} {w0 : sk_W} {own nm : String} {cc : ByteArray} {nL : Nat} (hC : sk_Cx nest Sx D cA b X H0 w0 own nm cc nL p s m args meth c) {pc : Nat} {ls : sk_L} {st : List Value} {w : sk_W} {idx ci : Nat} (hd : decode cc pc = .ok (.new idx, 3)) (hcl : sk_cls ci) (hlk : Jvm.Cond.classLink own idx (sk_q ci).1 ∈ sk_B) (hrm : w.length + 1 - w0.length ≤ R.cells ∧ sk_sz w + (sk_q ci).2.2 - sk_sz w0 ≤ R.slots) (kk : sk_Good p l e R s m args below meth c Q D cA b X H0 w0 nL (pc + 3) ls (.ref w.length :: st) (w ++ [.inr (.inr (ci, sk_fields ci))])) : sk_Good p l e R s m args below meth c Q D cA b X H0 w0 nL pc ls st w := by
  obtain ⟨⟨hx, hb, hml, hown, hts⟩, ⟨hK, hN, hAO, hX, hbl, hSx⟩, hsz, hnm⟩ := hC
  intro H locs lsA hR hL h1 h2 h3 h4
  obtain ⟨hc, hin, hty, hnn, hins, hini⟩ := hcl
  obtain ⟨t, rfl, hP, hlo, hh⟩ := id hR
  refine va_new hx hb (C := (sk_q ci).1) (T := (sk_q ci).2.1) (N := (sk_q ci).2.2) hts hin (sk_ty ci) hty hown (hts _ hlk) (hts _ hins) (hts _ hini) hK hP sk_lay_D (hR.S hL) (fun _ h => h) hc (fs := (sk_fields ci).map (sk_tr b H0.size)) (fun j hj => ?_) (by omega) (by omega) hd (fun q H1 hP1 hD1 hS1 => ?_)
  · rw [sk_fields_at ci j hj]
    unfold vp_V
    rw [List.getD_eq_getElem?_getD, List.getD_eq_getElem?_getD, List.getElem?_map]
    have hj' : j < (sk_fields ci).length := by rw [sk_fields_len]; exact hj
    rw [List.getElem?_eq_getElem hj']
    have e0 : (sk_fields ci)[j] = defaultValue (sk_ty ci j) := by simp [sk_fields]
    show (sk_fields ci)[j] = sk_tr b H0.size (sk_fields ci)[j]
    rw [e0]
    exact (sk_tr_dflt b H0.size _).symm
  · exact sk_pushed hsz rfl (by rw [sk_csz, sk_fields_len]) hP1 hD1 hS1 kk h1 h2 h3 h4
theorem sk_s_newa {p : Program} {l : Launch} {e : Env} {R : Room} {s : State} {m : MethodId} {args : Array Value} {below : List Frame} {meth : Method} {c : Code} {Q : State → Prop} {nest : List Jvm.Cond} {Sx : State → Prop} {D : va_G} {cA : Nat → ClassId} {b : Nat} {X : Nat × (Nat → Int32)} {H0 : Heap} {w0 : sk_W} {own nm : String} {cc : ByteArray} {nL : Nat} (hC : sk_Cx nest Sx D cA b X H0 w0 own nm cc nL p s m args meth c) {pc : Nat} {ls : sk_L} {st : List Value} {w : sk_W} {n : Int32} (hd : decode cc pc = .ok (.newarray .int, 2)) (hac : Jvm.Cond.arrayClass .int ∈ sk_B) (hn : ¬ n < 0 ∧ n.toNatClampNeg ≤ 100000) (hrm : w.length + 1 - w0.length ≤ R.cells ∧ sk_sz w + n.toNatClampNeg - sk_sz w0 ≤ R.slots) (kk : sk_Good p l e R s m args below meth c Q D cA b X H0 w0 nL (pc + 2) ls (.ref w.length :: st) (w ++ [.inl (n.toNatClampNeg, fun _ => 0)])) : sk_Good p l e R s m args below meth c Q D cA b X H0 w0 nL pc ls (.int n :: st) w := by
  obtain ⟨⟨hx, hb, hml, hown, hts⟩, ⟨hK, hN, hAO, hX, hbl, hSx⟩, hsz, hnm⟩ := hC
  intro H locs lsA hR hL h1 h2 h3 h4
  obtain ⟨t, rfl, hP, hlo, hh⟩ := id hR
  refine va_newa (atype := .int) hx hb (hts _ hac) (ty := .int) rfl hK hP sk_lay_D (hR.S hL) (fun _ h => h) (N' := n.toNatClampNeg) (a0 := (n.toNatClampNeg, .inl fun _ => 0)) (fun cA => rfl) hn.1 rfl (by show n.toNatClampNeg * 4 ≤ _; omega) (by omega) (by omega) hd (fun q cA' H1 hK1 hP1 hD1 hS1 => ?_)
  have e1 : cA' = cA 4 := by
    have g1 := (hK1.2 5 _ rfl).2
    have g2 := (hK.2 4 _ rfl).2
    exact Option.some.inj (g1.symm.trans g2)
  subst e1
  exact sk_pushed hsz rfl rfl hP1 hD1 hS1 kk h1 h2 h3 h4
theorem sk_s_newr {p : Program} {l : Launch} {e : Env} {R : Room} {s : State} {m : MethodId} {args : Array Value} {below : List Frame} {meth : Method} {c : Code} {Q : State → Prop} {nest : List Jvm.Cond} {Sx : State → Prop} {D : va_G} {cA : Nat → ClassId} {b : Nat} {X : Nat × (Nat → Int32)} {H0 : Heap} {w0 : sk_W} {own nm : String} {cc : ByteArray} {nL : Nat} (hC : sk_Cx nest Sx D cA b X H0 w0 own nm cc nL p s m args meth c) {pc : Nat} {ls : sk_L} {st : List Value} {w : sk_W} {n : Int32} {idx t0 : Nat} {CN : String} (hd : decode cc pc = .ok (.anewarray idx, 3)) (hlk : Jvm.Cond.classLink own idx CN ∈ sk_B) (hn : ¬ n < 0 ∧ n.toNatClampNeg ≤ 100000) (htag : t0 < 3 ∧ (sk_tys cA)[t0]? = some (cA t0, .object CN)) (hrm : w.length + 1 - w0.length ≤ R.cells ∧ sk_sz w + n.toNatClampNeg - sk_sz w0 ≤ R.slots) (kk : sk_Good p l e R s m args below meth c Q D cA b X H0 w0 nL (pc + 3) ls (.ref w.length :: st) (w ++ [.inr (.inl (t0, n.toNatClampNeg, fun _ => none))])) : sk_Good p l e R s m args below meth c Q D cA b X H0 w0 nL pc ls (.int n :: st) w := by
  obtain ⟨⟨hx, hb, hml, hown, hts⟩, ⟨hK, hN, hAO, hX, hbl, hSx⟩, hsz, hnm⟩ := hC
  intro H locs lsA hR hL h1 h2 h3 h4
  obtain ⟨t, rfl, hP, hlo, hh⟩ := id hR
  have hover : va_AO CN s := by
    obtain ⟨a0, a1, a2⟩ := hAO
    obtain ⟨ht3, htag⟩ := htag
    rcases (show t0 = 0 ∨ t0 = 1 ∨ t0 = 2 by omega) with rfl | rfl | rfl
    · have := congrArg Prod.snd (Option.some.inj htag); cases this; exact a0
    · have := congrArg Prod.snd (Option.some.inj htag); cases this; exact a1
    · have := congrArg Prod.snd (Option.some.inj htag); cases this; exact a2
  refine va_newq hx hb hown (hts _ hlk) hover hK hP sk_lay_D (hR.S hL) (fun _ h => h) (N' := n.toNatClampNeg) hn.1 rfl (by omega) (by omega) (by omega) hd (fun q cA' H1 hK1 hP1 hD1 hS1 => ?_)
  have e1 : cA' = cA t0 := by
    obtain ⟨_, _, _, _, _, g1⟩ := (hK1.2 5 _ rfl).2
    obtain ⟨_, _, _, _, _, g2⟩ := (hK.2 t0 _ htag.2).2
    exact Option.some.inj (g1.symm.trans g2)
  subst e1
  exact sk_pushed hsz rfl rfl hP1 hD1 hS1 kk h1 h2 h3 h4
theorem sk_s_copy {p : Program} {l : Launch} {e : Env} {R : Room} {s : State} {m : MethodId} {args : Array Value} {below : List Frame} {meth : Method} {c : Code} {Q : State → Prop} {nest : List Jvm.Cond} {Sx : State → Prop} {D : va_G} {cA : Nat → ClassId} {b : Nat} {X : Nat × (Nat → Int32)} {H0 : Heap} {w0 : sk_W} {own nm : String} {cc : ByteArray} {nL : Nat} (hC : sk_Cx nest Sx D cA b X H0 w0 own nm cc nL p s m args meth c) {pc : Nat} {ls : sk_L} {st : List Value} {w : sk_W} {idx a0 a1 : Nat} {sp dp n : Int32} {w1 : sk_W} (hls : ls.length = nL) (hd : decode cc pc = .ok (.invokestatic idx, 3)) (hlk : Jvm.Cond.methodLink own idx arraycopyName ∈ sk_B) (hwd : Jvm.Cond.native arraycopyName ∈ sk_B ∧ Jvm.Cond.static arraycopyName ∈ sk_B ∧ Jvm.Cond.initialized "java/lang/System" ∈ sk_B) (hst : (st.map fun v => v.category).sum ≤ 8) (hRf : 1 ≤ R.frames ∧ 80 ≤ R.locals) (hv : sk_copy w a0 sp a1 dp n = some w1) (kk : sk_Good p l e R s m args below meth c Q D cA b X H0 w0 nL (pc + 3) ls st w1) : sk_Good p l e R s m args below meth c Q D cA b X H0 w0 nL pc ls (.int n :: .int dp :: .ref a1 :: .int sp :: .ref a0 :: st) w := by
  obtain ⟨⟨hx, hb, hml, hown, hts⟩, ⟨hK, hN, hAO, hX, hbl, hSx⟩, hsz, hnm⟩ := hC
  intro H locs lsA hR hL h1 h2 h3 h4
  obtain ⟨b0, b1, n0, n1, f, g, rfl, rfl, hw0, hw1, ⟨c1, c2, c3, c4, c5⟩, rfl⟩ := sk_copy_spec hv
  rcases hR.get hw0 with ⟨h, -⟩ | ⟨b0', t, h, rfl, ht, hP⟩
  · cases h
  cases h
  rcases hR.get hw1 with ⟨h, -⟩ | ⟨b1', t', h, e', ht', hP'⟩
  · cases h
  cases h
  have e' := (List.cons.inj e').2
  subst e'
  have hstc : ((st.map (sk_tr b H0.size)).map fun v => v.category).sum ≤ 8 := by
    rw [List.map_map]
    have : ((fun v : Value => v.category) ∘ sk_tr b H0.size) = fun v : Value => v.category := by funext v; exact sk_tr_cat _ _ v
    rw [this]; exact hst
  have hnw : nativeFrameWords "java/lang/System" "arraycopy" 5 + 11 ≤ 72 := by decide +kernel
  exact va_copyi hx hb (by rw [hml]; exact h4.1.symm) hown (hts _ hlk) (hts _ hwd.1) (hts _ hwd.2.1) (hts _ hwd.2.2) hK hP sk_lay_D (hR.S hL) _ _ 4 4 (sk_lay_at ht) (sk_lay_at ht') rfl rfl rfl c1 c2 c3 c4 c5 (fun _ _ => rfl) hRf.1 (by have := hRf.2; omega) hd (fun H1 locs1 hP1 hD1 hS1 => sk_after hw1 (by rfl) (by rfl) hP1 hS1 kk h1 h2 h3 h4)
