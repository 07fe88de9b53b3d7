/-! ===== new int[n][m] ===== -/
theorem sk_outer (c : ClassId) (N h0 : Nat) : ∀ i : Nat, Jvm.Free.Multi.outerC c N h0 i = arrV c N (fun j => va_rf (if j < i then some (h0 + 1 + j) else none))
  | 0 => by
    show ({ cls := c, slots := Array.replicate N .null, vm := .none } : Cell) = _
    rw [arrV_new]
    refine congrArg (arrV c N) (funext fun j => ?_)
    simp [va_rf]
  | i + 1 => by
    show (Jvm.Free.Multi.outerC c N h0 i).setSlot i (.ref (h0 + 1 + i)) = _
    rw [sk_outer c N h0 i, arrV_store]
    refine congrArg (arrV c N) (funext fun j => ?_)
    by_cases e : j = i
    · subst e
      simp [updV, va_rf]
    · by_cases h : j < i
      · simp [updV, e, h, Nat.lt_succ_of_lt h]
      · simp [updV, e, h, show ¬ j < i + 1 by omega]
theorem sk_multi_rule {Sx : State → Prop} (hA : ∀ s : State, Sx s → (Jvm.Cond.arrayOver (.array .int)).before #[] s = true) : sk_multiOK Sx := by
  intro p l e R s m args below meth c Q nest D cA b X H0 w0 own nm cc nL hC pc ls w idx n j st hd hn hlk hac hrm kk
  obtain ⟨⟨hx, hb, hml, hown, hts⟩, ⟨hK, hN, hAO, hX, hbl, hSx⟩, hsz, hnm⟩ := hC
  intro H locs lsA hR hL h1 h2 h3 h4 T hT Xs
  have hup := Xs.heapSize
  rw [hT] at hup
  obtain ⟨t, rfl, hP, hlo, hh⟩ := id hR
  have hlow := sk_low hP hlo
  have hlt : (.inl X :: t : sk_W).length = t.length + 1 := rfl
  have hHs : H.size = H0.size + t.length := by omega
  obtain ⟨vm₁, cA', comp, hW, fA, fC, hO, hI, X', step⟩ := Xs.multianewarray2F hx hown (hts _ hlk) (hA s hSx) (hts _ hac) (g := F0 m pc lsA (.int j :: .int n :: st.map (sk_tr b H0.size))) rfl (by rw [hb]; exact hd) rfl hn.1 hn.2.1 (by have := hn.2.2.1; omega) (by show j.toNatClampNeg * 4 ≤ _; have := hn.2.2.2; omega) (by have := hn.2.2.2; omega) rfl rfl (by have := hrm.1; omega) (by have := hrm.2; omega)
  have e3 : cA' = cA 3 := Option.some.inj (fA.symm.trans (hK.2 3 _ rfl).2)
  have e4 : comp = cA 4 := Option.some.inj (fC.symm.trans (hK.2 4 _ rfl).2)
  subst e3
  subst e4
  generalize hF : Jvm.Free.Multi.fill (T.setVm vm₁) (cA 3) (cA 4) n.toNatClampNeg j.toNatClampNeg (defaultValue .int) n.toNatClampNeg = F at X' step
  have hTh : (T.setVm vm₁).heap = H := hT
  obtain ⟨f1, f2, -, -⟩ := Jvm.Free.Multi.fill_facts (T.setVm vm₁) (cA 3) (cA 4) n.toNatClampNeg j.toNatClampNeg (defaultValue .int) n.toNatClampNeg
  rw [hF, hTh] at f1 f2
  have hold : ∀ x : Nat, x < H.size → F.heap[x]? = H[x]? := fun x hx => by
    have := Jvm.Free.Multi.fill_old (T.setVm vm₁) (cA 3) (cA 4) n.toNatClampNeg j.toNatClampNeg (defaultValue .int) (a := x) (by rw [hTh]; exact hx) n.toNatClampNeg
    rw [hF, hTh] at this
    exact this
  have hrow : ∀ i : Nat, i < n.toNatClampNeg → F.heap[H.size + 1 + i]? = some (vp_cell (cA 4) (j.toNatClampNeg, .inl fun _ => 0)) := fun i hi => by
    have := Jvm.Free.Multi.fill_inner (T.setVm vm₁) (cA 3) (cA 4) n.toNatClampNeg j.toNatClampNeg (defaultValue .int) n.toNatClampNeg i hi
    rw [hF, hTh] at this
    rw [this, vp_cell_i]
    show some ({ cls := cA 4, slots := Array.replicate j.toNatClampNeg (.int 0), vm := .none } : Cell) = _
    rw [arrV_new]
  rw [sk_outer] at f2
  have hP2 : va_P D vwCl (sk_lay b H0.size cA (t ++ .inr (.inl (3, n.toNatClampNeg, fun q => if q < n.toNatClampNeg then some ((.inl X :: t : sk_W).length + 1 + q) else none)) :: List.replicate n.toNatClampNeg (.inl (j.toNatClampNeg, fun _ => 0)))) F.heap := by
    intro q x hx
    unfold sk_lay at hx
    rw [List.getElem?_mapIdx] at hx
    rcases Nat.lt_or_ge q t.length with hq | hq
    · rw [List.getElem?_append_left hq, List.getElem?_eq_getElem hq] at hx
      cases hx
      refine (hP q _ (sk_lay_at (List.getElem?_eq_getElem hq))).kept (hold _ ?_)
      show H0.size + q < H.size
      omega
    · rw [List.getElem?_append_right hq] at hx
      cases hk : q - t.length with
      | zero =>
        rw [hk] at hx
        cases hx
        show F.heap[H0.size + q]? = some (vp_cell _ _)
        rw [show H0.size + q = H.size by omega, f2, vp_cell_q]
        refine congrArg some (congrArg (arrV (cA 3) n.toNatClampNeg) (funext fun i => congrArg va_rf ?_))
        by_cases hi : i < n.toNatClampNeg
        · rw [if_pos hi]
          show some _ = Option.map (sk_am b H0.size) (if i < n.toNatClampNeg then some ((.inl X :: t : sk_W).length + 1 + i) else none)
          rw [if_pos hi]
          show some _ = some (sk_am b H0.size (t.length + 1 + 1 + i))
          rw [show t.length + 1 + 1 + i = (t.length + 1 + i) + 1 by omega]
          show some _ = some (H0.size + (t.length + 1 + i))
          congr 1
          omega
        · rw [if_neg hi]
          show none = Option.map (sk_am b H0.size) (if i < n.toNatClampNeg then some ((.inl X :: t : sk_W).length + 1 + i) else none)
          rw [if_neg hi]
          rfl
      | succ i =>
        rw [hk, List.getElem?_cons_succ, List.getElem?_replicate] at hx
        split at hx
        · next hi =>
          cases hx
          show F.heap[H0.size + q]? = some (vp_cell _ _)
          rw [show H0.size + q = H.size + 1 + i by omega]
          exact hrow i hi
        · cases hx
  have hR2 : sk_Rel D cA b X H0 ((.inl X :: t : sk_W) ++ (.inr (.inl (3, n.toNatClampNeg, fun q => if q < n.toNatClampNeg then some ((.inl X :: t : sk_W).length + 1 + q) else none)) :: List.replicate n.toNatClampNeg (.inl (j.toNatClampNeg, fun _ => 0)) : sk_W)) F.heap :=
    ⟨_, rfl, hP2, by omega, fun q hq => (hold q (by omega)).trans (hh q hq)⟩
  have l1 : ((.inl X :: t : sk_W) ++ (.inr (.inl (3, n.toNatClampNeg, fun q => if q < n.toNatClampNeg then some ((.inl X :: t : sk_W).length + 1 + q) else none)) :: List.replicate n.toNatClampNeg (.inl (j.toNatClampNeg, fun _ => 0)) : sk_W)).length = (.inl X :: t : sk_W).length + 1 + n.toNatClampNeg := by simp; omega
  have l2 : sk_sz ((.inl X :: t : sk_W) ++ (.inr (.inl (3, n.toNatClampNeg, fun q => if q < n.toNatClampNeg then some ((.inl X :: t : sk_W).length + 1 + q) else none)) :: List.replicate n.toNatClampNeg (.inl (j.toNatClampNeg, fun _ => 0)) : sk_W)) = sk_sz (.inl X :: t) + n.toNatClampNeg + n.toNatClampNeg * j.toNatClampNeg := by rw [sk_sz_push]; simp [sk_sz, sk_csz]; omega
  have kk1 := kk F.heap locs lsA hR2 hL (by rw [l1]; omega) (by rw [l2]; omega) h3 h4
  rw [l1, l2] at kk1
  have g1 : (.inl X :: t : sk_W).length + 1 + n.toNatClampNeg - w0.length = (.inl X :: t : sk_W).length - w0.length + 1 + n.toNatClampNeg := by omega
  have g2 : sk_sz (.inl X :: t) + n.toNatClampNeg + n.toNatClampNeg * j.toNatClampNeg - sk_sz w0 = sk_sz (.inl X :: t) - sk_sz w0 + n.toNatClampNeg + n.toNatClampNeg * j.toNatClampNeg := by omega
  rw [g1, g2] at kk1
  obtain ⟨t2, a1, b1⟩ := kk1 F rfl X'
  refine ⟨t2, step t2 ?_, b1⟩
  have e9 : (Value.ref (.inl X :: t : sk_W).length :: st).map (sk_tr b H0.size) = .ref T.heap.size :: st.map (sk_tr b H0.size) := by
    rw [hT, hHs]
    rfl
  rw [e9] at a1
  exact a1
