/-! ===== the law from its entry: the claim, out of one run of the abstract machine ===== -/
def sk_prims : Nat → Option (List Value → sk_W → Option sk_R)
  | 1 => some sk_prim1
  | 2 => some sk_prim2
  | _ => none
noncomputable abbrev sk_c (d : Nat) : Nat → List Value → sk_W → Option sk_R := sk_cal sk_prims sk_inf sk_tabs d
def sk_Sx (H0 : Heap) (s : State) : Prop := sk_S1 H0 s ∧ sk_S2 H0 s ∧ (Jvm.Cond.arrayOver (.array .int)).before #[] s = true
theorem sk_Sx_ok (H0 : Heap) : sk_SxOK (sk_Sx H0) := fun s U hW h => ⟨h.1.warm hW, h.2.1.warm hW, Jvm.Stand.arrayOver_alikeB hW.alike h.2.2⟩
theorem sk_c_OK {l : Launch} {D : va_G} {cA : Nat → ClassId} {b : Nat} {X : Nat × (Nat → Int32)} {H0 : Heap} (d : Nat) : sk_calOK l sk_nest (sk_Sx H0) D cA b X H0 sk_inf d (sk_c d) := by
  refine sk_cal_OK sk_nest_ok (sk_Sx_ok H0) (sk_multi_rule (fun s h => h.2.2)) (fun mi _ => sk_tabs_ok mi) ?_ d
  intro mi f hf d as w r hd h
  match mi, hf with
  | 0, hf => cases hf
  | 1, hf => cases hf; exact sk_prim1_met (fun s h => h.1) d as w r h
  | 2, hf => cases hf; exact sk_prim2_met (fun s h => h.2.1) d hd as w r h
  | mi + 3, hf => cases hf
theorem sk_tbl_of {w : Jvm.Cond} (i : Nat) (h : lw_tbl[i]? = some w) : w ∈ lw_tbl := List.mem_of_getElem? h
theorem sk_st1 : (Jvm.Cond.laysStatic "SkylineNester" "KIND_ABOVE" "[I") ∈ lw_tbl ∧ (Jvm.Cond.laysStatic "java/lang/String" "COMPACT_STRINGS" "Z") ∈ lw_tbl ∧ (Jvm.Cond.laysStatic "jdk/internal/util/Preconditions" "SIOOBE_FORMATTER" "Ljava/util/function/BiFunction;") ∈ lw_tbl ∧ (Jvm.Cond.stringRef "SkylineNesterModel" 105 "ptgcsh") ∈ lw_tbl ∧ (Jvm.Cond.initialized "SkylineNester") ∈ lw_tbl ∧ (Jvm.Cond.initialized "java/lang/String") ∈ lw_tbl ∧ (Jvm.Cond.initialized "jdk/internal/util/Preconditions") ∈ lw_tbl ∧ (Jvm.Cond.arrayOver (.object RX3)) ∈ lw_tbl ∧ (Jvm.Cond.arrayOver (.object RX5)) ∈ lw_tbl ∧ (Jvm.Cond.arrayOver (.object RX7)) ∈ lw_tbl ∧ (Jvm.Cond.arrayOver (.array .int)) ∈ lw_tbl ∧ (Jvm.Cond.arrayClass .int) ∈ lw_tbl := by
  (repeat' apply And.intro) <;> decide +kernel
theorem sk_whole {p : Program} {e : Env} {s : State} {m : MethodId} {below : List Frame} {meth : Method} {c : Code} (l : Launch) {b L : Nat} {xs : Nat → Int32} (C0 : lw_At p s m meth c b L xs) {n : Nat} {w1 : sk_W} (hrun : sk_run (sk_c 20) sk_fields true sk_t244 n 0 (sk_locs [.ref 0] 4) [] [.inl (L, xs)] = some (some (.int 1), w1)) (hw1 : w1.length ≤ 600001 ∧ sk_sz w1 ≤ 7302250 + L) : W p l e room_1 s m #[Value.ref b] below meth c s.heap [] 0 0 (lw_Z below #[Value.ref b] s) (entryFrame m ([Value.ref b] : List Value).toArray 4) := by
  obtain ⟨hx, hb, hr, hml, hown, hts, hX, hbl, hlocks, hgv⟩ := id C0
  have hA : ∀ a : Nat, a < s.heap.size → ¬ (s.heap.size ≤ a) := fun a h => Nat.not_le.mpr h
  have hB : ∀ w ∈ sk_B, w.before #[Value.ref b] s = true := fun w hw => hts w (List.mem_filter.mp hw).1
  obtain ⟨t1, t2, t3, t4, t5, t6, t7, t8, t9, t10, t11, t12⟩ := sk_st1
  have hs := flat_of_before _ hgv
  -- kinds of objects
  have hcl : ∀ k : Nat, ∃ q : ClassId × (Nat → Nat), k < 12 → u_Kn s (sk_q k).1 (sk_q k).2.1 (sk_q k).2.2 q.1 q.2 := by
    intro k
    by_cases hk : k < 12
    · obtain ⟨-, h2, -, -, h5, -⟩ := sk_cls_all k hk
      obtain ⟨cC, iS, h⟩ := u_known hB h2 (hB _ h5)
      exact ⟨(cC, iS), fun _ => h⟩
    · exact ⟨(0, fun _ => 0), fun h => absurd h hk⟩
  obtain ⟨f, hf⟩ := Classical.axiomOfChoice hcl
  -- arrays
  have hobj : ∀ C : String, Jvm.Cond.arrayOver (.object C) ∈ lw_tbl → ∃ cA : ClassId, ArrOfT s cA (.object C) ∧ va_RA s cA (.object C) := by
    intro C hC
    obtain ⟨comp, c, k, h1, h2, h3, h4, h5⟩ := Cond.arrayOver_spec (hts _ hC)
    exact ⟨c, fun N z => ⟨(fun k h => by cases h), k, h3, comp, h4⟩, k, comp, h3, h4, h1, h5⟩
  obtain ⟨c0, hc0⟩ := hobj _ t8
  obtain ⟨c1, hc1⟩ := hobj _ t9
  obtain ⟨c2, hc2⟩ := hobj _ t10
  obtain ⟨c3, hc3⟩ : ∃ cA : ClassId, ArrOfT s cA (.array .int) ∧ va_RA s cA (.array .int) := by
    obtain ⟨comp, c, k, h1, h2, h3, h4, h5⟩ := Jvm.Stand.arrayOver_specB (hts _ t11)
    exact ⟨c, fun N z => ⟨(fun k h => by cases h), k, h3, comp, h4⟩, h5⟩
  obtain ⟨c4, hc4⟩ : ∃ cA : ClassId, ArrOfT s cA .int ∧ va_RA s cA .int := by
    obtain ⟨c, k, comp, h1, h2, h3⟩ := Cond.arrayClass_spec (hts _ t12)
    exact ⟨c, fun N z => ⟨(fun k h => by cases h), k, h2, comp, h3⟩, h1⟩
  have hK : va_K (fun k => (f k).1, fun k => (f k).2) vwCl (sk_tys fun t => match t with | 0 => c0 | 1 => c1 | 2 => c2 | 3 => c3 | _ => c4) s := by
    refine ⟨fun k q hq => ?_, fun k q hq => ?_⟩
    · have hk : k < 12 := (List.getElem?_eq_some_iff.mp hq).1
      have h1 := (sk_cls_all k hk).1
      cases hq.symm.trans h1
      exact hf k hk
    · have hk : k < 5 := (List.getElem?_eq_some_iff.mp hq).1
      match k, hk, hq with
      | 0, _, hq => cases hq; exact hc0
      | 1, _, hq => cases hq; exact hc1
      | 2, _, hq => cases hq; exact hc2
      | 3, _, hq => cases hq; exact hc3
      | 4, _, hq => cases hq; exact hc4
  generalize hD : ((fun k => (f k).1, fun k => (f k).2) : va_G) = D at hK
  generalize hcA : (fun t : Nat => (match t with | 0 => c0 | 1 => c1 | 2 => c2 | 3 => c3 | _ => c4 : ClassId)) = cA at hK
  -- the statics
  have hS1 : sk_S1 s.heap s := by
    obtain ⟨t, ht, hT⟩ := va_Tof (args := #[Value.ref b]) (s := s) (tm := .static "SkylineNester" "KIND_ABOVE" "[I") (ty := .int) (N := 6) (f := fun j => .int (sk_KA j)) (A := fun q : Nat => s.heap.size ≤ q) (by decide) (hs _ (by decide +kernel)) (va_eqt (hs _ (by decide +kernel))) (fun j hj => by
      match j, hj with
      | 0, _ => exact va_eqt (hs _ (by decide +kernel))
      | 1, _ => exact va_eqt (hs _ (by decide +kernel))
      | 2, _ => exact va_eqt (hs _ (by decide +kernel))
      | 3, _ => exact va_eqt (hs _ (by decide +kernel))
      | 4, _ => exact va_eqt (hs _ (by decide +kernel))
      | 5, _ => exact va_eqt (hs _ (by decide +kernel))) hA
    exact ⟨t, va_Zref (hts _ t1) (hts _ t5) ht hA, hT⟩
  have hS2 : sk_S2 s.heap s := by
    obtain ⟨adK, adV, h1, h2⟩ := vk_Sof (args := #[Value.ref b]) (s := s) (N := 1) (tm := fun _ => .string "SkylineNesterModel" 105) (len := [6]) (byt := [[112, 116, 103, 99, 115, 104]]) (A := fun q : Nat => s.heap.size ≤ q) (fun i hi => by
        obtain rfl : i = 0 := by omega
        decide) (fun i hi => hs _ (by decide +kernel)) (fun i hi => hs _ (by decide +kernel)) (fun i hi => hs _ (by decide +kernel)) (fun i hi => by
        obtain rfl : i = 0 := by omega
        exact hs _ (by decide +kernel)) (fun i hi j hj => by
        obtain rfl : i = 0 := by omega
        have hj : j < 6 := hj
        match j, hj with
        | 0, _ => exact hs _ (by decide +kernel)
        | 1, _ => exact hs _ (by decide +kernel)
        | 2, _ => exact hs _ (by decide +kernel)
        | 3, _ => exact hs _ (by decide +kernel)
        | 4, _ => exact hs _ (by decide +kernel)
        | 5, _ => exact hs _ (by decide +kernel)) (fun i j hi hj hij => by omega) hA
    exact ⟨adK, adV, h1, vk_R.of (hts _ t4) (h2 0 (by decide)), va_Zof (hts _ t2) (hts _ t6) (va_eqt (hs _ (by decide +kernel))) hA, va_Zqof (hts _ t3) (hts _ t7) (hs _ (by decide +kernel)) hA⟩
  have hT : sk_Tb sk_nest (sk_Sx s.heap) D cA b (L, xs) s.heap s := by
    refine ⟨hK, fun x hx => ?_, ⟨va_AO.of (hts _ t8), va_AO.of (hts _ t9), va_AO.of (hts _ t10)⟩, hX, hbl, hS1, hS2, hts _ t11⟩
    obtain ⟨o, i, y, h, rfl⟩ := sk_nest_ok x hx
    exact va_Nw.of rfl (hts _ (sk_nest_tbl _ hx))
  have hC : sk_Cx sk_nest (sk_Sx s.heap) D cA b (L, xs) s.heap [.inl (L, xs)] RL meth.name code 4 p s m #[Value.ref b] meth c := ⟨⟨hx, hb, hml, hown, hB⟩, hT, rfl, rfl⟩
  obtain ⟨lsA, he, hlv, hlok⟩ := sk_entry (b := b) (n0 := s.heap.size) (m := m) (as := [.ref 0]) (nL := 4) (Nat.le_of_ble_eq_true rfl) (by simp [Value.category])
  have he : entryFrame m ([Value.ref b] : List Value).toArray 4 = F0 m 0 lsA [] := he
  rw [he]
  have htab : sk_tabOK sk_inf sk_nest RL meth.name code 4 sk_t244 := fun pc i x y z hf => by
    have h1 := List.all_eq_true.mp sk_k244c _ (sk_find_mem sk_t244 pc _ hf)
    unfold sk_chk at h1
    rw [Bool.and_eq_true, decide_eq_true_eq] at h1
    exact ⟨h1.1, (sk_chkI_ok (fun h => absurd h (by decide)) h1.2).1⟩
  have hgood := sk_run_snd (l := l) (e := e) (R := room_1) (below := below) (Q := lw_Z below #[Value.ref b] s) hC sk_nest_ok (sk_Sx_ok s.heap) (sk_multi_rule (fun s h => h.2.2)) (sk_c_OK 20) htab (rz := true) (r := (some (.int 1), w1)) ⟨by decide, by decide, ?_, ?_⟩ ?_ ?_ ?_ n 0 (sk_locs [.ref 0] 4) [] [.inl (L, xs)] hrun
  · have := hgood s.heap [] lsA ⟨[], rfl, fun k q h => by simp [sk_lay] at h, Nat.le_refl _, fun _ _ => rfl⟩ (fun _ h => by cases h) (Nat.le_refl _) (Nat.le_refl _) hlok hlv
    rw [Nat.sub_self, Nat.sub_self] at this
    exact this
  · show w1.length - 1 ≤ 600000
    omega
  · show sk_sz w1 - sk_sz [.inl (L, xs)] ≤ 7302250
    have : sk_sz [(.inl (L, xs) : sk_C)] = L := by simp [sk_sz, sk_csz]
    omega
  · intro pc ls v x y z hf hd hv hz H locs lsA hR1 hL h1 h2 h3 h4
    cases hv
    refine W.base ?_
    refine va_forget (s := s.setDrawn s.drawn) hL ?_
    refine W.widen (k := 600000) (n := 7302250) ?_ ?_ ?_
    · show w1.length - 1 ≤ 600000
      omega
    · show sk_sz w1 - sk_sz [.inl (L, xs)] ≤ 7302250
      have : sk_sz [(.inl (L, xs) : sk_C)] = L := by simp [sk_sz, sk_csz]
      omega
    · exact lw_ret (Drawn.sameBut.refl s.drawn lw_cs) hx hb hr hlocks hd
  · intro pc ls v x y z hf hd hv
    cases hv
  · intro pc ls x y z hf hd hv
    cases hv
