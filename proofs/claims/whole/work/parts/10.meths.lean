/-! ===== methods: what the abstract machine answers, the real one does ===== -/
/-- Met.ofW for a method that no entry runs instead, whatever its kin -/
theorem sk_ofWF {l : Launch} {y : MethodName} {ws ws' : List Jvm.Cond} {rm : Room} {Pc : Array Value → State → Prop} {Qc : Array Value → State → Outcome → State → Prop} {mc ms : Nat} {free : Addr → Prop} {cc : ByteArray} {maxL : Nat} {ret : Option FieldType}
    (hy : plainFor y = true) (hw : ws = Cond.code y cc maxL ret :: ws')
    (body : ∀ p e s m args below meth c s₁, BodyLoose p l y (headSpec ws rm) cc maxL ret e s m args below meth c s₁ → c.maxLocals = maxL → Pc args s →
      W p l e (headSpec ws rm).room s m args below meth c s.heap [] 0 0 (MQ below Qc args s mc ms free) (entryFrame m args maxL)) : Met l y ws rm Pc Qc mc ms free := by
  refine MetFree.of_bodySF (code := cc) (maxLocals := maxL) (ret := ret) hy ?_ ?_
  · intro args s m h hn
    obtain ⟨meth, c, h1, h2, h3, h4, h5, h6, -, -⟩ := Cond.code_spec hn (atoms_spec (ws := ws) h _ (by rw [hw]; exact List.mem_cons_self))
    exact ⟨meth, c, h1, h2, h3, h4, h5, h6⟩
  · intro p e s m args below meth c s₁ B hml hP _
    have hh0 : s₁.heap = s.heap := by rw [B.state]; rfl
    obtain ⟨t, a1, o, b1, b2, b3⟩ := body p e s m args below meth c s₁ B hml hP s₁ hh0 (Stand.of_body B)
    exact ⟨t, o, a1, b1, b2, ⟨b3.1, b3.2⟩⟩
def sk_rz (I : sk_I) : Bool := match I.2.2.2 with
  | some .boolean => true
  | _ => false
def sk_locs (as : List Value) (nL : Nat) : sk_L := as.map some ++ List.replicate (nL - as.length) none
/-- d: how many methods may stand open -/
noncomputable def sk_cal (prim : Nat → Option (List Value → sk_W → Option sk_R)) (inf : Nat → sk_I) (tabs : Nat → List sk_E) : Nat → Nat → List Value → sk_W → Option sk_R
  | 0, _, _, _ => none
  | d + 1, mi, as, w => match prim mi with
    | some f => if 6 ≤ d then f as w else none
    | none => if as.length ≤ (inf mi).2.2.1 ∧ as.all (fun v => v.category == 1) = true then sk_den (sk_cal prim inf tabs d) sk_fields (sk_rz (inf mi)) (tabs mi) 0 (sk_locs as (inf mi).2.2.1) [] w else none
def sk_retOK (ret : Option FieldType) (i : Instr) : Prop := match i with
  | .ireturn => ret = some .int ∨ ret = some .boolean
  | .freturn => ret = some .float
  | .return_ => ret = none
  | _ => True
def sk_mOK (inf : Nat → sk_I) (nest : List Jvm.Cond) (I : sk_I) (tab : List sk_E) : Prop := plainFor I.1 = true ∧ sk_tabOK inf nest I.1.cls I.1.name I.2.1 I.2.2.1 tab ∧ ∀ (pc : Nat) (i : Instr) (x y z : Nat), sk_find tab pc = some (i, x, y, z) → sk_retOK I.2.2.2 i
theorem sk_args_sl : ∀ (vs : List Value), (∀ v ∈ vs, v.category = 1) → (lg_sl vs).length = vs.length
  | [], _ => rfl
  | v :: vs, h => by
    have h1 : ¬ v.category = 2 := by rw [h v List.mem_cons_self]; decide
    have ih := sk_args_sl vs fun u hu => h u (List.mem_cons_of_mem _ hu)
    unfold lg_sl at ih ⊢
    rw [List.flatMap_cons, if_neg h1]
    simp [ih]
theorem sk_args_mem : ∀ (vs : List Value) (i j : Nat) (v : Value), (∀ v ∈ vs, v.category = 1) → vs[j]? = some v → (i + j, v) ∈ lv_args i vs
  | [], _, _, _, _, h => by simp at h
  | u :: vs, i, j, v, hc, h => by
    have h1 : ¬ u.category = 2 := by rw [hc u List.mem_cons_self]; decide
    unfold lv_args
    rw [if_neg h1]
    cases j with
    | zero => simp at h; subst h; exact List.mem_cons_self
    | succ j =>
      simp at h
      have := sk_args_mem vs (i + 1) j v (fun u hu => hc u (List.mem_cons_of_mem _ hu)) h
      rw [show i + (j + 1) = i + 1 + j by omega]
      exact List.mem_cons_of_mem _ this
theorem sk_locs_at {as : List Value} {nL j : Nat} {v : Value} (h : (sk_locs as nL)[j]? = some (some v)) : as[j]? = some v := by
  unfold sk_locs at h
  by_cases hj : j < as.length
  · rw [List.getElem?_append_left (by simpa using hj), List.getElem?_map] at h
    cases ha : as[j]? with
    | none => rw [ha] at h; cases h
    | some u => rw [ha] at h; cases h; rfl
  · rw [List.getElem?_append_right (by simpa using hj), List.getElem?_replicate] at h
    split at h <;> cases h
theorem sk_run_nil {cal : Nat → List Value → sk_W → Option sk_R} {fields : Nat → List Value} {rz : Bool} {n pc : Nat} {ls : sk_L} {st : List Value} {w : sk_W} : sk_run cal fields rz [] n pc ls st w = none := by
  cases n <;> rfl
theorem sk_entry {b n0 nL : Nat} {m : MethodId} {as : List Value} (hlen : as.length ≤ nL) (hcat : ∀ v ∈ as, v.category = 1) : ∃ lsA : Array Slot, entryFrame m (as.map (sk_tr b n0)).toArray nL = F0 m 0 lsA [] ∧ lv_has lsA nL (sk_lv b n0 0 (sk_locs as nL)) ∧ sk_lok nL (sk_locs as nL) := by
  have hc2 : ∀ v ∈ as.map (sk_tr b n0), v.category = 1 := fun v hv => by
    obtain ⟨u, hu, rfl⟩ := List.mem_map.mp hv
    rw [sk_tr_cat]
    exact hcat u hu
  have hl := lv_entry (as.map (sk_tr b n0)) (n := nL) (by rw [sk_args_sl _ hc2, List.length_map]; exact hlen)
  refine ⟨_, lg_entry_eq m (as.map (sk_tr b n0)) nL, ⟨hl.1, hl.2.1, fun q hq => hl.2.2 q ?_⟩, ?_, fun v hv => ?_⟩
  · obtain ⟨j, v, h1, rfl⟩ := sk_lv_mem.mp hq
    have h2 := sk_locs_at h1
    exact sk_args_mem _ 0 j _ hc2 (by rw [List.getElem?_map, h2]; rfl)
  · simp [sk_locs]; omega
  · unfold sk_locs at hv
    rcases List.mem_append.mp hv with h | h
    · obtain ⟨u, hu, e⟩ := List.mem_map.mp h
      cases e
      exact hcat _ hu
    · obtain ⟨-, e⟩ := List.mem_replicate.mp h
      cases e
theorem sk_cal_OK {l : Launch} {nest : List Jvm.Cond} {Sx : State → Prop} {D : va_G} {cA : Nat → ClassId} {b : Nat} {X : Nat × (Nat → Int32)} {H0 : Heap} (hn : sk_nestOK nest) (hsx : sk_SxOK Sx) (hmul : sk_multiOK Sx) {prim : Nat → Option (List Value → sk_W → Option sk_R)} {inf : Nat → sk_I} {tabs : Nat → List sk_E}
    (hm : ∀ mi : Nat, prim mi = none → tabs mi = [] ∨ sk_mOK inf nest (inf mi) (tabs mi))
    (hp : ∀ (mi : Nat) (f : List Value → sk_W → Option sk_R), prim mi = some f → ∀ (d : Nat) (as : List Value) (w : sk_W) (r : sk_R), 6 ≤ d → f as w = some r → sk_Met l nest Sx D cA b X H0 (inf mi).1 (inf mi).2.1 (inf mi).2.2.1 (inf mi).2.2.2 (d + 1) as w r.1 r.2 ∧ w.length ≤ r.2.length ∧ sk_sz w ≤ sk_sz r.2) :
    ∀ d : Nat, sk_calOK l nest Sx D cA b X H0 inf d (sk_cal prim inf tabs d) := by
  intro d
  induction d with
  | zero => intro mi as w r h; cases h
  | succ d ih =>
    intro mi as w r h
    unfold sk_cal at h
    split at h
    · next f hf =>
      split at h
      · next hd => exact hp mi f hf d as w r hd h
      · cases h
    · next hf =>
      split at h
      · next hc =>
        obtain ⟨hlen, hall⟩ := hc
        have hcat : ∀ v ∈ as, v.category = 1 := fun v hv => by simpa using List.all_eq_true.mp hall v hv
        obtain ⟨n, hrun⟩ := sk_den_ex _ _ _ _ h
        have hg := sk_run_gr (fun mi as w r h => (ih mi as w r h).2) _ _ _ _ _ _ hrun
        refine ⟨?_, hg⟩
        rcases hm mi hf with h0 | ⟨hpl, htab, hret⟩
        · rw [h0, sk_run_nil] at hrun
          cases hrun
        refine sk_ofWF (cc := (inf mi).2.1) (maxL := (inf mi).2.2.1) (ret := (inf mi).2.2.2) hpl rfl ?_
        intro p e s m args below meth c s₁ B hml hv
        obtain ⟨rfl, hR, hsize, hT⟩ := hv
        have hx := B.exec
        have hb := B.bytes
        have hr := B.returns
        have hts := atoms_spec (ws := Cond.code (inf mi).1 (inf mi).2.1 (inf mi).2.2.1 (inf mi).2.2.2 :: sk_B) B.pre
        have hown : s.vm.findClass (inf mi).1.cls = some m.cls := findClass_of_methodNamed B.named
        have hlocks := B.notSynchronized
        have hin : meth.name = (inf mi).1.name := (name_of_methodNamed B.named B.method).1
        have hC : sk_Cx nest Sx D cA b X H0 w (inf mi).1.cls (inf mi).1.name (inf mi).2.1 (inf mi).2.2.1 p s m (as.map (sk_tr b H0.size)).toArray meth c := ⟨⟨hx, hb, hml, hown, fun w hw => hts w (List.mem_cons_of_mem _ hw)⟩, hT, hsize, hin⟩
        obtain ⟨lsA, he, hlv, hlok⟩ := sk_entry (b := b) (n0 := H0.size) (m := m) hlen hcat
        rw [he]
        have hgood := sk_run_snd (l := l) (e := e) (R := { frames := d + 1, cells := r.2.length - w.length, slots := sk_sz r.2 - sk_sz w, locals := 80 * (d + 1) }) (below := below) (Q := MQ below (sk_Qc D cA b X H0 r.1 r.2) (as.map (sk_tr b H0.size)).toArray s (r.2.length - w.length) (sk_sz r.2 - sk_sz w) (fun q => H0.size ≤ q)) hC hn hsx hmul ih htab (rz := sk_rz (inf mi)) (r := r) ⟨Nat.le_refl _, Nat.le_refl _, Nat.le_refl _, Nat.le_refl _⟩ ?_ ?_ ?_ n 0 (sk_locs as (inf mi).2.2.1) [] w hrun
        · have := hgood s.heap [] lsA hR (fun _ h => by cases h) (Nat.le_refl _) (Nat.le_refl _) hlok hlv
          rw [Nat.sub_self, Nat.sub_self] at this
          exact this
        · intro pc ls v x y z hf hd hrv hz H locs lsA hR1 hL h1 h2 h3 h4
          have hq : ∀ t : State, t.heap = H → s.WarmedH t.vm → sk_Qc D cA b X H0 r.1 r.2 (as.map (sk_tr b H0.size)).toArray s (.returned (some (.int v))) t := fun t ht _ => ⟨by rw [hrv]; rfl, by rw [ht]; exact hR1⟩
          have hro : (inf mi).2.2.2 = some .int ∨ (inf mi).2.2.2 = some .boolean := hret pc _ _ _ _ hf
          rcases hro with hro | hro
          · exact W.iret hx hb (hr.trans hro) hq hL hd
          · refine W.zret hx hb (hr.trans hro) ?_ hq hL hd
            rcases hz (by unfold sk_rz; rw [hro]) with rfl | rfl <;> rfl
        · intro pc ls v x y z hf hd hrv H locs lsA hR1 hL h1 h2 h3 h4
          have hro : (inf mi).2.2.2 = some .float := hret pc _ _ _ _ hf
          exact W.fret hx hb (hr.trans hro) (fun t ht _ => ⟨by rw [hrv]; rfl, by rw [ht]; exact hR1⟩) hL hd
        · intro pc ls x y z hf hd hrv H locs lsA hR1 hL h1 h2 h3 h4
          have hro : (inf mi).2.2.2 = none := hret pc _ _ _ _ hf
          exact W.vret hx hb (hr.trans hro) (fun t ht _ => ⟨by rw [hrv]; rfl, by rw [ht]; exact hR1⟩) hL hd
      · cases h
