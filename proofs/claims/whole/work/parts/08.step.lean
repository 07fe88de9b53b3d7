/-! ===== one instruction ===== -/
theorem sk_ldcwf {p : Program} {l : Launch} {e : Env} {R : Room} {s : State} {m : MethodId} {args : Array Value} {below : List Frame} {meth : Method} {c : Code} {H : Heap} {locs : List Loc} {cells slots : Nat} {Q : State → Prop} {cc : ByteArray} {pc : Nat} {ls : Array Slot} {rest : List Value} (hexec : p.tables.exec = Jvm.exec) (hb : c.code = cc) {own : String} {index : Nat} {v : UInt32} (hown : s.vm.findClass own = some m.cls) (hconst : (Jvm.Cond.constantFloat own index v).before args s = true) (hdg : decode cc pc = .ok (.ldc_w index, 3)) (k : W p l e R s m args below meth c H locs cells slots Q (F0 m (pc + 3) ls (.float v :: rest))) : W p l e R s m args below meth c H locs cells slots Q (F0 m pc ls rest) := by
  intro T hT X
  obtain ⟨t, a, b⟩ := k T hT X
  refine ⟨t, ?_, b⟩
  obtain ⟨k, cf, hk, hcf, hcp⟩ := Cond.constantFloat_spec hown hconst
  obtain ⟨k', hk', he⟩ := X.warmed.alike.2.2 _ _ hk
  have hdg' : decode c.code (F0 m pc ls rest).pc = .ok (.ldc_w index, 3) := by rw [hb]; exact hdg
  jvm_step X.here [hexec, hdg', ldc_w.wp_float (s := T) (f := F0 m pc ls rest) X.here.top hk' (by rw [he]; exact hcf) hcp]
  exact a
def sk_tagN : Nat → String
  | 0 => RX3
  | 1 => RX5
  | _ => RX7
theorem sk_tag {cA : Nat → ClassId} {t0 : Nat} (h : t0 < 3) : (sk_tys cA)[t0]? = some (cA t0, .object (sk_tagN t0)) := by
  rcases (show t0 = 0 ∨ t0 = 1 ∨ t0 = 2 by omega) with rfl | rfl | rfl <;> rfl
abbrev sk_I : Type := MethodName × ByteArray × Nat × Option FieldType
def sk_bits : MethodName := ⟨"java/lang/Float", "floatToRawIntBits", "(F)I"⟩
/-- how many bytes an instruction takes (a switch: z says it) -/
def sk_ilen : Instr → Nat → Nat
  | .bipush _, _ | .ldc _, _ | .iload _, _ | .fload _, _ | .aload _, _ | .istore _, _ | .fstore _, _ | .astore _, _ | .newarray _, _ => 2
  | .sipush _, _ | .ldc_w _, _ | .iinc _ _, _ | .goto _, _ | .ifCond _ _, _ | .if_icmp _ _, _ | .getfield _, _ | .putfield _, _ | .new _, _ | .anewarray _, _ | .invokevirtual _, _ | .invokespecial _, _ | .invokestatic _, _ => 3
  | .multianewarray _ _, _ => 4
  | .tableswitch _ _ _ _, z => z
  | _, _ => 1
/-- what the tables must say of an instruction -/
def sk_okI (inf : Nat → sk_I) (nest : List Jvm.Cond) (own nm : String) (nL : Nat) (i : Instr) (x y z pc : Nat) : Prop := match i with
  | .istore_n n => n.val < nL
  | .fstore_n n => n.val < nL
  | .astore_n n => n.val < nL
  | .istore n => n < nL
  | .fstore n => n < nL
  | .astore n => n < nL
  | .iinc n _ => n < nL
  | .goto o => (pc : Int) + o = (x : Int)
  | .ifCond _ o => (pc : Int) + o = (x : Int)
  | .if_icmp _ o => (pc : Int) + o = (x : Int)
  | .tableswitch d lo hi offs => 0 ≤ (pc : Int) + d ∧ (∀ o ∈ offs.toList, 0 ≤ (pc : Int) + o) ∧ hi + 1 = lo + offs.size
  | .ldc idx => Jvm.Cond.constant own idx (Int32.ofNat x) ∈ sk_B
  | .ldc_w idx => if y = 0 then Jvm.Cond.constant own idx (Int32.ofNat x) ∈ sk_B else Jvm.Cond.constantFloat own idx (UInt32.ofNat x) ∈ sk_B
  | .getfield idx => sk_fieldOK own idx x y
  | .putfield idx => sk_putOK own nm idx x y z
  | .aastore => sk_cls y ∧ x < 3 ∧ sk_tagN x = (sk_q y).1
  | .new idx => sk_cls x ∧ Jvm.Cond.classLink own idx (sk_q x).1 ∈ sk_B
  | .newarray t => t = .int ∧ Jvm.Cond.arrayClass .int ∈ sk_B
  | .anewarray idx => x < 3 ∧ Jvm.Cond.classLink own idx (sk_tagN x) ∈ sk_B
  | .multianewarray idx dm => dm = 2 ∧ Jvm.Cond.classLink own idx "[[I" ∈ sk_B ∧ Jvm.Cond.arrayClass .int ∈ sk_B
  | .invokevirtual idx => sk_callee (inf x).1 (inf x).2.1 (inf x).2.2.1 (inf x).2.2.2 y ∧ (Jvm.Cond.methodLink own idx (inf x).1 ∈ sk_B ∧ Jvm.Cond.instanceMethod (inf x).1 ∈ sk_B ∧ Jvm.Cond.selects (inf x).1.cls (inf x).1 (inf x).1 ∈ sk_B) ∧ sk_cls (z / 4) ∧ (sk_q (z / 4)).1 = (inf x).1.cls
  | .invokespecial idx => if x = 0 then Jvm.Cond.methodLink own idx objectInit ∈ sk_B ∧ Jvm.Cond.instanceMethod objectInit ∈ sk_B ∧ Jvm.Cond.code objectInit ⟨#[0xb1]⟩ 1 none ∈ sk_B
      else sk_callee (inf x).1 (inf x).2.1 (inf x).2.2.1 (inf x).2.2.2 y ∧ (inf x).2.2.2 = none ∧ (inf x).1.name = "<init>" ∧ Jvm.Cond.instanceMethod (inf x).1 ∈ sk_B ∧ (Jvm.Cond.methodLink own idx (inf x).1 ∈ sk_B ∨ ∃ host : String, Jvm.Cond.methodLinkNest own idx (inf x).1 host ∈ nest)
  | .invokestatic idx => if x = 0 then (if y = 5 then Jvm.Cond.methodLink own idx arraycopyName ∈ sk_B ∧ Jvm.Cond.native arraycopyName ∈ sk_B ∧ Jvm.Cond.static arraycopyName ∈ sk_B ∧ Jvm.Cond.initialized "java/lang/System" ∈ sk_B
        else Jvm.Cond.methodLink own idx sk_bits ∈ sk_B ∧ Jvm.Cond.native sk_bits ∈ sk_B ∧ Jvm.Cond.static sk_bits ∈ sk_B ∧ Jvm.Cond.initialized "java/lang/Float" ∈ sk_B)
      else sk_callee (inf x).1 (inf x).2.1 (inf x).2.2.1 (inf x).2.2.2 y ∧ Jvm.Cond.static (inf x).1 ∈ sk_B ∧ (Jvm.Cond.methodLink own idx (inf x).1 ∈ sk_B ∨ ∃ host : String, Jvm.Cond.methodLinkNest own idx (inf x).1 host ∈ nest)
  | _ => True
/-- the callees at depth d, in the state s: their runs are contracts, and worlds grow -/
def sk_calOK (l : Launch) (nest : List Jvm.Cond) (Sx : State → Prop) (D : va_G) (cA : Nat → ClassId) (b : Nat) (X : Nat × (Nat → Int32)) (H0 : Heap) (inf : Nat → sk_I) (d : Nat) (cal : Nat → List Value → sk_W → Option sk_R) : Prop :=
  ∀ (mi : Nat) (as : List Value) (w : sk_W) (r : sk_R), cal mi as w = some r → sk_Met l nest Sx D cA b X H0 (inf mi).1 (inf mi).2.1 (inf mi).2.2.1 (inf mi).2.2.2 d as w r.1 r.2 ∧ w.length ≤ r.2.length ∧ sk_sz w ≤ sk_sz r.2
theorem sk_push_spec {z : Nat} {o : Option sk_R} {k : List Value → sk_W → Option sk_R} {r : sk_R} (h : sk_push z o k = some r) : ∃ (v : Option Value) (w1 : sk_W), o = some (v, w1) ∧ k v.toList w1 = some r := by
  unfold sk_push at h
  rcases o with _ | ⟨_ | v, w⟩
  · split at h <;> cases h
  · split at h
    · exact ⟨none, w, rfl, h⟩
    · cases h
    · cases h
  · cases v <;> split at h <;> first | (cases h; done) | exact ⟨some _, w, rfl, h⟩
theorem sk_sw_spec {v : Int32} {pc d : Int} {k : Nat → Option sk_R} {r : sk_R} : ∀ (os : List Int) (lo : Int), sk_sw v pc d k lo os = some r → (∃ (j : Nat) (o : Int), os[j]? = some o ∧ v.toInt = lo + j ∧ k (pc + o).toNat = some r) ∨ ((v.toInt < lo ∨ lo + os.length ≤ v.toInt) ∧ k (pc + d).toNat = some r)
  | [], lo, h => Or.inr ⟨by simp; omega, h⟩
  | o :: os, lo, h => by
    unfold sk_sw at h
    split at h
    · next hv => exact Or.inl ⟨0, o, rfl, by omega, h⟩
    · next hv =>
      rcases sk_sw_spec os (lo + 1) h with ⟨j, o', h1, h2, h3⟩ | ⟨h1, h2⟩
      · exact Or.inl ⟨j + 1, o', h1, by omega, h3⟩
      · exact Or.inr ⟨by simp; omega, h2⟩
theorem sk_up_ok {b n0 nL k : Nat} {ls : sk_L} {v : Value} (h3 : sk_lok nL ls) (hv : v.category = 1) {ls' : Array Slot} (h' : lv_has ls' nL ((k, sk_tr b n0 v) :: (sk_lv b n0 0 ls).filter (fun q => !(q.1 == k) && !(q.1 + 1 == k && q.2.category == 2)))) : sk_lok nL (sk_up ls k v) ∧ lv_has ls' nL (sk_lv b n0 0 (sk_up ls k v)) := ⟨h3.up k hv, sk_lv_up h3 h'⟩
set_option maxHeartbeats 8000000 in
theorem sk_snd {p : Program} {l : Launch} {e : Env} {R : Room} {s : State} {m : MethodId} {args : Array Value} {below : List Frame} {meth : Method} {c : Code} {Q : State → Prop} {nest : List Jvm.Cond} {Sx : State → Prop} {D : va_G} {cA : Nat → ClassId} {b : Nat} {X : Nat × (Nat → Int32)} {H0 : Heap} {w0 : sk_W} {own nm : String} {cc : ByteArray} {nL : Nat} (hC : sk_Cx nest Sx D cA b X H0 w0 own nm cc nL p s m args meth c) (hn : sk_nestOK nest) (hsx : sk_SxOK Sx)
    {inf : Nat → sk_I} {d : Nat} {cal : Nat → List Value → sk_W → Option sk_R} (hcal : sk_calOK l nest Sx D cA b X H0 inf d cal) {rz : Bool} {i : Instr} {x y z pc : Nat} {ls : sk_L} {st : List Value} {w : sk_W} {k : sk_K} {r : sk_R}
    (hd : decode cc pc = .ok (i, sk_ilen i z)) (hO : sk_okI inf nest own nm nL i x y z pc) (h : sk_step cal sk_fields rz i x y z pc ls st w k = some r)
    (hgr : ∀ (pc' : Nat) (ls' : sk_L) (st' : List Value) (w1 : sk_W), k pc' ls' st' w1 = some r → w1.length ≤ r.2.length ∧ sk_sz w1 ≤ sk_sz r.2)
    (hRm : d + 1 ≤ R.frames ∧ 80 * (d + 1) ≤ R.locals ∧ r.2.length - w0.length ≤ R.cells ∧ sk_sz r.2 - sk_sz w0 ≤ R.slots)
    (hmul : ∀ (idx : Nat) (n j : Int32) (st : List Value), i = .multianewarray idx 2 → ¬ n < 0 ∧ ¬ j < 0 ∧ n.toNatClampNeg ≤ 1000 ∧ j.toNatClampNeg ≤ 100000 → Jvm.Cond.classLink own idx "[[I" ∈ sk_B → Jvm.Cond.arrayClass .int ∈ sk_B →
      w.length + (1 + n.toNatClampNeg) - w0.length ≤ R.cells ∧ sk_sz w + (n.toNatClampNeg + n.toNatClampNeg * j.toNatClampNeg) - sk_sz w0 ≤ R.slots →
      sk_Good p l e R s m args below meth c Q D cA b X H0 w0 nL (pc + 4) ls (.ref w.length :: st) (w ++ .inr (.inl (3, n.toNatClampNeg, fun q => if q < n.toNatClampNeg then some (w.length + 1 + q) else none)) :: List.replicate n.toNatClampNeg (.inl (j.toNatClampNeg, fun _ => 0))) → sk_Good p l e R s m args below meth c Q D cA b X H0 w0 nL pc ls (.int j :: .int n :: st) w)
    (hir : ∀ v : Int32, i = .ireturn → r = (some (.int v), w) → (rz = true → v = 0 ∨ v = 1) → sk_Good p l e R s m args below meth c Q D cA b X H0 w0 nL pc ls [.int v] w) (hfr : ∀ v : UInt32, i = .freturn → r = (some (.float v), w) → sk_Good p l e R s m args below meth c Q D cA b X H0 w0 nL pc ls [.float v] w) (hvr : i = .return_ → r = (none, w) → sk_Good p l e R s m args below meth c Q D cA b X H0 w0 nL pc ls [] w)
    (hk : ∀ (pc' : Nat) (ls' : sk_L) (st' : List Value) (w1 : sk_W), k pc' ls' st' w1 = some r → sk_Good p l e R s m args below meth c Q D cA b X H0 w0 nL pc' ls' st' w1) : sk_Good p l e R s m args below meth c Q D cA b X H0 w0 nL pc ls st w := by
  have hC0 := hC
  obtain ⟨⟨hx, hb, hml, hown, hts⟩, ⟨hK, hN, hAO, hX, hbl, hSx⟩, hsz, hnm⟩ := hC
  cases i
  case iconst n =>
    intro H locs lsA hR hL h1 h2 h3 h4
    exact lv_iconst hx hb hd rfl (hk _ _ _ _ h H locs lsA hR hL h1 h2 h3 h4)
  case bipush n =>
    intro H locs lsA hR hL h1 h2 h3 h4
    exact lv_bipush hx hb hd rfl (hk _ _ _ _ h H locs lsA hR hL h1 h2 h3 h4)
  case sipush n =>
    intro H locs lsA hR hL h1 h2 h3 h4
    exact lv_sipush hx hb hd rfl (hk _ _ _ _ h H locs lsA hR hL h1 h2 h3 h4)
  case ldc idx =>
    intro H locs lsA hR hL h1 h2 h3 h4
    exact lv_ldc hx hb hown (hts _ hO) hd (hk _ _ _ _ h H locs lsA hR hL h1 h2 h3 h4)
  case ldc_w idx =>
    unfold sk_step at h
    dsimp only at h
    unfold sk_okI at hO
    dsimp only at hO
    split at h
    · next hy =>
      rw [if_pos hy] at hO
      intro H locs lsA hR hL h1 h2 h3 h4
      exact lv_ldcw hx hb hown (hts _ hO) hd (hk _ _ _ _ h H locs lsA hR hL h1 h2 h3 h4)
    · next hy =>
      rw [if_neg hy] at hO
      intro H locs lsA hR hL h1 h2 h3 h4
      exact sk_ldcwf hx hb hown (hts _ hO) hd (hk _ _ _ _ h H locs lsA hR hL h1 h2 h3 h4)
  case fconst n =>
    intro H locs lsA hR hL h1 h2 h3 h4
    have h : k (pc + 1) ls (.float (if n = 0 then FP.fconst0 else if n = 1 then FP.fconst1 else FP.fconst2) :: st) w = some r := h
    rcases (show n = 0 ∨ n = 1 ∨ n = 2 by omega) with rfl | rfl | rfl
    · exact lv_fconst0 hx hb hd (hk _ _ _ _ h H locs lsA hR hL h1 h2 h3 h4)
    · exact lv_fconst1 hx hb hd (hk _ _ _ _ h H locs lsA hR hL h1 h2 h3 h4)
    · exact lv_fconst2 hx hb hd (hk _ _ _ _ h H locs lsA hR hL h1 h2 h3 h4)
  case iload_n n =>
    unfold sk_step at h
    dsimp only at h
    split at h
    · next v hv =>
      intro H locs lsA hR hL h1 h2 h3 h4
      exact lv_iload_n hx hb hd rfl (sk_lv_at h4 hv) (hk _ _ _ _ h H locs lsA hR hL h1 h2 h3 h4)
    · cases h
  case iload n =>
    unfold sk_step at h
    dsimp only at h
    split at h
    · next v hv =>
      intro H locs lsA hR hL h1 h2 h3 h4
      exact lv_iload hx hb hd (sk_lv_at h4 hv) (hk _ _ _ _ h H locs lsA hR hL h1 h2 h3 h4)
    · cases h
  case istore_n n =>
    unfold sk_step at h
    dsimp only at h
    split at h
    · next v st' =>
      intro H locs lsA hR hL h1 h2 h3 h4
      exact lv_istore_n hx hb hd rfl h4 hO rfl (fun ls' h' => hk _ _ _ _ h H locs ls' hR hL h1 h2 (sk_up_ok h3 rfl h').1 (sk_up_ok (v := .int v) h3 rfl h').2)
    · cases h
  case istore n =>
    unfold sk_step at h
    dsimp only at h
    split at h
    · next v st' =>
      intro H locs lsA hR hL h1 h2 h3 h4
      exact lv_istore hx hb hd h4 hO rfl (fun ls' h' => hk _ _ _ _ h H locs ls' hR hL h1 h2 (sk_up_ok h3 rfl h').1 (sk_up_ok (v := .int v) h3 rfl h').2)
    · cases h
  case fload_n n =>
    unfold sk_step at h
    dsimp only at h
    split at h
    · next v hv =>
      intro H locs lsA hR hL h1 h2 h3 h4
      exact lv_fload_n hx hb hd rfl (sk_lv_at h4 hv) (hk _ _ _ _ h H locs lsA hR hL h1 h2 h3 h4)
    · cases h
  case fload n =>
    unfold sk_step at h
    dsimp only at h
    split at h
    · next v hv =>
      intro H locs lsA hR hL h1 h2 h3 h4
      exact lv_fload hx hb hd (sk_lv_at h4 hv) (hk _ _ _ _ h H locs lsA hR hL h1 h2 h3 h4)
    · cases h
  case fstore_n n =>
    unfold sk_step at h
    dsimp only at h
    split at h
    · next v st' =>
      intro H locs lsA hR hL h1 h2 h3 h4
      exact lv_fstore_n hx hb hd rfl h4 hO rfl (fun ls' h' => hk _ _ _ _ h H locs ls' hR hL h1 h2 (sk_up_ok h3 rfl h').1 (sk_up_ok (v := .float v) h3 rfl h').2)
    · cases h
  case fstore n =>
    unfold sk_step at h
    dsimp only at h
    split at h
    · next v st' =>
      intro H locs lsA hR hL h1 h2 h3 h4
      exact lv_fstore hx hb hd h4 hO rfl (fun ls' h' => hk _ _ _ _ h H locs ls' hR hL h1 h2 (sk_up_ok h3 rfl h').1 (sk_up_ok (v := .float v) h3 rfl h').2)
    · cases h
  case aload_n n =>
    unfold sk_step at h
    dsimp only at h
    split at h
    · next v hv =>
      intro H locs lsA hR hL h1 h2 h3 h4
      exact lv_aload_n hx hb hd rfl (sk_lv_at h4 hv) (hk _ _ _ _ h H locs lsA hR hL h1 h2 h3 h4)
    · cases h
  case aload n =>
    unfold sk_step at h
    dsimp only at h
    split at h
    · next v hv =>
      intro H locs lsA hR hL h1 h2 h3 h4
      exact lv_aload hx hb hd (sk_lv_at h4 hv) (hk _ _ _ _ h H locs lsA hR hL h1 h2 h3 h4)
    · cases h
  case astore_n n =>
    unfold sk_step at h
    dsimp only at h
    split at h
    · next v st' =>
      intro H locs lsA hR hL h1 h2 h3 h4
      exact lv_astore_n hx hb hd rfl h4 hO rfl (fun ls' h' => hk _ _ _ _ h H locs ls' hR hL h1 h2 (sk_up_ok h3 rfl h').1 (sk_up_ok (v := .ref v) h3 rfl h').2)
    · cases h
  case astore n =>
    unfold sk_step at h
    dsimp only at h
    split at h
    · next v st' =>
      intro H locs lsA hR hL h1 h2 h3 h4
      exact lv_astore hx hb hd h4 hO rfl (fun ls' h' => hk _ _ _ _ h H locs ls' hR hL h1 h2 (sk_up_ok h3 rfl h').1 (sk_up_ok (v := .ref v) h3 rfl h').2)
    · cases h
  case iinc n cst =>
    unfold sk_step at h
    dsimp only at h
    split at h
    · next v hv =>
      intro H locs lsA hR hL h1 h2 h3 h4
      obtain ⟨q, hq⟩ := List.getElem?_of_mem (sk_lv_mem.mpr ⟨n, .int v, (sk_at_get _ _ _).mp hv, rfl⟩ : (0 + n, sk_tr b H0.size (.int v)) ∈ sk_lv b H0.size 0 ls)
      rw [Nat.zero_add] at hq
      exact lv_iinc hx hb hd h4 hq rfl hO rfl (fun ls' h' => hk _ _ _ _ h H locs ls' hR hL h1 h2 (sk_up_ok h3 rfl h').1 (sk_up_ok (v := .int _) h3 rfl h').2)
    · cases h
  case iadd =>
    unfold sk_step at h
    dsimp only at h
    split at h
    · next u v st' =>
      intro H locs lsA hR hL h1 h2 h3 h4
      exact lv_iadd hx hb hd (hk _ _ _ _ h H locs lsA hR hL h1 h2 h3 h4)
    · cases h
  case isub =>
    unfold sk_step at h
    dsimp only at h
    split at h
    · next u v st' =>
      intro H locs lsA hR hL h1 h2 h3 h4
      exact lv_isub hx hb hd (hk _ _ _ _ h H locs lsA hR hL h1 h2 h3 h4)
    · cases h
  case imul =>
    unfold sk_step at h
    dsimp only at h
    split at h
    · next u v st' =>
      intro H locs lsA hR hL h1 h2 h3 h4
      exact lv_imul hx hb hd (hk _ _ _ _ h H locs lsA hR hL h1 h2 h3 h4)
    · cases h
  case iand =>
    unfold sk_step at h
    dsimp only at h
    split at h
    · next u v st' =>
      intro H locs lsA hR hL h1 h2 h3 h4
      exact lv_iand hx hb hd (hk _ _ _ _ h H locs lsA hR hL h1 h2 h3 h4)
    · cases h
  case ior =>
    unfold sk_step at h
    dsimp only at h
    split at h
    · next u v st' =>
      intro H locs lsA hR hL h1 h2 h3 h4
      exact lv_ior hx hb hd (hk _ _ _ _ h H locs lsA hR hL h1 h2 h3 h4)
    · cases h
  case ishl =>
    unfold sk_step at h
    dsimp only at h
    split at h
    · next u v st' =>
      intro H locs lsA hR hL h1 h2 h3 h4
      exact lv_ishl hx hb hd (hk _ _ _ _ h H locs lsA hR hL h1 h2 h3 h4)
    · cases h
  case ineg =>
    unfold sk_step at h
    dsimp only at h
    split at h
    · next u st' =>
      intro H locs lsA hR hL h1 h2 h3 h4
      exact lv_ineg hx hb hd (hk _ _ _ _ h H locs lsA hR hL h1 h2 h3 h4)
    · cases h
  case i2f =>
    unfold sk_step at h
    dsimp only at h
    split at h
    · next u st' =>
      intro H locs lsA hR hL h1 h2 h3 h4
      exact lv_i2f hx hb hd (hk _ _ _ _ h H locs lsA hR hL h1 h2 h3 h4)
    · cases h
  case f2i =>
    unfold sk_step at h
    dsimp only at h
    split at h
    · next u st' =>
      intro H locs lsA hR hL h1 h2 h3 h4
      exact lv_f2i hx hb hd (hk _ _ _ _ h H locs lsA hR hL h1 h2 h3 h4)
    · cases h
  case iushr =>
    unfold sk_step at h
    dsimp only at h
    split at h
    · next u v st' =>
      intro H locs lsA hR hL h1 h2 h3 h4
      exact lv_iushr hx hb hd rfl (hk _ _ _ _ h H locs lsA hR hL h1 h2 h3 h4)
    · cases h
  case i2s =>
    unfold sk_step at h
    dsimp only at h
    split at h
    · next u st' =>
      intro H locs lsA hR hL h1 h2 h3 h4
      exact lv_i2s hx hb hd rfl (hk _ _ _ _ h H locs lsA hR hL h1 h2 h3 h4)
    · cases h
  case fcmp op =>
    unfold sk_step at h
    dsimp only at h
    split at h
    · next u v st' =>
      intro H locs lsA hR hL h1 h2 h3 h4
      exact lv_fcmp hx hb hd (hk _ _ _ _ h H locs lsA hR hL h1 h2 h3 h4)
    · cases h
  case idiv =>
    unfold sk_step at h
    dsimp only at h
    split at h
    · next u v st' =>
      split at h
      · cases h
      · next hq =>
        intro H locs lsA hR hL h1 h2 h3 h4
        exact lv_idiv hx hb hd hq (hk _ _ _ _ h H locs lsA hR hL h1 h2 h3 h4)
    · cases h
  case irem =>
    unfold sk_step at h
    dsimp only at h
    split at h
    · next u v st' =>
      split at h
      · cases h
      · next hq =>
        intro H locs lsA hR hL h1 h2 h3 h4
        exact lv_irem hx hb hd hq (hk _ _ _ _ h H locs lsA hR hL h1 h2 h3 h4)
    · cases h
  case fadd =>
    unfold sk_step at h
    dsimp only at h
    split at h
    · next u v st' =>
      split at h
      · next hq =>
        intro H locs lsA hR hL h1 h2 h3 h4
        exact lv_fadd hx hb hd hq (hk _ _ _ _ h H locs lsA hR hL h1 h2 h3 h4)
      · cases h
    · cases h
  case fsub =>
    unfold sk_step at h
    dsimp only at h
    split at h
    · next u v st' =>
      split at h
      · next hq =>
        intro H locs lsA hR hL h1 h2 h3 h4
        exact lv_fsub hx hb hd hq (hk _ _ _ _ h H locs lsA hR hL h1 h2 h3 h4)
      · cases h
    · cases h
  case fmul =>
    unfold sk_step at h
    dsimp only at h
    split at h
    · next u v st' =>
      split at h
      · next hq =>
        intro H locs lsA hR hL h1 h2 h3 h4
        exact lv_fmul hx hb hd hq (hk _ _ _ _ h H locs lsA hR hL h1 h2 h3 h4)
      · cases h
    · cases h
  case fdiv =>
    unfold sk_step at h
    dsimp only at h
    split at h
    · next u v st' =>
      split at h
      · next hq =>
        intro H locs lsA hR hL h1 h2 h3 h4
        exact lv_fdiv hx hb hd hq (hk _ _ _ _ h H locs lsA hR hL h1 h2 h3 h4)
      · cases h
    · cases h
  case dup =>
    unfold sk_step at h
    dsimp only at h
    split at h
    · next v st' =>
      intro H locs lsA hR hL h1 h2 h3 h4
      exact lv_dup hx hb hd rfl (hk _ _ _ _ h H locs lsA hR hL h1 h2 h3 h4)
    · next v st' =>
      intro H locs lsA hR hL h1 h2 h3 h4
      exact lv_dup hx hb hd rfl (hk _ _ _ _ h H locs lsA hR hL h1 h2 h3 h4)
    · cases h
  case dup2 =>
    unfold sk_step at h
    dsimp only at h
    split at h
    · next u v st' =>
      intro H locs lsA hR hL h1 h2 h3 h4
      exact lv_dup2_11 hx hb hd rfl rfl (hk _ _ _ _ h H locs lsA hR hL h1 h2 h3 h4)
    · cases h
  case pop =>
    unfold sk_step at h
    dsimp only at h
    split at h
    · next v st' =>
      intro H locs lsA hR hL h1 h2 h3 h4
      exact lv_pop hx hb hd rfl (hk _ _ _ _ h H locs lsA hR hL h1 h2 h3 h4)
    · cases h
  case goto o =>
    intro H locs lsA hR hL h1 h2 h3 h4
    exact lv_goto hx hb hd hO (hk _ _ _ _ h H locs lsA hR hL h1 h2 h3 h4)
  case ifCond cnd o =>
    unfold sk_step at h
    dsimp only at h
    split at h
    · next v st' =>
      intro H locs lsA hR hL h1 h2 h3 h4
      cases cnd
      case eq =>
        refine lv_if_eq hx hb hd hO (fun hc => ?_) (fun hc => ?_)
        · rw [if_pos (by simpa [sk_cond] using hc)] at h
          exact hk _ _ _ _ h H locs lsA hR hL h1 h2 h3 h4
        · rw [if_neg (by simpa [sk_cond] using hc)] at h
          exact hk _ _ _ _ h H locs lsA hR hL h1 h2 h3 h4
      case ne =>
        refine lv_if_ne hx hb hd hO (fun hc => ?_) (fun hc => ?_)
        · rw [if_pos (by simpa [sk_cond] using hc)] at h
          exact hk _ _ _ _ h H locs lsA hR hL h1 h2 h3 h4
        · rw [if_neg (by simpa [sk_cond] using hc)] at h
          exact hk _ _ _ _ h H locs lsA hR hL h1 h2 h3 h4
      case lt =>
        refine lv_if_lt hx hb hd hO (fun hc => ?_) (fun hc => ?_)
        · rw [if_pos (by simpa [sk_cond] using hc)] at h
          exact hk _ _ _ _ h H locs lsA hR hL h1 h2 h3 h4
        · rw [if_neg (by simpa [sk_cond] using hc)] at h
          exact hk _ _ _ _ h H locs lsA hR hL h1 h2 h3 h4
      case ge =>
        refine lv_if_ge hx hb hd hO (fun hc => ?_) (fun hc => ?_)
        · rw [if_pos (by simpa [sk_cond] using hc)] at h
          exact hk _ _ _ _ h H locs lsA hR hL h1 h2 h3 h4
        · rw [if_neg (by simpa [sk_cond] using hc)] at h
          exact hk _ _ _ _ h H locs lsA hR hL h1 h2 h3 h4
      case gt =>
        refine lv_if_gt hx hb hd hO (fun hc => ?_) (fun hc => ?_)
        · rw [if_pos (by simpa [sk_cond] using hc)] at h
          exact hk _ _ _ _ h H locs lsA hR hL h1 h2 h3 h4
        · rw [if_neg (by simpa [sk_cond] using hc)] at h
          exact hk _ _ _ _ h H locs lsA hR hL h1 h2 h3 h4
      case le =>
        refine lv_if_le hx hb hd hO (fun hc => ?_) (fun hc => ?_)
        · rw [if_pos (by simpa [sk_cond] using hc)] at h
          exact hk _ _ _ _ h H locs lsA hR hL h1 h2 h3 h4
        · rw [if_neg (by simpa [sk_cond] using hc)] at h
          exact hk _ _ _ _ h H locs lsA hR hL h1 h2 h3 h4
    · cases h
  case if_icmp cnd o =>
    unfold sk_step at h
    dsimp only at h
    split at h
    · next u v st' =>
      intro H locs lsA hR hL h1 h2 h3 h4
      cases cnd
      case eq =>
        refine lv_icmp_eq hx hb hd hO (fun hc => ?_) (fun hc => ?_)
        · rw [if_pos (by simpa [sk_cond] using hc)] at h
          exact hk _ _ _ _ h H locs lsA hR hL h1 h2 h3 h4
        · rw [if_neg (by simpa [sk_cond] using hc)] at h
          exact hk _ _ _ _ h H locs lsA hR hL h1 h2 h3 h4
      case ne =>
        refine lv_icmp_ne hx hb hd hO (fun hc => ?_) (fun hc => ?_)
        · rw [if_pos (by simpa [sk_cond] using hc)] at h
          exact hk _ _ _ _ h H locs lsA hR hL h1 h2 h3 h4
        · rw [if_neg (by simpa [sk_cond] using hc)] at h
          exact hk _ _ _ _ h H locs lsA hR hL h1 h2 h3 h4
      case lt =>
        refine lv_icmp_lt hx hb hd hO (fun hc => ?_) (fun hc => ?_)
        · rw [if_pos (by simpa [sk_cond] using hc)] at h
          exact hk _ _ _ _ h H locs lsA hR hL h1 h2 h3 h4
        · rw [if_neg (by simpa [sk_cond] using hc)] at h
          exact hk _ _ _ _ h H locs lsA hR hL h1 h2 h3 h4
      case ge =>
        refine lv_icmp_ge hx hb hd hO (fun hc => ?_) (fun hc => ?_)
        · rw [if_pos (by simpa [sk_cond] using hc)] at h
          exact hk _ _ _ _ h H locs lsA hR hL h1 h2 h3 h4
        · rw [if_neg (by simpa [sk_cond] using hc)] at h
          exact hk _ _ _ _ h H locs lsA hR hL h1 h2 h3 h4
      case gt =>
        refine lv_icmp_gt hx hb hd hO (fun hc => ?_) (fun hc => ?_)
        · rw [if_pos (by simpa [sk_cond] using hc)] at h
          exact hk _ _ _ _ h H locs lsA hR hL h1 h2 h3 h4
        · rw [if_neg (by simpa [sk_cond] using hc)] at h
          exact hk _ _ _ _ h H locs lsA hR hL h1 h2 h3 h4
      case le =>
        refine lv_icmp_le hx hb hd hO (fun hc => ?_) (fun hc => ?_)
        · rw [if_pos (by simpa [sk_cond] using hc)] at h
          exact hk _ _ _ _ h H locs lsA hR hL h1 h2 h3 h4
        · rw [if_neg (by simpa [sk_cond] using hc)] at h
          exact hk _ _ _ _ h H locs lsA hR hL h1 h2 h3 h4
    · cases h
  case tableswitch dd lo hi offs =>
    unfold sk_step at h
    dsimp only at h
    unfold sk_okI at hO
    dsimp only at hO
    obtain ⟨o1, o2, o3⟩ := hO
    split at h
    · next v st' =>
      rcases sk_sw_spec _ _ h with ⟨j, o, g1, g2, g3⟩ | ⟨g1, g2⟩
      · intro H locs lsA hR hL h1 h2 h3 h4
        have hj : offs[j]? = some o := by rw [← Array.getElem?_toList]; exact g1
        have hjl : j < offs.size := (Array.getElem?_eq_some_iff.mp hj).1
        have ho := o2 o (List.mem_of_getElem? g1)
        exact lv_tableIn hx hb hd (off := o) (tgt := ((pc : Int) + o).toNat) (by omega) (by omega) (by rw [show (v.toInt - lo).toNat = j by omega]; exact hj) (by omega) (hk _ _ _ _ g3 H locs lsA hR hL h1 h2 h3 h4)
      · intro H locs lsA hR hL h1 h2 h3 h4
        rw [Array.length_toList] at g1
        exact lv_tableOut hx hb hd (tgt := ((pc : Int) + dd).toNat) (by omega) (by omega) (hk _ _ _ _ g2 H locs lsA hR hL h1 h2 h3 h4)
    · cases h
  case getfield idx =>
    unfold sk_step at h
    dsimp only at h
    split at h
    · next v st' =>
      split at h
      · obtain ⟨q, hq, h⟩ := Option.bind_eq_some_iff.mp h
        exact sk_s_getr hC0 hd hO hq (hk _ _ _ _ h)
      · obtain ⟨q, hq, h⟩ := Option.bind_eq_some_iff.mp h
        exact sk_s_geti hC0 hd hO hq (hk _ _ _ _ h)
    · cases h
  case putfield idx =>
    unfold sk_step at h
    dsimp only at h
    split at h
    · next v u st' =>
      split at h
      · next hz =>
        subst hz
        obtain ⟨q, hq, h⟩ := Option.bind_eq_some_iff.mp h
        exact sk_s_put0 hC0 hd hO hq (hk _ _ _ _ h)
      · split at h
        · next hz =>
          subst hz
          split at h
          · next hv =>
            obtain ⟨q, hq, h⟩ := Option.bind_eq_some_iff.mp h
            exact sk_s_put2 hC0 hd hO hv hq (hk _ _ _ _ h)
          · cases h
        · cases h
    · next v u st' =>
      split at h
      · next hz =>
        subst hz
        obtain ⟨q, hq, h⟩ := Option.bind_eq_some_iff.mp h
        exact sk_s_put3 hC0 hd hO hq (hk _ _ _ _ h)
      · cases h
    · cases h
  case iaload =>
    unfold sk_step at h
    dsimp only at h
    split at h
    · next j v st' =>
      obtain ⟨q, hq, h⟩ := Option.bind_eq_some_iff.mp h
      exact sk_s_ald hC0 hd hq (hk _ _ _ _ h)
    · cases h
  case iastore =>
    unfold sk_step at h
    dsimp only at h
    split at h
    · next u j v st' =>
      obtain ⟨q, hq, h⟩ := Option.bind_eq_some_iff.mp h
      exact sk_s_ast hC0 hd hq (hk _ _ _ _ h)
    · cases h
  case aaload =>
    unfold sk_step at h
    dsimp only at h
    split at h
    · next j v st' =>
      obtain ⟨q, hq, h⟩ := Option.bind_eq_some_iff.mp h
      exact sk_s_aldr hC0 hd hq (hk _ _ _ _ h)
    · cases h
  case arraylength =>
    unfold sk_step at h
    dsimp only at h
    split at h
    · next v st' =>
      obtain ⟨q, hq, h⟩ := Option.bind_eq_some_iff.mp h
      exact sk_s_len hC0 hd hq (hk _ _ _ _ h)
    · cases h
  case aastore =>
    unfold sk_step at h
    dsimp only at h
    split at h
    · next u j v st' =>
      obtain ⟨q, hq, h⟩ := Option.bind_eq_some_iff.mp h
      exact sk_s_astr hC0 hd hO.1 (by rw [← hO.2.2]; exact sk_tag hO.2.1) hq (hk _ _ _ _ h)
    · cases h
  case new idx =>
    have hg := hgr _ _ _ _ h
    rw [List.length_append, sk_sz_push] at hg
    have e1 : sk_sz [(.inr (.inr (x, sk_fields x)) : sk_C)] = (sk_q x).2.2 := by simp [sk_sz, sk_csz, sk_fields_len]
    rw [e1] at hg
    have e2 : [(.inr (.inr (x, sk_fields x)) : sk_C)].length = 1 := rfl
    rw [e2] at hg
    exact sk_s_new hC0 hd hO.1 hO.2 ⟨by omega, by omega⟩ (hk _ _ _ _ h)
  case newarray t =>
    unfold sk_step at h
    dsimp only at h
    obtain ⟨rfl, hac⟩ := hO
    split at h
    · next n st' =>
      split at h
      · next hq =>
        have hg := hgr _ _ _ _ h
        rw [List.length_append, sk_sz_push] at hg
        have e1 : sk_sz [(.inl (n.toNatClampNeg, fun _ => 0) : sk_C)] = n.toNatClampNeg := by simp [sk_sz, sk_csz]
        rw [e1] at hg
        have e2 : [(.inl (n.toNatClampNeg, fun _ => 0) : sk_C)].length = 1 := rfl
        rw [e2] at hg
        exact sk_s_newa hC0 hd hac hq ⟨by omega, by omega⟩ (hk _ _ _ _ h)
      · cases h
    · cases h
  case anewarray idx =>
    unfold sk_step at h
    dsimp only at h
    split at h
    · next n st' =>
      split at h
      · next hq =>
        have hg := hgr _ _ _ _ h
        rw [List.length_append, sk_sz_push] at hg
        have e1 : sk_sz [(.inr (.inl (x, n.toNatClampNeg, fun _ => none)) : sk_C)] = n.toNatClampNeg := by simp [sk_sz, sk_csz]
        rw [e1] at hg
        have e2 : [(.inr (.inl (x, n.toNatClampNeg, fun _ => none)) : sk_C)].length = 1 := rfl
        rw [e2] at hg
        exact sk_s_newr hC0 hd hO.2 hq ⟨hO.1, sk_tag hO.1⟩ ⟨by omega, by omega⟩ (hk _ _ _ _ h)
      · cases h
    · cases h
  case multianewarray idx dm =>
    unfold sk_step at h
    dsimp only at h
    obtain ⟨rfl, hlk, hac⟩ := hO
    split at h
    · next j n st' =>
      split at h
      · next hq =>
        have hg := hgr _ _ _ _ h
        rw [List.length_append, sk_sz_push] at hg
        have e1 : sk_sz (.inr (.inl (3, n.toNatClampNeg, fun q => if q < n.toNatClampNeg then some (w.length + 1 + q) else none)) :: List.replicate n.toNatClampNeg (.inl (j.toNatClampNeg, fun _ => 0)) : sk_W) = n.toNatClampNeg + n.toNatClampNeg * j.toNatClampNeg := by simp [sk_sz, sk_csz]
        rw [e1, List.length_cons, List.length_replicate] at hg
        exact hmul idx n j st' rfl hq hlk hac ⟨by omega, by omega⟩ (hk _ _ _ _ h)
      · cases h
    · cases h
  case invokevirtual idx =>
    unfold sk_step at h
    dsimp only at h
    obtain ⟨hy, hlk, hci⟩ := hO
    split at h
    · next as st' hpop =>
      split at h
      · next hrc =>
        obtain ⟨v, w1, hq, h⟩ := sk_push_spec h
        have hgq := hcal _ _ _ _ hq
        dsimp only at hgq
        have hg2 := hgr _ _ _ _ h
        exact sk_s_callV hC0 hn hsx hy hgq.1 hgq.2 ⟨hRm.1, hRm.2.1, by have := hg2.1; omega, by have := hg2.2; omega⟩ hd hlk hci hpop hrc (hk _ _ _ _ h)
      · cases h
    · cases h
  case invokespecial idx =>
    unfold sk_step at h
    dsimp only at h
    unfold sk_okI at hO
    dsimp only at hO
    split at h
    · next hx0 =>
      rw [if_pos hx0] at hO
      split at h
      · next v st' =>
        split at h
        case isFalse => cases h
        case isTrue hcat =>
        intro H locs lsA hR hL h1 h2 h3 h4
        exact W.objInit hx hb hown (hts _ hO.1) (hts _ hO.2.1) (hts _ hO.2.2) rfl (h4.1.trans hml.symm) rfl hd (by omega) (by have := sk_cats (b := b) (n0 := H0.size) hcat; show 2 * 0 + _ + 12 ≤ _; omega) (hk _ _ _ _ h H locs lsA hR hL h1 h2 h3 h4)
      · cases h
    · next hx0 =>
      rw [if_neg hx0] at hO
      obtain ⟨hy, hret, hnm1, hin1, hlk⟩ := hO
      split at h
      · next as st' hpop =>
        split at h
        · next hrc =>
          obtain ⟨v, w1, hq, h⟩ := sk_push_spec h
          have hgq := hcal _ _ _ _ hq
          dsimp only at hgq
          have hg2 := hgr _ _ _ _ h
          rw [hret] at hy hgq
          rcases hlk with hlk | ⟨host, hlk⟩
          · exact sk_s_callI hC0 hn hsx hy hgq.1 hgq.2 ⟨hRm.1, hRm.2.1, by have := hg2.1; omega, by have := hg2.2; omega⟩ hd ⟨hlk, hin1, hnm1⟩ hpop hrc (hk _ _ _ _ h)
          · exact sk_s_callIN hC0 hn hsx hy hgq.1 hgq.2 ⟨hRm.1, hRm.2.1, by have := hg2.1; omega, by have := hg2.2; omega⟩ hd ⟨hlk, hin1, hnm1⟩ hpop hrc (hk _ _ _ _ h)
        · cases h
      · cases h
  case invokestatic idx =>
    unfold sk_step at h
    dsimp only at h
    unfold sk_okI at hO
    dsimp only at hO
    split at h
    · next hx0 =>
      rw [if_pos hx0] at hO
      split at h
      · next hy5 =>
        rw [if_pos hy5] at hO
        split at h
        · next n dp a1 sp a0 st' =>
          split at h
          · next hcat =>
            obtain ⟨q, hq, h⟩ := Option.bind_eq_some_iff.mp h
            intro H locs lsA hR hL h1 h2 h3 h4
            exact sk_s_copy hC0 h3.1 hd hO.1 hO.2 hcat ⟨by omega, by omega⟩ hq (hk _ _ _ _ h) H locs lsA hR hL h1 h2 h3 h4
          · cases h
        · cases h
      · next hy5 =>
        rw [if_neg hy5] at hO
        split at h
        · next v st' =>
          split at h
          · next hcat =>
            intro H locs lsA hR hL h1 h2 h3 h4
            exact vn_f2i hx hb (by rw [hml]; exact h4.1.symm) hown (hts _ hO.1) (hts _ hO.2.1) (hts _ hO.2.2.1) (hts _ hO.2.2.2) (by omega) (by have := sk_cats (b := b) (n0 := H0.size) hcat; omega) hd (hk _ _ _ _ h H locs lsA hR hL h1 h2 h3 h4)
          · cases h
        · cases h
    · next hx0 =>
      rw [if_neg hx0] at hO
      obtain ⟨hy, hst, hlk⟩ := hO
      split at h
      · next as st' hpop =>
        obtain ⟨v, w1, hq, h⟩ := sk_push_spec h
        have hgq := hcal _ _ _ _ hq
        dsimp only at hgq
        have hg2 := hgr _ _ _ _ h
        rcases hlk with hlk | ⟨host, hlk⟩
        · exact sk_s_callS hC0 hn hsx (ci := 0) hy hgq.1 hgq.2 ⟨hRm.1, hRm.2.1, by have := hg2.1; omega, by have := hg2.2; omega⟩ hd ⟨hlk, hst⟩ hpop (hk _ _ _ _ h)
        · exact sk_s_callSN hC0 hn hsx (ci := 0) hy hgq.1 hgq.2 ⟨hRm.1, hRm.2.1, by have := hg2.1; omega, by have := hg2.2; omega⟩ hd ⟨hlk, hst⟩ hpop (hk _ _ _ _ h)
      · cases h
  case ireturn =>
    unfold sk_step at h
    dsimp only at h
    split at h
    · next v =>
      split at h
      · next hz =>
        split at h
        · next hv => exact hir v rfl (Option.some.inj h).symm (fun _ => hv)
        · cases h
      · next hz => exact hir v rfl (Option.some.inj h).symm (fun q => absurd q hz)
    · cases h
  case freturn =>
    unfold sk_step at h
    dsimp only at h
    split at h
    · next v => exact hfr v rfl (Option.some.inj h).symm
    · cases h
  case return_ =>
    unfold sk_step at h
    dsimp only at h
    split at h
    · exact hvr rfl (Option.some.inj h).symm
    · cases h
  all_goals exact absurd h (fun q => by cases q)
