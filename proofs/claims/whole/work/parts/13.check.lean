/-! ===== the check of a table ===== -/
def sk_argL : List Nat := [0, 2, 1, 2, 2, 1, 3, 1, 1, 4, 0, 1, 0, 1, 2, 4, 0, 0, 1, 2, 2, 2, 2, 2, 0, 4, 1, 0, 0, 4, 1, 1, 1, 3, 1, 0, 1, 1, 0, 1, 1, 0, 0, 0, 0, 1, 1, 2, 0, 1, 1, 4, 3, 3, 4, 5, 4, 0, 1, 0, 0, 0, 0, 0, 2, 0, 2, 1, 0, 2, 2, 0, 1, 1, 2, 0, 1, 2, 0, 0, 2, 1, 0, 5, 0, 1, 1, 0, 0, 1, 1, 0, 1, 0, 1, 0, 1, 4, 3, 1, 3, 0, 6, 1, 0, 2, 2, 3, 1, 2, 2, 2, 1, 0, 2, 2, 1, 1, 1, 0, 1, 2, 4, 2, 3, 3, 5, 2, 0, 0, 1, 3, 3, 5, 1, 1, 1, 3, 2, 1, 0, 2, 1, 1, 3, 0, 1, 1, 1, 2, 1, 2, 2, 4, 1, 1, 8, 4, 6, 1, 1, 2, 1, 0, 0, 2, 2, 0, 1, 3, 1, 2, 2, 2, 3, 3, 4, 4, 1, 4, 2, 2, 1, 0, 0, 0, 2, 1, 0, 2, 2, 2, 4, 2, 0, 1, 1, 0, 0, 0, 1, 2, 3, 1, 2, 2, 3, 3, 1, 0, 1, 0, 0, 1, 2, 2, 4, 1, 1, 2, 1, 0, 3, 2, 3, 5, 2, 0, 0, 2, 0, 0, 1, 1, 3, 3, 5, 1, 1, 2, 2, 3, 2, 4, 1]
def sk_calleeB (I : sk_I) (n : Nat) : Bool := decide (I.1.cls ≠ "java/lang/invoke/MethodHandle") && decide (I.1.cls ≠ "java/lang/invoke/VarHandle") && decide ((parseMethodDescriptor I.1.desc).map (fun d => d.parameters.length) = some n) && decide (I.2.2.1 ≤ 45) && decide (Jvm.Cond.initialized I.1.cls ∈ sk_initW)
theorem sk_calleeB_ok : (((sk_infL.drop 1).take 243).zip ((sk_argL.drop 1).take 243)).all (fun q => sk_calleeB q.1 q.2) = true := by decide +kernel
theorem sk_callee_ok {x : Nat} (h0 : 0 < x) (h1 : x < 244) : sk_callee (sk_inf x).1 (sk_inf x).2.1 (sk_inf x).2.2.1 (sk_inf x).2.2.2 (sk_argL.getD x 0) := by
  have l1 : sk_infL.length = 245 := rfl
  have l2 : sk_argL.length = 245 := rfl
  obtain ⟨k, rfl⟩ : ∃ k, x = k + 1 := ⟨x - 1, by omega⟩
  have e1 : ((sk_infL.drop 1).take 243)[k]? = some (sk_inf (k + 1)) := by
    rw [List.getElem?_take, if_pos (by omega), List.getElem?_drop, Nat.add_comm 1 k, List.getElem?_eq_getElem (by omega)]
    unfold sk_inf
    rw [List.getD_eq_getElem?_getD, List.getElem?_eq_getElem (by omega)]
    rfl
  have e2 : ((sk_argL.drop 1).take 243)[k]? = some (sk_argL.getD (k + 1) 0) := by
    rw [List.getElem?_take, if_pos (by omega), List.getElem?_drop, Nat.add_comm 1 k, List.getElem?_eq_getElem (by omega)]
    rw [List.getD_eq_getElem?_getD, List.getElem?_eq_getElem (by omega)]
    rfl
  have hm := List.all_eq_true.mp sk_calleeB_ok (sk_inf (k + 1), sk_argL.getD (k + 1) 0) (List.mem_of_getElem? (i := k) (by rw [List.getElem?_zip_eq_some]; exact ⟨e1, e2⟩))
  simp only [sk_calleeB, Bool.and_eq_true, decide_eq_true_eq] at hm
  obtain ⟨⟨⟨⟨h2, h3⟩, h4⟩, h5⟩, h6⟩ := hm
  refine ⟨sk_codeW_ok _ (List.mem_map.mpr ⟨_, List.mem_of_getElem? e1, rfl⟩), sk_initW_ok _ h6, ⟨h2, h3, h4⟩, h5⟩
def sk_chkI (o : Nat) (ini : Bool) (nL : Nat) (ret : Option FieldType) (i : Instr) (x y z pc : Nat) : Bool := match i with
  | .istore_n n => decide (n.val < nL)
  | .fstore_n n => decide (n.val < nL)
  | .astore_n n => decide (n.val < nL)
  | .istore n => decide (n < nL)
  | .fstore n => decide (n < nL)
  | .astore n => decide (n < nL)
  | .iinc n _ => decide (n < nL)
  | .goto q => decide ((pc : Int) + q = (x : Int))
  | .ifCond _ q => decide ((pc : Int) + q = (x : Int))
  | .if_icmp _ q => decide ((pc : Int) + q = (x : Int))
  | .tableswitch d lo hi offs => decide (0 ≤ (pc : Int) + d) && offs.toList.all (fun q => decide (0 ≤ (pc : Int) + q)) && decide (hi + 1 = lo + offs.size)
  | .ldc idx => decide (Jvm.Cond.constant (sk_own o) idx (Int32.ofNat x) ∈ sk_oddW)
  | .ldc_w idx => if y = 0 then decide (Jvm.Cond.constant (sk_own o) idx (Int32.ofNat x) ∈ sk_oddW) else decide (Jvm.Cond.constantFloat (sk_own o) idx (UInt32.ofNat x) ∈ sk_oddW)
  | .getfield idx => decide (x < 12) && decide (y < (sk_q x).2.2) && decide ((o, idx, x, y) ∈ sk_FL)
  | .putfield idx => decide (x < 12) && decide (y < (sk_q x).2.2) && decide ((o, idx, x, y) ∈ sk_FL) && (if z = 0 then !((sk_q x).2.1 y).2.2.2 && decide (sk_ty x y = .int) else if z = 2 then !((sk_q x).2.1 y).2.2.2 && decide (sk_ty x y = .boolean) else ((sk_q x).2.1 y).2.2.2 && ini && decide (((sk_q x).2.1 y).1 = sk_own o) && sk_refTy (sk_ty x y))
  | .aastore => decide (y < 12) && decide (x < 3) && decide (sk_tagN x = (sk_q y).1)
  | .new idx => decide (x < 12) && decide ((o, idx, x) ∈ sk_CL)
  | .newarray t => decide (t = .int)
  | .anewarray idx => decide (x < 3) && decide ((o, idx, 2 * x + 2) ∈ sk_CL)
  | .multianewarray idx dm => decide (dm = 2) && decide (o = 12) && decide (idx = 9)
  | .invokevirtual idx => decide (0 < x) && decide (x < 244) && decide (sk_argL.getD x 0 = y) && decide ((o, idx, x) ∈ sk_ML) && decide (x ∈ sk_instL) && decide (x ∈ sk_selL) && decide (z / 4 < 12) && decide ((sk_q (z / 4)).1 = (sk_inf x).1.cls)
  | .invokespecial idx => if x = 0 then decide (Jvm.Cond.methodLink (sk_own o) idx objectInit ∈ sk_oddW)
      else decide (0 < x) && decide (x < 244) && decide (sk_argL.getD x 0 = y) && (decide ((o, idx, x) ∈ sk_ML) || decide ((o, idx, x) ∈ sk_NL)) && decide (x ∈ sk_instL) && decide ((sk_inf x).2.2.2 = none) && decide ((sk_inf x).1.name = "<init>")
  | .invokestatic idx => if x = 0 then (if y = 5 then decide (Jvm.Cond.methodLink (sk_own o) idx arraycopyName ∈ sk_oddW) else decide (Jvm.Cond.methodLink (sk_own o) idx sk_bits ∈ sk_oddW))
      else decide (0 < x) && decide (x < 244) && decide (sk_argL.getD x 0 = y) && (decide ((o, idx, x) ∈ sk_ML) || decide ((o, idx, x) ∈ sk_NL)) && decide (x ∈ sk_statL)
  | .ireturn => decide (ret = some .int ∨ ret = some .boolean)
  | .freturn => decide (ret = some .float)
  | .return_ => decide (ret = none)
  | _ => true
theorem sk_tagQ {x : Nat} (h : x < 3) : sk_tagN x = (sk_q (2 * x + 2)).1 := by
  rcases (show x = 0 ∨ x = 1 ∨ x = 2 by omega) with rfl | rfl | rfl <;> rfl
theorem sk_link {o idx x : Nat} (h : (o, idx, x) ∈ sk_ML) : Jvm.Cond.methodLink (sk_own o) idx (sk_inf x).1 ∈ sk_B := sk_ML_ok _ (List.mem_map.mpr ⟨_, h, rfl⟩)
theorem sk_linkN {o idx x : Nat} (h : (o, idx, x) ∈ sk_NL) : Jvm.Cond.methodLinkNest (sk_own o) idx (sk_inf x).1 RX11 ∈ sk_nest := List.mem_map.mpr ⟨_, h, rfl⟩
theorem sk_odd {w : Jvm.Cond} (h : w ∈ sk_oddW) : w ∈ sk_B := sk_oddW_ok w h
theorem sk_chkI_ok {o nL : Nat} {ini : Bool} {ret : Option FieldType} {i : Instr} {x y z pc : Nat} {nm : String} (hini : ini = true → nm = "<init>") (h : sk_chkI o ini nL ret i x y z pc = true) : sk_okI sk_inf sk_nest (sk_own o) nm nL i x y z pc ∧ sk_retOK ret i := by
  cases i
  case istore_n n => exact ⟨of_decide_eq_true (p := n.val < nL) h, trivial⟩
  case fstore_n n => exact ⟨of_decide_eq_true (p := n.val < nL) h, trivial⟩
  case astore_n n => exact ⟨of_decide_eq_true (p := n.val < nL) h, trivial⟩
  case istore n => exact ⟨of_decide_eq_true (p := n < nL) h, trivial⟩
  case fstore n => exact ⟨of_decide_eq_true (p := n < nL) h, trivial⟩
  case astore n => exact ⟨of_decide_eq_true (p := n < nL) h, trivial⟩
  case iinc n q => exact ⟨of_decide_eq_true (p := n < nL) h, trivial⟩
  case goto q => exact ⟨of_decide_eq_true (p := (pc : Int) + q = (x : Int)) h, trivial⟩
  case ifCond c q => exact ⟨of_decide_eq_true (p := (pc : Int) + q = (x : Int)) h, trivial⟩
  case if_icmp c q => exact ⟨of_decide_eq_true (p := (pc : Int) + q = (x : Int)) h, trivial⟩
  case tableswitch d lo hi offs =>
    unfold sk_chkI at h
    simp only [Bool.and_eq_true, decide_eq_true_eq, List.all_eq_true] at h
    exact ⟨⟨h.1.1, h.1.2, h.2⟩, trivial⟩
  case ldc idx => exact ⟨sk_odd (of_decide_eq_true h), trivial⟩
  case ldc_w idx =>
    refine ⟨?_, trivial⟩
    unfold sk_chkI at h
    unfold sk_okI
    dsimp only at h ⊢
    split at h
    · next hy => rw [if_pos hy]; exact sk_odd (of_decide_eq_true h)
    · next hy => rw [if_neg hy]; exact sk_odd (of_decide_eq_true h)
  case getfield idx =>
    unfold sk_chkI at h
    simp only [Bool.and_eq_true, decide_eq_true_eq] at h
    exact ⟨⟨sk_cls_all x h.1.1, h.1.2, sk_FL_ok _ (List.mem_map.mpr ⟨_, h.2, rfl⟩)⟩, trivial⟩
  case putfield idx =>
    unfold sk_chkI at h
    simp only [Bool.and_eq_true, decide_eq_true_eq] at h
    obtain ⟨⟨⟨h1, h2⟩, h3⟩, h4⟩ := h
    refine ⟨⟨⟨sk_cls_all x h1, h2, sk_FL_ok _ (List.mem_map.mpr ⟨_, h3, rfl⟩)⟩, fun hz => ?_, fun hz => ?_, fun hz => ?_⟩, trivial⟩
    · subst hz
      simpa using h4
    · subst hz
      simpa using h4
    · subst hz
      have h5 : (((sk_q x).2.1 y).2.2.2 = true ∧ ini = true ∧ ((sk_q x).2.1 y).1 = sk_own o) ∧ sk_refTy (sk_ty x y) = true := by simpa [and_assoc] using h4
      exact ⟨h5.1.1, hini h5.1.2.1, h5.1.2.2, h5.2⟩
  case aastore =>
    unfold sk_chkI at h
    simp only [Bool.and_eq_true, decide_eq_true_eq] at h
    exact ⟨⟨sk_cls_all y h.1.1, h.1.2, h.2⟩, trivial⟩
  case new idx =>
    unfold sk_chkI at h
    simp only [Bool.and_eq_true, decide_eq_true_eq] at h
    exact ⟨⟨sk_cls_all x h.1, sk_CL_ok _ (List.mem_map.mpr ⟨_, h.2, rfl⟩)⟩, trivial⟩
  case newarray t => exact ⟨⟨of_decide_eq_true h, sk_odd (by decide +kernel)⟩, trivial⟩
  case anewarray idx =>
    unfold sk_chkI at h
    simp only [Bool.and_eq_true, decide_eq_true_eq] at h
    refine ⟨⟨h.1, ?_⟩, trivial⟩
    rw [sk_tagQ h.1]
    exact sk_CL_ok _ (List.mem_map.mpr ⟨_, h.2, rfl⟩)
  case multianewarray idx dm =>
    unfold sk_chkI at h
    simp only [Bool.and_eq_true, decide_eq_true_eq] at h
    obtain ⟨⟨rfl, rfl⟩, rfl⟩ := h
    exact ⟨⟨rfl, sk_odd (by decide +kernel), sk_odd (by decide +kernel)⟩, trivial⟩
  case invokevirtual idx =>
    unfold sk_chkI at h
    simp only [Bool.and_eq_true, decide_eq_true_eq] at h
    obtain ⟨⟨⟨⟨⟨⟨⟨h1, h2⟩, h3⟩, h4⟩, h5⟩, h6⟩, h7⟩, h8⟩ := h
    subst h3
    exact ⟨⟨sk_callee_ok h1 h2, ⟨sk_link h4, sk_instW_ok _ (List.mem_map.mpr ⟨_, h5, rfl⟩), sk_selW_ok _ (List.mem_map.mpr ⟨_, h6, rfl⟩)⟩, sk_cls_all _ h7, h8⟩, trivial⟩
  case invokespecial idx =>
    refine ⟨?_, trivial⟩
    unfold sk_chkI at h
    unfold sk_okI
    dsimp only at h ⊢
    split at h
    · next hx =>
      rw [if_pos hx]
      exact ⟨sk_odd (of_decide_eq_true h), sk_odd (by decide +kernel), sk_odd (by decide +kernel)⟩
    · next hx =>
      rw [if_neg hx]
      simp only [Bool.and_eq_true, Bool.or_eq_true, decide_eq_true_eq] at h
      obtain ⟨⟨⟨⟨⟨⟨h1, h2⟩, h3⟩, h4⟩, h5⟩, h6⟩, h7⟩ := h
      subst h3
      exact ⟨sk_callee_ok h1 h2, h6, h7, sk_instW_ok _ (List.mem_map.mpr ⟨_, h5, rfl⟩), h4.elim (fun q => Or.inl (sk_link q)) (fun q => Or.inr ⟨_, sk_linkN q⟩)⟩
  case invokestatic idx =>
    refine ⟨?_, trivial⟩
    unfold sk_chkI at h
    unfold sk_okI
    dsimp only at h ⊢
    split at h
    · next hx =>
      rw [if_pos hx]
      split at h
      · next hy =>
        rw [if_pos hy]
        exact ⟨sk_odd (of_decide_eq_true h), sk_odd (by decide +kernel), sk_odd (by decide +kernel), sk_initW_ok _ (by decide +kernel)⟩
      · next hy =>
        rw [if_neg hy]
        exact ⟨sk_odd (of_decide_eq_true h), sk_odd (by decide +kernel), sk_odd (by decide +kernel), sk_initW_ok _ (by decide +kernel)⟩
    · next hx =>
      rw [if_neg hx]
      simp only [Bool.and_eq_true, Bool.or_eq_true, decide_eq_true_eq] at h
      obtain ⟨⟨⟨⟨h1, h2⟩, h3⟩, h4⟩, h5⟩ := h
      subst h3
      exact ⟨sk_callee_ok h1 h2, sk_statW_ok _ (List.mem_map.mpr ⟨_, h5, rfl⟩), h4.elim (fun q => Or.inl (sk_link q)) (fun q => Or.inr ⟨_, sk_linkN q⟩)⟩
  case ireturn => exact ⟨trivial, of_decide_eq_true (p := ret = some .int ∨ ret = some .boolean) h⟩
  case freturn => exact ⟨trivial, of_decide_eq_true (p := ret = some .float) h⟩
  case return_ => exact ⟨trivial, of_decide_eq_true (p := ret = none) h⟩
  all_goals exact ⟨trivial, trivial⟩
def sk_chk (o : Nat) (ini : Bool) (I : sk_I) (e : sk_E) : Bool := decide (decode I.2.1 e.1 = .ok (e.2.1, sk_ilen e.2.1 e.2.2.2.2)) && sk_chkI o ini I.2.2.1 I.2.2.2 e.2.1 e.2.2.1 e.2.2.2.1 e.2.2.2.2 e.1
theorem sk_find_mem : ∀ (l : List sk_E) (pc : Nat) (q : Instr × Nat × Nat × Nat), sk_find l pc = some q → (pc, q) ∈ l
  | [], _, _, h => by cases h
  | e :: l, pc, q, h => by
    unfold sk_find at h
    cases hb : Nat.beq e.1 pc with
    | true =>
      rw [hb] at h
      cases h
      have := Nat.eq_of_beq_eq_true hb
      subst this
      exact List.mem_cons_self
    | false =>
      rw [hb] at h
      exact List.mem_cons_of_mem _ (sk_find_mem l pc q h)
theorem sk_mOK_of {I : sk_I} {tab : List sk_E} (o : Nat) (ini : Bool) (ho : sk_own o = I.1.cls) (hini : ini = true → I.1.name = "<init>") (hpl : plainFor I.1 = true) (h : tab.all (sk_chk o ini I) = true) : sk_mOK sk_inf sk_nest I tab := by
  have key : ∀ (pc : Nat) (i : Instr) (x y z : Nat), sk_find tab pc = some (i, x, y, z) → decode I.2.1 pc = .ok (i, sk_ilen i z) ∧ sk_okI sk_inf sk_nest (sk_own o) I.1.name I.2.2.1 i x y z pc ∧ sk_retOK I.2.2.2 i := by
    intro pc i x y z hf
    have h1 := List.all_eq_true.mp h _ (sk_find_mem tab pc _ hf)
    unfold sk_chk at h1
    rw [Bool.and_eq_true, decide_eq_true_eq] at h1
    exact ⟨h1.1, sk_chkI_ok hini h1.2⟩
  refine ⟨hpl, fun pc i x y z hf => ⟨(key pc i x y z hf).1, ?_⟩, fun pc i x y z hf => (key pc i x y z hf).2.2⟩
  rw [← ho]
  exact (key pc i x y z hf).2.1
