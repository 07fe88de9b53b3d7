/-! ===== the abstract world and the real heap ===== -/
def sk_am (b n0 : Nat) : Nat → Nat
  | 0 => b
  | a + 1 => n0 + a
def sk_tr (b n0 : Nat) : Value → Value
  | .ref a => .ref (sk_am b n0 a)
  | v => v
theorem sk_tr_cat (b n0 : Nat) (v : Value) : (sk_tr b n0 v).category = v.category := by cases v <;> rfl
def sk_ce (b n0 : Nat) (cA : Nat → ClassId) : sk_C → va_E
  | .inl (n, f) => .inl (cA 4, n, .inl f)
  | .inr (.inl (t, n, f)) => .inl (cA t, n, .inr (.inr (.inr (.inr fun j => (f j).map (sk_am b n0)))))
  | .inr (.inr (ci, fs)) => .inr (ci, fs.map (sk_tr b n0))
def sk_lay (b n0 : Nat) (cA : Nat → ClassId) (t : sk_W) : va_W := t.mapIdx fun j c => (n0 + j, sk_ce b n0 cA c)
theorem sk_lay_at {b n0 : Nat} {cA : Nat → ClassId} {t : sk_W} {j : Nat} {c : sk_C} (h : t[j]? = some c) : (sk_lay b n0 cA t)[j]? = some (n0 + j, sk_ce b n0 cA c) := by
  unfold sk_lay
  rw [List.getElem?_mapIdx, h]
  rfl
theorem sk_lay_set {b n0 : Nat} {cA : Nat → ClassId} {t : sk_W} {j : Nat} {c : sk_C} : (sk_lay b n0 cA t).set j (n0 + j, sk_ce b n0 cA c) = sk_lay b n0 cA (t.set j c) := by
  unfold sk_lay
  rw [List.mapIdx_set]
theorem sk_lay_push {b n0 : Nat} {cA : Nat → ClassId} {t : sk_W} {c : sk_C} : sk_lay b n0 cA t ++ [(n0 + t.length, sk_ce b n0 cA c)] = sk_lay b n0 cA (t ++ [c]) := by
  unfold sk_lay
  rw [List.mapIdx_append]
  simp
theorem sk_lay_D {b n0 : Nat} {cA : Nat → ClassId} {t : sk_W} : va_D (fun q : Nat => n0 ≤ q) (sk_lay b n0 cA t) := by
  have key : ∀ (i : Nat) (q : Nat × va_E), (sk_lay b n0 cA t)[i]? = some q → q.1 = n0 + i := by
    intro i q h
    unfold sk_lay at h
    rw [List.getElem?_mapIdx] at h
    cases ht : t[i]? with
    | none => rw [ht] at h; cases h
    | some c => rw [ht] at h; cases h; rfl
  refine ⟨fun i j p q hi hj hpq => ?_, fun k q hk => ?_⟩
  · have h1 := key i p hi
    have h2 := key j q hj
    omega
  · have h1 := key k q hk
    show n0 ≤ q.1
    omega
/-- the heap holds the world: cell 0 is the script, which lies in the start's heap H0; the others lie behind H0 -/
def sk_Rel (D : va_G) (cA : Nat → ClassId) (b : Nat) (X : Nat × (Nat → Int32)) (H0 : Heap) (w : sk_W) (H : Heap) : Prop :=
  ∃ t : sk_W, w = .inl X :: t ∧ va_P D vwCl (sk_lay b H0.size cA t) H ∧ H0.size ≤ H.size ∧ ∀ q : Nat, q < H0.size → H[q]? = H0[q]?
def sk_csz : sk_C → Nat
  | .inl (n, _) => n
  | .inr (.inl (_, n, _)) => n
  | .inr (.inr (_, fs)) => fs.length
def sk_sz (w : sk_W) : Nat := (w.map sk_csz).sum
theorem sk_sz_push (w u : sk_W) : sk_sz (w ++ u) = sk_sz w + sk_sz u := by simp [sk_sz]
theorem sk_sz_set {w : sk_W} {a : Nat} {c c' : sk_C} (h : w[a]? = some c) (hc : sk_csz c' = sk_csz c) : sk_sz (w.set a c') = sk_sz w := by
  induction w generalizing a with
  | nil => simp at h
  | cons d w ih =>
    cases a with
    | zero =>
      simp at h
      subst h
      simp [sk_sz, hc]
    | succ a =>
      simp at h
      have := ih h
      simp [sk_sz] at this ⊢
      exact this
/-- locals: what is set -/
def sk_lv (b n0 : Nat) : Nat → sk_L → List (Nat × Value)
  | _, [] => []
  | i, none :: l => sk_lv b n0 (i + 1) l
  | i, some v :: l => (i, sk_tr b n0 v) :: sk_lv b n0 (i + 1) l
theorem sk_lv_mem {b n0 : Nat} {ls : sk_L} {i : Nat} {q : Nat × Value} : q ∈ sk_lv b n0 i ls ↔ ∃ (j : Nat) (v : Value), ls[j]? = some (some v) ∧ q = (i + j, sk_tr b n0 v) := by
  induction ls generalizing i with
  | nil => simp [sk_lv]
  | cons a l ih =>
    have step : (∃ (j : Nat) (v : Value), (a :: l)[j]? = some (some v) ∧ q = (i + j, sk_tr b n0 v)) ↔ (∃ v, a = some v ∧ q = (i, sk_tr b n0 v)) ∨ ∃ (j : Nat) (v : Value), l[j]? = some (some v) ∧ q = (i + 1 + j, sk_tr b n0 v) := by
      constructor
      · rintro ⟨j, v, h1, h2⟩
        cases j with
        | zero => simp at h1; exact Or.inl ⟨v, h1, h2⟩
        | succ j => simp at h1; exact Or.inr ⟨j, v, h1, by rw [h2]; congr 1; omega⟩
      · rintro (⟨v, h1, h2⟩ | ⟨j, v, h1, h2⟩)
        · exact ⟨0, v, by simp [h1], h2⟩
        · exact ⟨j + 1, v, by simpa using h1, by rw [h2]; congr 1; omega⟩
    rw [step]
    cases a with
    | none => simp [sk_lv, ih]
    | some v => simp [sk_lv, ih]
theorem sk_at_get : ∀ (ls : sk_L) (k : Nat) (v : Value), sk_at ls k = some v ↔ ls[k]? = some (some v)
  | [], _, _ => by simp [sk_at]
  | a :: _, 0, v => by simp [sk_at]
  | _ :: l, k + 1, v => by simp [sk_at, sk_at_get l k v]
theorem sk_up_get : ∀ (ls : sk_L) (k : Nat) (v : Value) (j : Nat), (sk_up ls k v)[j]? = if j = k ∧ k < ls.length then some (some v) else ls[j]?
  | [], _, _, _ => by simp [sk_up]
  | a :: l, 0, v, j => by cases j <;> simp [sk_up]
  | a :: l, k + 1, v, j => by cases j <;> simp [sk_up, sk_up_get l k v]
theorem sk_up_len : ∀ (ls : sk_L) (k : Nat) (v : Value), (sk_up ls k v).length = ls.length
  | [], _, _ => rfl
  | _ :: _, 0, _ => rfl
  | _ :: l, k + 1, v => by simp [sk_up, sk_up_len l k v]
/-- locals are of one slot each -/
def sk_lok (nL : Nat) (ls : sk_L) : Prop := ls.length = nL ∧ ∀ v : Value, some v ∈ ls → v.category = 1
theorem sk_lok.up {nL : Nat} {ls : sk_L} (h : sk_lok nL ls) (k : Nat) {v : Value} (hv : v.category = 1) : sk_lok nL (sk_up ls k v) := by
  refine ⟨(sk_up_len _ _ _).trans h.1, fun u hu => ?_⟩
  obtain ⟨j, hj⟩ := List.getElem?_of_mem hu
  rw [sk_up_get] at hj
  by_cases hc : j = k ∧ k < ls.length
  · rw [if_pos hc] at hj
    cases hj
    exact hv
  · rw [if_neg hc] at hj
    exact h.2 u (List.mem_of_getElem? hj)
theorem sk_lv_at {b n0 nL : Nat} {ls : sk_L} {lsA : Array Slot} (h : lv_has lsA nL (sk_lv b n0 0 ls)) {k : Nat} {v : Value} (hv : sk_at ls k = some v) : lsA[k]? = some (.val (sk_tr b n0 v)) := by
  refine h.2.2 (k, sk_tr b n0 v) (sk_lv_mem.mpr ⟨k, v, (sk_at_get _ _ _).mp hv, by simp⟩)
/-- behind a store -/
theorem sk_lv_up {b n0 nL : Nat} {ls : sk_L} {lsA : Array Slot} {k : Nat} {v : Value} (hok : sk_lok nL ls) (h : lv_has lsA nL ((k, sk_tr b n0 v) :: (sk_lv b n0 0 ls).filter (fun q => !(q.1 == k) && !(q.1 + 1 == k && q.2.category == 2)))) : lv_has lsA nL (sk_lv b n0 0 (sk_up ls k v)) := by
  refine ⟨h.1, h.2.1, fun q hq => h.2.2 q ?_⟩
  obtain ⟨j, u, h1, h2⟩ := sk_lv_mem.mp hq
  rw [sk_up_get] at h1
  by_cases hc : j = k ∧ k < ls.length
  · rw [if_pos hc] at h1
    cases h1
    rw [h2, hc.1]
    simp
  · rw [if_neg hc] at h1
    have hjk : j ≠ k := fun e => hc ⟨e, by rw [← e]; exact (List.getElem?_eq_some_iff.mp h1).1⟩
    have hcat := hok.2 u (List.mem_of_getElem? h1)
    refine List.mem_cons_of_mem _ (List.mem_filter.mpr ⟨sk_lv_mem.mpr ⟨j, u, h1, h2⟩, ?_⟩)
    rw [h2]
    simp [sk_tr_cat, hcat, hjk]
/-- the arrays that the worlds hold: of parts, racks, sheets, int rows, ints -/
def sk_tys (cA : Nat → ClassId) : List (ClassId × FieldType) := [(cA 0, .object RX3), (cA 1, .object RX5), (cA 2, .object RX7), (cA 3, .array .int), (cA 4, .int)]
def sk_B : List Cond := lw_tbl.filter goodWord
theorem sk_B_good {w : Cond} (h : w ∈ sk_B) : (w.onTables && w.keeps) = true ∨ ∃ ty, w = .arrayClass ty := good_of_word (List.mem_filter.mp h).2
theorem sk_B_of {w : Cond} (h : w ∈ lw_tbl) (hg : goodWord w = true) : w ∈ sk_B := List.mem_filter.mpr ⟨h, hg⟩
/-- what the tables say besides -/
def sk_Tb (nest : List Cond) (Sx : State → Prop) (D : va_G) (cA : Nat → ClassId) (b : Nat) (X : Nat × (Nat → Int32)) (H0 : Heap) (s : State) : Prop :=
  va_K D vwCl (sk_tys cA) s ∧ (∀ x ∈ nest, va_Nw x s) ∧ (va_AO RX3 s ∧ va_AO RX5 s ∧ va_AO RX7 s) ∧ va_X b X.1 X.2 s H0 ∧ b < H0.size ∧ Sx s
