/-! ===== the tape, read ===== -/
def tb (B : Nat → Int) (n i : Nat) : Int := if i < n then B i else -1
def dgt (b lo : Int) : Bool := decide (48 + lo ≤ b ∧ b ≤ 57)
def kdF (b : Int) : Int := if b = 112 then 0 else if b = 116 then 1 else if b = 103 then 2 else if b = 99 then 3 else if b = 115 then 4 else if b = 104 then 5 else -1
def skp (B : Nat → Int) (n : Nat) : Nat → Nat → Nat
  | 0, i => i
  | m + 1, i => if tb B n i = 32 ∨ tb B n i = 10 then skp B n m (i + 1) else i
def wdI (B : Nat → Int) (n i : Nat) : Int × Nat := if dgt (tb B n i) 0 = true then (if dgt (tb B n (i + 1)) 0 = true then (10 * (tb B n i - 48) + tb B n (i + 1) - 48, i + 2) else (tb B n i - 48, i + 1)) else (0, i)
def fgI (B : Nat → Int) (n i : Nat) : Int × Nat := if dgt (tb B n i) 1 = true then (tb B n i - 48, i + 1) else (0, i)
def mkI (B : Nat → Int) (n : Nat) (c : Int) (i : Nat) : Int × Nat := if tb B n i = c then fgI B n (i + 1) else (1, i)
def itT (k w t m c : Int) : Nat → Int := fun f => match f with
  | 0 => k
  | 1 => w
  | 2 => t
  | 3 => m
  | _ => c
def itI (B : Nat → Int) (n : Nat) (W : Int) (i : Nat) : Nat × Option (Nat → Int) :=
  if kdF (tb B n i) = -1 then (i, none)
  else if ¬ (1 ≤ (wdI B n (i + 1)).1 ∧ (wdI B n (i + 1)).1 ≤ W) then (i + 1, none)
  else if ¬ tb B n (wdI B n (i + 1)).2 = 120 then ((wdI B n (i + 1)).2, none)
  else if (fgI B n ((wdI B n (i + 1)).2 + 1)).1 = 0 then ((fgI B n ((wdI B n (i + 1)).2 + 1)).2, none)
  else if (mkI B n 58 (fgI B n ((wdI B n (i + 1)).2 + 1)).2).1 = 0 then ((mkI B n 58 (fgI B n ((wdI B n (i + 1)).2 + 1)).2).2, none)
  else if (mkI B n 42 (mkI B n 58 (fgI B n ((wdI B n (i + 1)).2 + 1)).2).2).1 = 0 then ((mkI B n 42 (mkI B n 58 (fgI B n ((wdI B n (i + 1)).2 + 1)).2).2).2, none)
  else ((mkI B n 42 (mkI B n 58 (fgI B n ((wdI B n (i + 1)).2 + 1)).2).2).2, some (itT (kdF (tb B n i)) (wdI B n (i + 1)).1 (fgI B n ((wdI B n (i + 1)).2 + 1)).1 (mkI B n 58 (fgI B n ((wdI B n (i + 1)).2 + 1)).2).1 (mkI B n 42 (mkI B n 58 (fgI B n ((wdI B n (i + 1)).2 + 1)).2).2).1))
def OKB (B : Nat → Int) (n : Nat) : Prop := n ≤ 60 ∧ ∀ k, k < n → 0 ≤ B k ∧ B k ≤ 255
section TAP
variable {S : List sk_Sh} {I J v : sk_H} {B : Nat → Int} {n i : Nat}
theorem tb_rng (hB : OKB B n) (i : Nat) : -1 ≤ tb B n i ∧ tb B n i ≤ 255 := by
  unfold tb
  split
  · have := hB.2 i (by assumption); omega
  · omega
theorem tb_in (h : tb B n i ≠ -1) : i < n := by
  unfold tb at h
  split at h
  · assumption
  · exact absurd rfl h
theorem dgt_in {lo : Int} (hl : 0 ≤ lo) (h : dgt (tb B n i) lo = true) : i < n ∧ 48 + lo ≤ tb B n i ∧ tb B n i ≤ 57 := by
  have h2 : 48 + lo ≤ tb B n i ∧ tb B n i ≤ 57 := of_decide_eq_true h
  exact ⟨tb_in (B := B) (by omega), h2⟩
theorem kdF_rng (b : Int) : -1 ≤ kdF b ∧ kdF b ≤ 5 := by
  unfold kdF
  split
  · omega
  · split
    · omega
    · split
      · omega
      · split
        · omega
        · split
          · omega
          · split <;> omega
theorem kdF_in (hB : OKB B n) (h : kdF (tb B n i) ≠ -1) : i < n := by
  refine tb_in (B := B) (fun e => h ?_)
  rw [e]; rfl
theorem skp_le : ∀ m i, i ≤ n → i ≤ skp B n m i ∧ skp B n m i ≤ n := by
  intro m
  induction m with
  | zero => intro i hi; exact ⟨Nat.le_refl _, hi⟩
  | succ m ih =>
    intro i hi
    unfold skp
    split
    · have hn : i < n := tb_in (B := B) (by omega)
      have := ih (i + 1) (by omega)
      omega
    · omega
theorem wdI_le (hi : i ≤ n) : i ≤ (wdI B n i).2 ∧ (wdI B n i).2 ≤ n ∧ 0 ≤ (wdI B n i).1 ∧ (wdI B n i).1 ≤ 99 := by
  unfold wdI
  split
  · have a := dgt_in (B := B) (n := n) (i := i) (lo := 0) (by omega) (by assumption)
    split
    · have b := dgt_in (B := B) (n := n) (i := i + 1) (lo := 0) (by omega) (by assumption)
      dsimp only; omega
    · dsimp only; omega
  · dsimp only; omega
theorem fgI_le (hi : i ≤ n) : i ≤ (fgI B n i).2 ∧ (fgI B n i).2 ≤ n ∧ 0 ≤ (fgI B n i).1 ∧ (fgI B n i).1 ≤ 9 := by
  unfold fgI
  split
  · have a := dgt_in (B := B) (n := n) (i := i) (lo := 1) (by omega) (by assumption)
    dsimp only; omega
  · dsimp only; omega
theorem mkI_le {c : Int} (hc : c ≠ -1) (hi : i ≤ n) : i ≤ (mkI B n c i).2 ∧ (mkI B n c i).2 ≤ n ∧ 0 ≤ (mkI B n c i).1 ∧ (mkI B n c i).1 ≤ 9 := by
  unfold mkI
  split
  · have a : i < n := tb_in (B := B) (by omega)
    have := fgI_le (B := B) (n := n) (i := i + 1) (by omega)
    omega
  · dsimp only; omega
/-- the item's place and figures are in range -/
theorem itI_rng (hB : OKB B n) (W : Int) (hi : i ≤ n) : i ≤ (itI B n W i).1 ∧ (itI B n W i).1 ≤ n ∧ ∀ t, (itI B n W i).2 = some t → i < (itI B n W i).1 ∧ 0 ≤ t 0 ∧ t 0 ≤ 5 ∧ 1 ≤ t 1 ∧ t 1 ≤ W ∧ 1 ≤ t 2 ∧ t 2 ≤ 9 ∧ 1 ≤ t 3 ∧ t 3 ≤ 9 ∧ 1 ≤ t 4 ∧ t 4 ≤ 9 := by
  unfold itI
  by_cases c0 : kdF (tb B n i) = -1
  · rw [if_pos c0]
    exact ⟨Nat.le_refl _, hi, fun t h => by cases h⟩
  have h0 := kdF_in hB c0
  have k0 := kdF_rng (tb B n i)
  have h1 := wdI_le (B := B) (n := n) (i := i + 1) (by omega)
  rw [if_neg c0]
  by_cases c1 : ¬ (1 ≤ (wdI B n (i + 1)).1 ∧ (wdI B n (i + 1)).1 ≤ W)
  · rw [if_pos c1]
    exact ⟨by dsimp only; omega, by dsimp only; omega, fun t h => by cases h⟩
  rw [if_neg c1]
  by_cases c2 : ¬ tb B n (wdI B n (i + 1)).2 = 120
  · rw [if_pos c2]
    exact ⟨by dsimp only; omega, by dsimp only; omega, fun t h => by cases h⟩
  rw [if_neg c2]
  have h2 : (wdI B n (i + 1)).2 < n := tb_in (B := B) (by omega)
  generalize hw : wdI B n (i + 1) = w at *
  have h3 := fgI_le (B := B) (n := n) (i := w.2 + 1) (by omega)
  generalize hf : fgI B n (w.2 + 1) = f at *
  by_cases c3 : f.1 = 0
  · rw [if_pos c3]
    exact ⟨by dsimp only; omega, by dsimp only; omega, fun t h => by cases h⟩
  rw [if_neg c3]
  have h4 := mkI_le (B := B) (n := n) (i := f.2) (c := 58) (by decide) (by omega)
  generalize hm : mkI B n 58 f.2 = m at *
  by_cases c4 : m.1 = 0
  · rw [if_pos c4]
    exact ⟨by dsimp only; omega, by dsimp only; omega, fun t h => by cases h⟩
  rw [if_neg c4]
  have h5 := mkI_le (B := B) (n := n) (i := m.2) (c := 42) (by decide) (by omega)
  generalize hq : mkI B n 42 m.2 = q at *
  by_cases c5 : q.1 = 0
  · rw [if_pos c5]
    exact ⟨by dsimp only; omega, by dsimp only; omega, fun t h => by cases h⟩
  rw [if_neg c5]
  refine ⟨by dsimp only; omega, by dsimp only; omega, fun t h => ?_⟩
  cases h
  have c1' : 1 ≤ w.1 ∧ w.1 ≤ W := Decidable.not_not.mp c1
  show i < q.2 ∧ 0 ≤ kdF (tb B n i) ∧ kdF (tb B n i) ≤ 5 ∧ 1 ≤ w.1 ∧ w.1 ≤ W ∧ 1 ≤ f.1 ∧ f.1 ≤ 9 ∧ 1 ≤ m.1 ∧ m.1 ≤ 9 ∧ 1 ≤ q.1 ∧ q.1 ≤ 9
  omega
/-- the class's tape at a place -/
def TP (B : Nat → Int) (n : Nat) (J : sk_H) (i : Nat) : Prop := J 2 1 = n ∧ (∀ k, k < n → J 3 k = B k) ∧ J 2 4 = i
def MV (I J : sk_H) : Prop := (∀ b, b ≠ 2 → J b = I b) ∧ ∀ k, k ≠ 4 → J 2 k = I 2 k
theorem MV.rfl' (I : sk_H) : MV I I := ⟨fun _ _ => rfl, fun _ _ => rfl⟩
theorem MV.trans {I J K : sk_H} (h1 : MV I J) (h2 : MV J K) : MV I K := ⟨fun b hb => (h2.1 b hb).trans (h1.1 b hb), fun k hk => (h2.2 k hk).trans (h1.2 k hk)⟩
theorem MV.u (I : sk_H) (x : Int) : MV I (u2 I 2 4 x) := ⟨fun b hb => funext fun k => u2_ne _ _ (by omega), fun k hk => u2_ne _ _ (by omega)⟩
theorem TP.mv {j : Nat} (h : TP B n I i) (m : MV I J) (hj : J 2 4 = j) : TP B n J j := ⟨(m.2 1 (by omega)).trans h.1, fun k hk => by rw [m.1 3 (by omega)]; exact h.2.1 k hk, hj⟩
theorem TP.u {j : Nat} (h : TP B n I i) {x : Int} (hx : x = j) : TP B n (u2 I 2 4 x) j := h.mv (MV.u I x) ((u2_eq _ _ _ _).trans hx)
theorem m87 {d : Nat} (hd : 1 ≤ d) (hS : sk_G S) (hB : OKB B n) (h : TP B n J i) (hi : i ≤ 60) : sk_c d 87 [.ref 2] (sk_mk S J) = some (some (.int (sj (tb B n i))), sk_mk S J) := by
  have hn := hB.1
  obtain ⟨d, rfl⟩ : ∃ e, d = e + 1 := ⟨d - 1, by omega⟩; rw [sk_e87]
  rw [g2_i4b hS, g2_i1b hS, h.1, h.2.2]
  unfold tb
  by_cases c : i < n
  · rw [if_neg (kn_ge (by omega) (by omega) (by omega) (by omega) (by omega)), if_pos c, g2_r0b hS, g2_i4b hS, h.2.2, g3_ab hS (by omega) (by omega), Int.toNat_natCast, h.2.1 i c]
  · rw [if_pos (ky_ge (by omega) (by omega) (by omega) (by omega) (by omega)), if_neg c]
theorem m91 {d : Nat} (hd : 2 ≤ d) (hS : sk_G S) (hB : OKB B n) (h : TP B n J i) (hi : i ≤ 60) : sk_c d 91 [.ref 2] (sk_mk S J) = some (some (.int (sj (bi (dgt (tb B n i) 0)))), sk_mk S J) := by
  have r := tb_rng hB i
  obtain ⟨d, rfl⟩ : ∃ e, d = e + 1 := ⟨d - 1, by omega⟩; rw [sk_e91]
  rw [g2_ob hS, m87 (by omega) hS hB h hi, sk_ci_some]
  unfold dgt
  by_cases c : tb B n i < 48
  · rw [if_pos (ky_lt (by omega) (by omega) (by omega) (by omega) c), decide_eq_false (by omega)]; rfl
  · rw [if_neg (kn_lt (by omega) (by omega) (by omega) (by omega) (by omega)), g2_ob hS, m87 (by omega) hS hB h hi, sk_ci_some]
    by_cases e : 57 < tb B n i
    · rw [if_pos (ky_gt (by omega) (by omega) (by omega) (by omega) e), decide_eq_false (by omega)]; rfl
    · rw [if_neg (kn_gt (by omega) (by omega) (by omega) (by omega) (by omega)), decide_eq_true (by omega)]; rfl
theorem m88 {d : Nat} (hd : 1 ≤ d) (hS : sk_G S) (hB : OKB B n) (h : TP B n J i) (hi : i ≤ n) : ∃ J', sk_c d 88 [.ref 2] (sk_mk S J) = some (none, sk_mk S J') ∧ TP B n J' (skp B n 60 i) ∧ MV J J' := by
  have hn := hB.1
  obtain ⟨d, rfl⟩ : ∃ e, d = e + 1 := ⟨d - 1, by omega⟩; rw [sk_e88]
  have key : ∀ m i J, TP B n J i → i ≤ n → n ≤ i + m → ∃ J', sk_D88 d 0 [some (.ref 2)] [] (sk_mk S J) = some (none, sk_mk S J') ∧ TP B n J' (skp B n m i) ∧ MV J J' := by
    intro m
    induction m with
    | zero =>
      intro i J h hi hm
      refine ⟨J, ?_, h, MV.rfl' J⟩
      rw [sk_e88_0, g2_i4b hS, g2_i1b hS, h.1, h.2.2, if_pos (ky_ge (by omega) (by omega) (by omega) (by omega) (by omega))]
    | succ m ih =>
      intro i J h hi hm
      unfold skp
      by_cases c : i < n
      · have tbi : tb B n i = B i := if_pos c
        have r := tb_rng hB i
        have t2 : (i : Int) + 1 = ((i + 1 : Nat) : Int) := rfl
        by_cases c1 : tb B n i = 32 ∨ tb B n i = 10
        · obtain ⟨J', e, a1, a2⟩ := ih (i + 1) (u2 J 2 4 ((i : Int) + 1)) (h.u t2) (by omega) (by omega)
          refine ⟨J', ?_, ?_, (MV.u J _).trans a2⟩
          · rw [sk_e88_0, g2_i4b hS, g2_i1b hS, h.1, h.2.2, if_neg (kn_ge (by omega) (by omega) (by omega) (by omega) (by omega)), g2_r0b hS, g2_i4b hS, h.2.2, g3_ab hS (by omega) (by omega), Int.toNat_natCast, h.2.1 i c, ← tbi]
            by_cases c2 : tb B n i = 32
            · rw [if_pos (ky_eq c2), g2_i4b hS, h.2.2, sj_add, g2_u4b hS]
              exact e
            · rw [if_neg (kn_eq (by omega) (by omega) (by omega) (by omega) c2), g2_r0b hS, g2_i4b hS, h.2.2, g3_ab hS (by omega) (by omega), Int.toNat_natCast, h.2.1 i c, ← tbi, if_neg (kn_ne (by omega)), g2_i4b hS, h.2.2, sj_add, g2_u4b hS]
              exact e
          · rw [if_pos c1]; exact a1
        · refine ⟨J, ?_, ?_, MV.rfl' J⟩
          · rw [sk_e88_0, g2_i4b hS, g2_i1b hS, h.1, h.2.2, if_neg (kn_ge (by omega) (by omega) (by omega) (by omega) (by omega)), g2_r0b hS, g2_i4b hS, h.2.2, g3_ab hS (by omega) (by omega), Int.toNat_natCast, h.2.1 i c, ← tbi, if_neg (kn_eq (by omega) (by omega) (by omega) (by omega) (by omega)), g2_r0b hS, g2_i4b hS, h.2.2, g3_ab hS (by omega) (by omega), Int.toNat_natCast, h.2.1 i c, ← tbi, if_pos (ky_ne (by omega) (by omega) (by omega) (by omega) (by omega))]
          · rw [if_neg c1]; exact h
      · have tbi : tb B n i = -1 := if_neg c
        refine ⟨J, ?_, ?_, MV.rfl' J⟩
        · rw [sk_e88_0, g2_i4b hS, g2_i1b hS, h.1, h.2.2, if_pos (ky_ge (by omega) (by omega) (by omega) (by omega) (by omega))]
        · rw [if_neg (by omega)]; exact h
  exact key 60 i J h hi (by omega)
theorem m90 {d : Nat} (hd : 1 ≤ d) {b : Int} (b1 : -1 ≤ b) (b2 : b ≤ 255) {w : sk_W} : sk_c d 90 [.int (sj b)] w = some (some (.int (sj (kdF b))), w) := by
  obtain ⟨d, rfl⟩ : ∃ e, d = e + 1 := ⟨d - 1, by omega⟩; rw [sk_e90]
  rw [sj_toInt (by omega) (by omega)]
  unfold kdF
  by_cases c1 : b = 112
  · subst c1; rfl
  by_cases c2 : b = 116
  · subst c2; rfl
  by_cases c3 : b = 103
  · subst c3; rfl
  by_cases c4 : b = 99
  · subst c4; rfl
  by_cases c5 : b = 115
  · subst c5; rfl
  by_cases c6 : b = 104
  · subst c6; rfl
  rw [if_neg c1, if_neg c2, if_neg c3, if_neg c4, if_neg c5, if_neg c6, if_neg c4, if_neg c3, if_neg c6, if_neg c1, if_neg c5, if_neg c2]
  simp only [ite_self]
theorem m93 {d : Nat} (hd : 3 ≤ d) (hS : sk_G S) (hB : OKB B n) (h : TP B n J i) (hi : i ≤ n) : ∃ J', sk_c d 93 [.ref 2] (sk_mk S J) = some (some (.int (sj (fgI B n i).1)), sk_mk S J') ∧ TP B n J' (fgI B n i).2 ∧ MV J J' := by
  have hn := hB.1
  have r := tb_rng hB i
  obtain ⟨d, rfl⟩ : ∃ e, d = e + 1 := ⟨d - 1, by omega⟩; rw [sk_e93]
  rw [g2_ob hS, m91 (by omega) hS hB h (by omega), sk_ci_some]
  unfold fgI
  by_cases c : dgt (tb B n i) 1 = true
  · have c' := dgt_in (by omega) c
    have c0 : dgt (tb B n i) 0 = true := by unfold dgt; rw [decide_eq_true (by omega)]
    refine ⟨u2 J 2 4 ((i : Int) + 1), ?_, ?_, MV.u _ _⟩
    · rw [c0, if_neg ct_beq, g2_ob hS, m87 (by omega) hS hB h (by omega), sk_ci_some, if_pos (ky_ne (by omega) (by omega) (by omega) (by omega) (by omega)), g2_ob hS, m87 (by omega) hS hB h (by omega), sk_ci_some, g2_i4b hS, h.2.2, sj_add, g2_u4b hS, if_pos c, sj_sub]
    · rw [if_pos c]; exact h.u rfl
  · refine ⟨J, ?_, ?_, MV.rfl' J⟩
    · rw [if_neg c]
      by_cases c0 : dgt (tb B n i) 0 = true
      · have c1 := dgt_in (by omega) c0
        have c2 : tb B n i = 48 := by
          by_cases e : tb B n i = 48
          · exact e
          · exact absurd (show dgt (tb B n i) 1 = true by unfold dgt; rw [decide_eq_true (by omega)]) c
        rw [c0, if_neg ct_beq, g2_ob hS, m87 (by omega) hS hB h (by omega), sk_ci_some, if_neg (kn_ne c2)]
      · rw [eq_false_of_ne_true c0, if_pos cf_beq]
    · rw [if_neg c]; exact h
theorem m94 {d : Nat} (hd : 4 ≤ d) (hS : sk_G S) (hB : OKB B n) (h : TP B n J i) (hi : i ≤ n) {c : Int} (c1 : 0 ≤ c) (c2 : c ≤ 255) : ∃ J', sk_c d 94 [.ref 2, .int (sj c)] (sk_mk S J) = some (some (.int (sj (mkI B n c i).1)), sk_mk S J') ∧ TP B n J' (mkI B n c i).2 ∧ MV J J' := by
  have hn := hB.1
  have r := tb_rng hB i
  obtain ⟨d, rfl⟩ : ∃ e, d = e + 1 := ⟨d - 1, by omega⟩; rw [sk_e94]
  rw [g2_ob hS, m87 (by omega) hS hB h (by omega), sk_ci_some]
  unfold mkI
  by_cases e : tb B n i = c
  · have hi' : i < n := tb_in (B := B) (by omega)
    obtain ⟨J', e', a1, a2⟩ := m93 (S := S) (J := u2 J 2 4 ((i : Int) + 1)) (d := d) (by omega) hS hB (h.u (j := i + 1) rfl) (by omega)
    refine ⟨J', ?_, ?_, (MV.u J _).trans a2⟩
    · rw [if_pos (ky_eq e), g2_i4b hS, h.2.2, sj_add, g2_u4b hS, g2_ob hS, e', sk_ci_some, if_pos e]
    · rw [if_pos e]; exact a1
  · refine ⟨J, ?_, ?_, MV.rfl' J⟩
    · rw [if_neg (kn_eq (by omega) (by omega) (by omega) (by omega) e), if_neg e]
    · rw [if_neg e]; exact h
theorem m92 {d : Nat} (hd : 3 ≤ d) (hS : sk_G S) (hB : OKB B n) (h : TP B n J i) (hi : i ≤ n) {W : Int} (w1 : 1 ≤ W) (w2 : W ≤ 20) : ∃ J', sk_c d 92 [.ref 2, .int (sj W)] (sk_mk S J) = some (some (.int (sj (if 1 ≤ (wdI B n i).1 ∧ (wdI B n i).1 ≤ W then (wdI B n i).1 else 0))), sk_mk S J') ∧ TP B n J' (if 1 ≤ (wdI B n i).1 ∧ (wdI B n i).1 ≤ W then (wdI B n i).2 else i) ∧ MV J J' := by
  have hn := hB.1
  have wr := wdI_le (B := B) (n := n) (i := i) hi
  obtain ⟨d, rfl⟩ : ∃ e, d = e + 1 := ⟨d - 1, by omega⟩; rw [sk_e92]
  rw [g2_i4b hS, h.2.2]
  have fin : ∀ (K : sk_H) (o4 : Option Value), TP B n K (wdI B n i).2 → MV J K → ∃ J', sk_D92 d 57 [some (.ref 2), some (.int (sj W)), some (.int (sj (i : Int))), some (.int (sj (wdI B n i).1)), o4] [] (sk_mk S K) = some (some (.int (sj (if 1 ≤ (wdI B n i).1 ∧ (wdI B n i).1 ≤ W then (wdI B n i).1 else 0))), sk_mk S J') ∧ TP B n J' (if 1 ≤ (wdI B n i).1 ∧ (wdI B n i).1 ≤ W then (wdI B n i).2 else i) ∧ MV J J' := by
    intro K o4 hK mK
    rw [sk_e92_57]
    by_cases c : 1 ≤ (wdI B n i).1
    · rw [if_neg (kn_lt (by omega) (by omega) (by omega) (by omega) (by omega))]
      by_cases e : (wdI B n i).1 ≤ W
      · rw [if_neg (kn_gt (by omega) (by omega) (by omega) (by omega) (by omega)), if_pos ⟨c, e⟩, if_pos ⟨c, e⟩]
        exact ⟨K, rfl, hK, mK⟩
      · rw [if_pos (ky_gt (by omega) (by omega) (by omega) (by omega) (by omega)), if_neg (fun h => e h.2), if_neg (fun h => e h.2), g2_u4b hS]
        exact ⟨_, rfl, hK.u rfl, mK.trans (MV.u _ _)⟩
    · rw [if_pos (ky_lt (by omega) (by omega) (by omega) (by omega) (by omega)), if_neg (fun h => c h.1), if_neg (fun h => c h.1), g2_u4b hS]
      exact ⟨_, rfl, hK.u rfl, mK.trans (MV.u _ _)⟩
  have r0 := tb_rng hB i
  by_cases c : dgt (tb B n i) 0 = true
  rotate_left
  · have ew : wdI B n i = (0, i) := by unfold wdI; rw [if_neg c]
    rw [sk_e92_10, if_neg (by decide), g2_ob hS, m91 (by omega) hS hB h (by omega), sk_ci_some, eq_false_of_ne_true c, if_pos cf_beq]
    have := fin J (some (.int (sj 0))) (by rw [ew]; exact h) (MV.rfl' J)
    rw [ew] at this ⊢
    exact this
  have c' := dgt_in (by omega) c
  have tbi : tb B n i = B i := if_pos c'.1
  have h1 : TP B n (u2 J 2 4 ((i : Int) + 1)) (i + 1) := h.u rfl
  have r1 := tb_rng hB (i + 1)
  rw [sk_e92_10, if_neg (by decide), g2_ob hS, m91 (by omega) hS hB h (by omega), sk_ci_some, c, if_neg ct_beq, g2_r0b hS, g2_i4b hS, h.2.2, g3_ab hS (by omega) (by omega), Int.toNat_natCast, h.2.1 i c'.1, ← tbi, g2_i4b hS, h.2.2, sj_add, g2_u4b hS, sj_mul, sj_add, sj_sub, sj_add]
  rw [show (10 : Int) * 0 + tb B n i - 48 = tb B n i - 48 by omega, sk_e92_10, if_neg (by decide), g2_ob hS, m91 (by omega) hS hB h1 (by omega), sk_ci_some]
  by_cases e : dgt (tb B n (i + 1)) 0 = true
  · have e' := dgt_in (by omega) e
    have tbi1 : tb B n (i + 1) = B (i + 1) := if_pos e'.1
    have h11 := h1.2.2
    have ew : wdI B n i = (10 * (tb B n i - 48) + tb B n (i + 1) - 48, i + 2) := by unfold wdI; rw [if_pos c, if_pos e]
    rw [e, if_neg ct_beq, g2_r0b hS, g2_i4b hS, h11, g3_ab hS (by omega) (by omega), Int.toNat_natCast, h1.2.1 (i + 1) e'.1, ← tbi1, g2_i4b hS, h11, sj_add, g2_u4b hS, sj_mul, sj_add, sj_sub, sj_add, sk_e92_10, if_pos (by decide)]
    have := fin (u2 (u2 J 2 4 ((i : Int) + 1)) 2 4 (((i + 1 : Nat) : Int) + 1)) (some (.int (sj (0 + 1 + 1)))) (by rw [ew]; exact h1.u rfl) ((MV.u _ _).trans (MV.u _ _))
    rw [ew] at this ⊢
    exact this
  · have ew : wdI B n i = (tb B n i - 48, i + 1) := by unfold wdI; rw [if_pos c, if_neg e]
    rw [eq_false_of_ne_true e, if_pos cf_beq]
    have := fin (u2 J 2 4 ((i : Int) + 1)) (some (.int (sj (0 + 1)))) (by rw [ew]; exact h1) (MV.u _ _)
    rw [ew] at this ⊢
    exact this
end TAP
