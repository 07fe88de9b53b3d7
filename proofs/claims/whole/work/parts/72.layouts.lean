/-! ===== layouts ===== -/
section LYZ
variable {S : List sk_Sh} {I v : sk_H}
def RY (I J : sk_H) : Prop := (∀ c, c ≠ 105 → c ≠ 107 → c ≠ 113 → c ≠ 114 → J c = I c) ∧ ∀ k, ¬ (7 ≤ k ∧ k ≤ 10) → J 105 k = I 105 k
theorem RY.trans {I J K : sk_H} (h1 : RY I J) (h2 : RY J K) : RY I K := ⟨fun c a b e f => (h2.1 c a b e f).trans (h1.1 c a b e f), fun k hk => (h2.2 k hk).trans (h1.2 k hk)⟩
theorem RY.of {I J : sk_H} (h : ∀ c, c ≠ 107 → c ≠ 113 → c ≠ 114 → J c = I c) : RY I J := ⟨fun c _ b e f => h c b e f, fun k _ => by rw [h 105 (by omega) (by omega) (by omega)]⟩
theorem RY.ofFS {I J : sk_H} (h : FS I J) : RY I J := ⟨fun c a b _ _ => h.1 c a b, h.2⟩
theorem r203_36 {d : Nat} (hd : 8 ≤ d + 1) (hS : sk_G S) {n L : Nat} {W : Int} (hW : W ≤ 20) (hL : L ≤ 10) (h5 : n ≤ 5) (x : Int) : ∀ (m t : Nat) (K v : sk_H) (s : sk_Ly) (o3 o4 : Option Value), t + m = 120 → trmF leI n m (v 9) = true → RP K 107 v → VT v → v 0 2 = n → v 0 0 = W → fxN v = (L : Int) - n → RLs K L s → OKs L W s → GS s t → ∃ K', sk_D203 d 36 [some (.ref 105), some (.int (sj x)), some (.int (sj (s.1 : Int))), o3, o4] [] (sk_mk S K) = sk_D203 d 149 [some (.ref 105), some (.int (sj x)), some (.int (sj ((lyF n L m v s).1 : Int))), some (.int (sj 0)), some (.int (sj 0))] [] (sk_mk S K') ∧ (∀ i, i < (lyF n L m v s).1 → K' 114 i = (lyF n L m v s).2.2 i) ∧ (∀ k, k < 1141 → K' 107 k = K 109 k) ∧ RY K K' := by
  intro m
  induction m with
  | zero => intro t K v s o3 o4 _ ht; cases ht
  | succ m ih =>
    intro t K v s o3 o4 htm ht hR hT hn h0 hfn hK hO hg
    obtain ⟨K1, e1, k1, f1⟩ := m184 (S := S) (I := K) (d := d) (by omega) hS hR hT.1
    have r := rnV_inv hT.1
    have h2 : (rnV v).1 0 2 = n := (r.2.1 0 2 (by omega) (by omega)).trans hn
    have hw0 : (rnV v).1 0 0 = W := (r.2.1 0 0 (by omega) (by omega)).trans h0
    have h9 : (rnV v).1 9 = v 9 := funext fun k => r.2.1 9 k (by omega) (by omega)
    have z2 : (2 : Int).toNat = 2 := rfl
    have q2 : K1 107 2 = n := (k1.1 2 (by omega)).trans h2
    have y1 := RY.ofFS f1
    have go : ∀ (J : sk_H) (s' : sk_Ly) (p3 p4 : Option Value), RP J 107 (rnV v).1 → RLs J L s' → OKs L W s' → GS s' (t + 1) → RY K J → ∃ K', (sk_ci (sk_c d 198 [.ref 105] (sk_mk S J)) fun v5 w4 => if sk_cond .ne v5 (sj 0) = true then sk_D203 d 36 [some (.ref 105), some (.int (sj x)), some (.int (sj (s'.1 : Int))), p3, p4] [] w4 else if sk_isO w4 105 11 = true then sk_cv (sk_c d 147 [.ref 105, .int (sj 2)] w4) fun w6 => sk_D203 d 149 [some (.ref 105), some (.int (sj x)), some (.int (sj (s'.1 : Int))), some (.int (sj 0)), some (.int (sj 0))] [] w6 else none) = sk_D203 d 149 [some (.ref 105), some (.int (sj x)), some (.int (sj ((match nxF leI n ((rnV v).1 9) with | none => s' | some g => lyF n L m (st9 (rnV v).1 g) s').1 : Int))), some (.int (sj 0)), some (.int (sj 0))] [] (sk_mk S K') ∧ (∀ i, i < (match nxF leI n ((rnV v).1 9) with | none => s' | some g => lyF n L m (st9 (rnV v).1 g) s').1 → K' 114 i = (match nxF leI n ((rnV v).1 9) with | none => s' | some g => lyF n L m (st9 (rnV v).1 g) s').2.2 i) ∧ (∀ k, k < 1141 → K' 107 k = K 109 k) ∧ RY K K' := by
      intro J s' p3 p4 j1 j2 j3 j4 j5
      obtain ⟨no, so⟩ := m198 (S := S) (I := J) (d := d) (by omega) hS j1 r.1 h2
      cases hx2 : nxF leI n ((rnV v).1 9) with
      | none =>
        obtain ⟨Q, el, c1, f2⟩ := m147 (S := S) (I := J) (d := d) (by omega) hS (m := 2) (by omega)
        have el : sk_c d 147 [.ref 105, .int (sj 2)] (sk_mk S J) = some (none, sk_mk S Q) := el
        refine ⟨Q, ?_, fun i hi => by rw [f2 114 (by omega)]; exact j2.2 i hi, fun k hk => ?_, j5.trans (RY.of fun c h _ _ => f2 c h)⟩
        · rw [no hx2, sk_ci_some, if_neg (kn_ne rfl), g105_ob hS, el, sk_cv_some]
        · rw [c1 k hk]
          show J 109 k = _
          rw [j5.1 109 (by omega) (by omega) (by omega) (by omega)]
      | some g =>
        obtain ⟨Q, el, c1, c2⟩ := so g hx2
        have ht2 : trmF leI n m g = true := by
          unfold trmF at ht
          rw [← h9, hx2] at ht
          exact ht
        have hKQ : RLs Q L s' := ⟨fun i hi q hq => by unfold rwR; rw [c2 113 (by omega)]; exact j2.1 i hi q hq, fun i hi => by rw [c2 114 (by omega)]; exact j2.2 i hi⟩
        obtain ⟨K', e, a1, a2, a3⟩ := ih (t + 1) Q (st9 (rnV v).1 g) s' p3 p4 (by omega) (by rw [st9_9]; exact ht2) c1 (VT_nx r.1 h2 hx2) ((st9_ne _ _ _ (by omega)).trans h2) ((st9_ne _ _ _ (by omega)).trans hw0) ((fx_next hT.1 g).trans hfn) hKQ j3 j4
        refine ⟨K', ?_, a1, fun k hk => ?_, j5.trans ((RY.of fun c h _ _ => c2 c h).trans a3)⟩
        · rw [el, sk_ci_some, if_pos (by decide)]
          exact e
        · rw [a2 k hk, c2 109 (by omega), j5.1 109 (by omega) (by omega) (by omega) (by omega)]
    have hK1 : RLs K1 L s := ⟨fun i hi q hq => by unfold rwR; rw [f1.1 113 (by omega) (by omega)]; exact hK.1 i hi q hq, fun i hi => by rw [f1.1 114 (by omega) (by omega)]; exact hK.2 i hi⟩
    unfold lyF
    rw [sk_e203_36, g105_ob hS, e1, sk_ci_some, g105_r1b hS, g107_ab hS (by omega) (by omega), z2, q2]
    by_cases c : (rnV v).2 = n
    rotate_left
    · rw [if_neg (kn_ge (by omega) (by omega) (by omega) (by omega) (by omega)), g105_ob hS, if_neg c]
      exact go K1 s o3 o4 k1 hK1 hO (GS_mono hg) y1
    have eL := lay_L hT.1 hn hfn c
    have hs120 : s.1 < 120 := by have := hg.1; omega
    have hA : okA L W (layA (rnV v).1) := fun k hk => by
      have h := layA_ok r.1.1 k (by omega)
      rw [hw0] at h
      exact h
    obtain ⟨K2, e2, a2, b2, c2⟩ := m201 (S := S) (K := K1) (d := d) (by omega) hS k1 r.1.1 (r := s.1) (by omega) (o := 0) (Or.inl rfl)
    have k2 : RP K2 107 (rnV v).1 := k1.fr (b2 107 (by omega))
    obtain ⟨K3, e3, a3, b3, c3⟩ := m201 (S := S) (K := K2) (d := d) (by omega) hS k2 r.1.1 (r := 121) (by omega) (o := 1) (Or.inr rfl)
    have e3 : sk_c d 201 [.ref 105, .int (sj 121), .int (sj 1)] (sk_mk S K2) = _ := e3
    rw [hw0, eL] at a2 a3
    have k3 : RP K3 107 (rnV v).1 := k2.fr (b3 107 (by omega))
    have y3 : RY K K3 := y1.trans (RY.of fun c _ h _ => (b3 c h).trans (b2 c h))
    have ha : EQ L (rwR K3 s.1) (srF L (fun k => RI (layA (rnV v).1 k))) := fun k hk => by
      have e : rwR K3 s.1 k = rwR K2 s.1 k := c3 _ (by omega)
      rw [e]
      exact (a2 k hk).trans rfl
    have hm : EQ L (rwR K3 121) (srF L (fun k => RI (MI W (layA (rnV v).1 k)))) := a3
    have hK3 : RLs K3 L s := ⟨fun i hi q hq => by
      have e : rwR K3 i q = rwR K1 i q := (c3 _ (by omega)).trans (c2 _ (by omega))
      rw [e]; exact hK1.1 i hi q hq, fun i hi => by rw [b3 114 (by omega), b2 114 (by omega)]; exact hK1.2 i hi⟩
    have e70 := r203_70 (S := S) (d := d) (by omega) hS hW hL hs120 hO hK3 hA ha hm x s.1 0 (by omega)
    have e70 : sk_D203 d 70 [some (.ref 105), some (.int (sj x)), some (.int (sj (s.1 : Int))), some (.int (sj (L : Int))), some (.int (sj 0))] [] (sk_mk S K3) = _ := e70
    have fl := fdI_le (fun j => alkF L W (s.2.1 j) (layA (rnV v).1)) s.1 0
    have hOu := OKs_up hO hA
    have hGu := GS_up (L := L) (W := W) hg (layA (rnV v).1)
    rw [if_pos (ky_ge (by omega) (by omega) (by omega) (by omega) (by omega)), g105_ob hS, e2, sk_ci_some, g105_ob hS, e3, sk_ci_some, if_pos c, h0, eL, e70]
    unfold lyU lyI at hOu hGu ⊢
    generalize layA (rnV v).1 = A at *
    generalize fdI (fun j => alkF L W (s.2.1 j) A) s.1 0 = i at *
    by_cases ci : i = s.1
    · rw [if_pos ci] at hOu hGu ⊢
      rw [if_pos ci, sk_e203_121, g105_r13b hS, g114_ab hS (by omega) (by omega), Int.toNat_natCast, u2_eq, sj_add, g114_sb hS (by omega) (by omega), Int.toNat_natCast, g105_ob hS]
      refine go (u2 (u2 K3 114 s.1 0) 114 s.1 (0 + 1)) (s.1 + 1, (fun j => if j = s.1 then A else s.2.1 j), fun j => if j = s.1 then 1 else s.2.2 j) _ _ (k3.fr (funext fun k => by rw [u2_ne _ _ (by omega), u2_ne _ _ (by omega)])) ⟨fun j hj q hq => ?_, fun j hj => ?_⟩ hOu hGu (y3.trans (RY.of fun c _ _ h => funext fun k => by rw [u2_ne _ _ (by omega), u2_ne _ _ (by omega)]))
      · have e : rwR (u2 (u2 K3 114 s.1 0) 114 s.1 (0 + 1)) j q = rwR K3 j q := by unfold rwR; rw [u2_ne _ _ (by omega), u2_ne _ _ (by omega)]
        rw [e]
        dsimp only at hj ⊢
        by_cases f : j = s.1
        · rw [if_pos f, f]; exact ha q hq
        · rw [if_neg f]; exact hK3.1 j (by omega) q hq
      · dsimp only at hj ⊢
        by_cases f : j = s.1
        · rw [if_pos f, f, u2_eq]; rfl
        · rw [if_neg f, u2_ne _ _ (by omega), u2_ne _ _ (by omega)]; exact hK3.2 j (by omega)
    · rw [if_neg ci] at hOu hGu ⊢
      have hi : i < s.1 := by omega
      rw [if_neg ci, sk_e203_121, g105_r13b hS, g114_ab hS (by omega) (by omega), Int.toNat_natCast, hK3.2 i hi, sj_add, g114_sb hS (by omega) (by omega), Int.toNat_natCast, g105_ob hS]
      refine go (u2 K3 114 i (s.2.2 i + 1)) (s.1, s.2.1, fun j => if j = i then s.2.2 j + 1 else s.2.2 j) _ _ (k3.fr (funext fun k => u2_ne _ _ (by omega))) ⟨fun j hj q hq => ?_, fun j hj => ?_⟩ hOu hGu (y3.trans (RY.of fun c _ _ h => funext fun k => u2_ne _ _ (by omega)))
      · have e : rwR (u2 K3 114 i (s.2.2 i + 1)) j q = rwR K3 j q := by unfold rwR; rw [u2_ne _ _ (by omega)]
        rw [e]
        exact hK3.1 j hj q hq
      · dsimp only at hj ⊢
        by_cases f : j = i
        · rw [if_pos f, f, u2_eq]
        · rw [if_neg f, u2_ne _ _ (by omega)]; exact hK3.2 j hj
end LYZ
