/-! ===== laying a part: both ways ===== -/
theorem rG_sky (v : sk_H) (x w : Nat) (y : Int) (n k : Nat) : (rG v x w y n).1 10 k = v 10 k := rG_same v x w y n (by omega) (by omega)
/-- what the raising of the skyline asks for -/
theorem ras_ok {v : sk_H} (hT : VT v) {p : Nat} (hp : (p : Int) < v 0 1) (h0 : v 5 p = 0) {o : Int} (ho : o = 0 ∨ o = 1) {x : Nat} (hx : (x : Int) + acr v p o ≤ v 0 0) : ldN v ≤ 9 ∧ 0 ≤ rsY v p x o ∧ rsY v p x o ≤ 70 + 21 * ldN v ∧ ∀ c, x ≤ c → c < x + (acr v p o).toNat → v 10 c ≤ rsY v p x o := by
  obtain ⟨hV, hH, hS, -⟩ := hT
  obtain ⟨n1, n2, n3, n4, n5, n6, n7, n8, n9, n10, n11, n12⟩ := hV.1
  have ha := acr_rng hV.1 (vo_p hV hp) o
  have hl : ldN v < v 0 1 := by
    have := cntTo_lt (n := (v 0 1).toNat) (P := fun p => decide (2 ≤ v 5 p)) (Q := fun _ => true) (fun _ _ _ => rfl) (p := p) (by omega) rfl (by simp [h0])
    have h2 := cntTo_rng (v 0 1).toNat (fun _ => true)
    unfold ldN
    omega
  have hl0 := (ldN_rng hV).1
  have hx2 : (x : Int) + ((acr v p o).toNat : Int) ≤ v 0 0 := by omega
  have hr := cnd_rng hV hp ho hx
  refine ⟨by omega, hr.1, ?_, ?_⟩
  · have hm : skyMx v x (acr v p o).toNat ≤ 70 + 21 * ldN v := skyMx_le (by omega) (fun c h1 h2 => hH c (by omega))
    rcases restF_70 hV 10 (skyMx v x (acr v p o).toNat) (x := x) (w := (acr v p o).toNat) (t := tal v p o) with h | h
    · exact Int.le_trans h hm
    · have h : rsY v p x o ≤ 70 := h
      omega
  · intro c h1 h2
    have hf := (restV_free hV (t := tal v p o) hx2).1
    exact Int.le_trans (skyMx_ge h1 h2) hf
theorem bndN_rng (v : sk_H) (x w k : Nat) : 0 ≤ bndN v x w k ∧ bndN v x w k ≤ k := cntTo_rng _ _
theorem raisV_z (v : sk_H) (x w : Nat) (y t : Int) {s k : Nat} (hs : ¬ (10 ≤ s ∧ s ≤ 14)) (hk : ¬ (s = 0 ∧ k = 5)) : raisV v x w y t s k = v s k := by
  unfold raisV
  rw [sky_ne _ _ _ _ (by omega), rG_same v x w y w (by omega) hk]
theorem VT_setV {v : sk_H} (hT : VT v) {p : Nat} (hp : (p : Int) < v 0 1) (h0 : v 5 p = 0) {q : sk_Q} (hq : FQ v p q) : VT (setV v p q) := by
  have hV := hT.1
  obtain ⟨n1, n2, n3, n4, n5, n6, n7, n8, n9, n10, n11, n12⟩ := hV.1
  obtain ⟨ho, hq⟩ := hq
  have ha := acr_rng hV.1 (vo_p hV hp) q.2.2.1
  have ht := tal_rng hV.1 (vo_p hV hp) q.2.2.1
  have hl := ldN_rng hV
  unfold setV
  rcases hq with ⟨c1, x, c2, c3, c4⟩ | ⟨k, c1, c2, c3, c4, c5, c6⟩
  · obtain ⟨r1, r2, r3, r4⟩ := ras_ok hT hp h0 ho c3
    rw [if_pos c1, c2, c4, Int.toNat_natCast]
    rw [← c4] at r2 r3 r4 ⊢
    obtain ⟨w, hw⟩ : ∃ w : Nat, acr v p q.2.2.1 = w := ⟨(acr v p q.2.2.1).toNat, by omega⟩
    rw [hw] at ha c3 r4 ⊢
    rw [Int.toNat_natCast] at r4 ⊢
    have hlv : VO (lieV v p (x : Int) q.2.1 q.2.2.1 2) := VO_lieV hV hp (by omega) (by rw [hw]; exact c3) r2 (by omega) ho (by omega) (by omega) (by omega)
    have hld := ldN_lie hV hp h0 (x := (x : Int)) (y := q.2.1) (o := q.2.2.1) (how := 2) (by omega)
    have z0 := fun k => lie_ne v p (x : Int) q.2.1 q.2.2.1 2 (s := 0) (k := k) (by omega)
    have z10 := fun k => lie_ne v p (x : Int) q.2.1 q.2.2.1 2 (s := 10) (k := k) (by omega)
    generalize hL : lieV v p (x : Int) q.2.1 q.2.2.1 2 = L at *
    have hbr := bndN_rng L x w w
    have inv := rG_inv hlv (x := x) (w := w) (y := q.2.1) (by rw [z0]; exact c3) (fun c h1 h2 => by rw [z10]; exact r4 c h1 h2) (by omega) (by
      rw [z0]
      have := hT.2.2.1
      have h2 := cntTo_rng ((v 0 0).toNat - 1) (fun c => decide (v 10 (c + 1) ≠ v 10 c))
      unfold segN at this
      omega) w (Nat.le_refl _)
    have hld2 : ldN (raisV L x w q.2.1 (tal v p q.2.2.1)) = ldN v + 1 := by
      rw [← hld]
      unfold ldN
      rw [raisV_z _ _ _ _ _ (by omega) (by omega), show raisV L x w q.2.1 (tal v p q.2.2.1) 5 = L 5 from funext fun k => raisV_z _ _ _ _ _ (by omega) (by omega)]
    refine ⟨VO_skyS inv.1 (by omega) (by omega), ?_, ?_, fun _ => ⟨x, ?_, ?_⟩⟩
    · intro c hc
      rw [raisV_z _ _ _ _ _ (by omega) (by omega), z0] at hc
      rw [hld2]
      unfold raisV skyS
      split
      · omega
      · rw [rG_sky, z10]
        have := hT.2.1 c hc
        omega
    · rw [hld2]
      have e5 : raisV L x w q.2.1 (tal v p q.2.2.1) 0 5 = (rG L x w q.2.1 w).1 0 5 := sky_ne _ _ _ _ (by omega)
      have hs := seg_raise (v := L) (v' := raisV L x w q.2.1 (tal v p q.2.2.1)) (x := x) (w := w) (by omega) (h := q.2.1 + tal v p q.2.2.1) (fun c h1 h2 => by unfold raisV skyS; rw [if_pos (by omega)]) (fun c hc => by unfold raisV skyS; rw [if_neg (by omega), rG_sky]) ((v 0 0).toNat - 1) (by omega)
      have hsv : segN (raisV L x w q.2.1 (tal v p q.2.2.1)) = 1 + cntTo ((v 0 0).toNat - 1) (fun c => decide (raisV L x w q.2.1 (tal v p q.2.2.1) 10 (c + 1) ≠ raisV L x w q.2.1 (tal v p q.2.2.1) 10 c)) := by
        unfold segN
        rw [raisV_z _ _ _ _ _ (s := 0) (k := 0) (by omega) (by omega), z0]
      have hsL : cntTo ((v 0 0).toNat - 1) (fun c => decide (L 10 (c + 1) ≠ L 10 c)) = segN v - 1 := by
        unfold segN
        rw [show L 10 = v 10 from funext z10]
        omega
      have i2 := inv.2.1
      rw [z0] at i2
      have := hT.2.2.1
      omega
    · rw [raisV_z _ _ _ _ _ (by omega) (by omega), z0]
      omega
    · unfold raisV skyS
      rw [if_pos (by omega)]
      omega
  · have hk1 : ¬ q.2.2.2.1 = -1 := by omega
    rw [if_neg hk1, c1, Int.toNat_natCast]
    have hW := hV.2.2.2.2 k c2
    have hlv : VO (lieV v p q.1 q.2.1 q.2.2.1 3) := VO_lieV hV hp (by omega) (by omega) (by omega) (by omega) ho (by omega) (by omega) (by omega)
    have hld := ldN_lie hV hp h0 (x := q.1) (y := q.2.1) (o := q.2.2.1) (how := 3) (by omega)
    have zz := fun s k (h : s = 0 ∨ 10 ≤ s ∧ s ≤ 14) => lie_ne v p q.1 q.2.1 q.2.2.1 3 (s := s) (k := k) (by omega)
    generalize hL : lieV v p q.1 q.2.1 q.2.2.1 3 = L at *
    have hseg := cntTo_rng ((v 0 0).toNat - 1) (fun c => decide (v 10 (c + 1) ≠ v 10 c))
    have hpot := hT.2.2.1
    have hl9 : ldN v ≤ 9 := by
      have := cntTo_lt (n := (v 0 1).toNat) (P := fun p => decide (2 ≤ v 5 p)) (Q := fun _ => true) (fun _ _ _ => rfl) (p := p) (by omega) rfl (by simp [h0])
      have h2 := cntTo_rng (v 0 1).toNat (fun _ => true)
      unfold ldN
      omega
    have h5 : L 0 5 ≤ 60 := by
      rw [zz 0 5 (by omega)]
      unfold segN at hpot
      omega
    have vc := (VO_cornV hlv (k := k) (by rw [zz 0 5 (by omega)]; exact c2) h5 (w := acr v p q.2.2.1) (t := tal v p q.2.2.1) (by omega) (by rw [zz 13 k (by omega)]; exact c5) (by omega) (by rw [zz 14 k (by omega)]; exact c6)).2
    have same : ∀ s j, ¬ (11 ≤ s ∧ s ≤ 14) → ¬ (s = 0 ∧ j = 5) → cornV L k (acr v p q.2.2.1) (tal v p q.2.2.1) s j = L s j := fun s j hs hj => by
      unfold cornV
      rw [wAdd_same _ _ _ _ _ hs hj, wAdd_same _ _ _ _ _ hs hj, dropV_same _ _ hs hj]
    have hld2 : ldN (cornV L k (acr v p q.2.2.1) (tal v p q.2.2.1)) = ldN v + 1 := by
      rw [← hld]
      unfold ldN
      rw [same 0 1 (by omega) (by omega), show cornV L k (acr v p q.2.2.1) (tal v p q.2.2.1) 5 = L 5 from funext fun j => same 5 j (by omega) (by omega)]
    have e10 : cornV L k (acr v p q.2.2.1) (tal v p q.2.2.1) 10 = v 10 := funext fun j => (same 10 j (by omega) (by omega)).trans (zz 10 j (by omega))
    have e00 : cornV L k (acr v p q.2.2.1) (tal v p q.2.2.1) 0 0 = v 0 0 := (same 0 0 (by omega) (by omega)).trans (zz 0 0 (by omega))
    have hp1 : 0 < ldN v := by
      have h := hpot
      unfold segN at h
      omega
    obtain ⟨c0, d1, d2⟩ := hT.2.2.2 hp1
    refine ⟨vc, ?_, ?_, fun _ => ⟨c0, by rw [e00]; exact d1, by rw [e10]; exact d2⟩⟩
    · intro c hc
      rw [e00] at hc
      rw [hld2, e10]
      have := hT.2.1 c hc
      omega
    · rw [hld2]
      have es : segN (cornV L k (acr v p q.2.2.1) (tal v p q.2.2.1)) = segN v := by
        unfold segN
        rw [e00, e10]
      have n1 := wAdd_n (wAdd (dropV L k) (L 11 k + acr v p q.2.2.1) (L 12 k) (L 13 k - acr v p q.2.2.1) (L 14 k)) (L 11 k) (L 12 k + tal v p q.2.2.1) (acr v p q.2.2.1) (L 14 k - tal v p q.2.2.1)
      have n2 := wAdd_n (dropV L k) (L 11 k + acr v p q.2.2.1) (L 12 k) (L 13 k - acr v p q.2.2.1) (L 14 k)
      have n3 : dropV L k 0 5 = L 0 5 - 1 := by simp [dropV]
      have n4 := zz 0 5 (by omega)
      rw [es]
      unfold cornV
      omega
section LAY
variable {S : List sk_Sh} {I v : sk_H} {a : Nat}
theorem m23 {d : Nat} (hd : 10 ≤ d) (hS : sk_G S) (ha : sk_isP a) (hv : vC I a = v) (hT : VT v) {p : Nat} (hp : (p : Int) < v 0 1) (h0 : v 5 p = 0) {q : sk_Q} (hq : FQ v p q) (hs : CS I (some q)) : ∃ I', sk_c d 23 [.ref 72, .ref a, .ref (a + 9 + p)] (sk_mk S I) = some (none, sk_mk S I') ∧ vC I' a = setV v p q ∧ ∀ b, ¬ (a ≤ b ∧ b < a + 19) → I' b = I b := by
  have hV := hT.1
  obtain ⟨n1, n2, n3, n4, n5, n6, n7, n8, n9, n10, n11, n12⟩ := hV.1
  obtain ⟨d, rfl⟩ : ∃ e, d = e + 1 := ⟨d - 1, by omega⟩; rw [sk_e23]
  obtain ⟨s0, s1, s2, s3, s4, s5⟩ := hs
  obtain ⟨ho, hq⟩ := hq
  obtain ⟨p1, p2, p3, p4, p5, p6, -⟩ := vo_p hV hp
  have ha2 := acr_rng hV.1 (vo_p hV hp) q.2.2.1
  have ht2 := tal_rng hV.1 (vo_p hV hp) q.2.2.1
  have hl := ldN_rng hV
  have hpt := sh_pt hS ha (n := p) (by omega)
  have lie : ∀ how : Int, ∃ I', sk_c d 29 [.ref (a + 9 + p), .int (sj q.1), .int (sj q.2.1), .int (sj q.2.2.1), .int (sj how)] (sk_mk S I) = some (none, sk_mk S I') ∧ vC I' a = lieV v p q.1 q.2.1 q.2.2.1 how ∧ ∀ b, b ≠ a + 9 + p → I' b = I b := by
    intro how
    refine ⟨_, m29 (S := S) (I := I) (d := d) (by omega) hpt ho (by rw [vp0 hv (by omega)]; exact p1) (by rw [vp0 hv (by omega)]; exact p2), ?_, ?_⟩
    · rw [wp9 (by omega), wp8 (by omega), wp4 (by omega), wp7 (by omega), wp6 (by omega), wp5 (by omega), hv, vp0 hv (by omega), vp1 hv (by omega), vp2 hv (by omega)]
      rfl
    · intro b hb
      funext j
      simp (disch := omega) only [u2_ne]
  have hseg := cntTo_rng ((v 0 0).toNat - 1) (fun c => decide (v 10 (c + 1) ≠ v 10 c))
  have hpot := hT.2.2.1
  have hl9 : ldN v ≤ 9 := by
    have := cntTo_lt (n := (v 0 1).toNat) (P := fun p => decide (2 ≤ v 5 p)) (Q := fun _ => true) (fun _ _ _ => rfl) (p := p) (by omega) rfl (by simp [h0])
    have h2 := cntTo_rng (v 0 1).toNat (fun _ => true)
    unfold ldN
    omega
  unfold setV
  rcases hq with ⟨c1, x, c2, c3, c4⟩ | ⟨k, c1, c2, c3, c4, c5, c6⟩
  · obtain ⟨r1, r2, r3, r4⟩ := ras_ok hT hp h0 ho c3
    rw [← c4] at r2 r3 r4
    have hlv : VO (lieV v p q.1 q.2.1 q.2.2.1 2) := VO_lieV hV hp (by omega) (by omega) r2 (by omega) ho (by omega) (by omega) (by omega)
    obtain ⟨I1, e1, h1, f1⟩ := lie 2
    have zz := fun s k (h : s = 0 ∨ 10 ≤ s ∧ s ≤ 14) => lie_ne v p q.1 q.2.1 q.2.2.1 2 (s := s) (k := k) (by omega)
    obtain ⟨l6, l7, l8, l5, l15, l16⟩ := lie_at v p q.1 q.2.1 q.2.2.1 2
    have i5 : I1 (a + 9 + p) 5 = q.1 := by rw [vp5 h1 (by omega)]; exact l6
    have i6 : I1 (a + 9 + p) 6 = q.2.1 := by rw [vp6 h1 (by omega)]; exact l7
    have i8 : I1 (a + 9 + p) 8 = acr v p q.2.2.1 := by rw [vp8 h1 (by omega)]; exact l15
    have i9 : I1 (a + 9 + p) 9 = tal v p q.2.2.1 := by rw [vp9 h1 (by omega)]; exact l16
    generalize hL : lieV v p q.1 q.2.1 q.2.2.1 2 = L at *
    obtain ⟨w, hw⟩ : ∃ w : Nat, acr v p q.2.2.1 = w := ⟨(acr v p q.2.2.1).toNat, by omega⟩
    rw [hw] at i8 c3 r4 ha2 ⊢
    have hbr := bndN_rng L x w w
    obtain ⟨I2, e2, h2, f2⟩ := m56 (S := S) (I := I1) (d := d) (by omega) hS ha h1 hlv (x := x) (w := w) (y := q.2.1) (t := tal v p q.2.2.1) (by rw [zz 0 0 (by omega)]; exact c3) (fun c h1 h2 => by rw [zz 10 c (by omega)]; exact r4 c h1 (by omega)) r2 (by omega) (by
      rw [zz 0 5 (by omega)]
      unfold segN at hpot
      omega) (by omega) (by omega)
    rw [if_pos c1]
    refine ⟨I2, ?_, by rw [h2, c2]; rfl, fun b hb => (f2 b (by omega)).trans (f1 b (by omega))⟩
    rw [c2] at e1 i5 s1
    simp (disch := omega) only [↓g72_r0b hS, ↓g72_ob hS, ↓g73_i0b hS, ↓g73_u0b hS, ↓g73_i1b hS, ↓g73_u1b hS, ↓g73_i2b hS, ↓g73_u2b hS, ↓g73_i3b hS, ↓g73_u3b hS, ↓g73_i4b hS, ↓g73_u4b hS, ↓g73_i5b hS, ↓g73_u5b hS, ↓g73_ob hS, ↓Option.bind_some, ↓sk_ci_some, ↓sk_cv_some, ↓sk_cf_some, if_true, eq_self, ite_self, s1, s2, s3, s4, c1, sj_ceq, sj_cne, sj_clt, sj_cge, sj_cgt, sj_cle, bi_ceq, bi_cne, bi_01, sk_e23_16, sk_e23_48, ↓pq_ob hS ha, e1, ↓pq_i5b hS ha, ↓pq_i6b hS ha, ↓pq_i8b hS ha, ↓pq_i9b hS ha, i5, i6, i8, i9, ↓pl_ob hS ha, e2]
  · have hk1 : ¬ q.2.2.2.1 = -1 := by omega
    have hW := hV.2.2.2.2 k c2
    have hlv : VO (lieV v p q.1 q.2.1 q.2.2.1 3) := VO_lieV hV hp (by omega) (by omega) (by omega) (by omega) ho (by omega) (by omega) (by omega)
    obtain ⟨I1, e1, h1, f1⟩ := lie 3
    have zz := fun s k (h : s = 0 ∨ 10 ≤ s ∧ s ≤ 14) => lie_ne v p q.1 q.2.1 q.2.2.1 3 (s := s) (k := k) (by omega)
    obtain ⟨l6, l7, l8, l5, l15, l16⟩ := lie_at v p q.1 q.2.1 q.2.2.1 3
    have i8 : I1 (a + 9 + p) 8 = acr v p q.2.2.1 := by rw [vp8 h1 (by omega)]; exact l15
    have i9 : I1 (a + 9 + p) 9 = tal v p q.2.2.1 := by rw [vp9 h1 (by omega)]; exact l16
    have j4 : I1 73 4 = k := by rw [f1 73 (by rcases ha with rfl | rfl | rfl <;> omega), s4]; exact c1
    generalize hL : lieV v p q.1 q.2.1 q.2.2.1 3 = L at *
    obtain ⟨I2, e2, h2, f2⟩ := m98 (S := S) (I := I1) (d := d) (by omega) hS ha h1 hlv (k := k) (by rw [zz 0 5 (by omega)]; exact c2) (by
      rw [zz 0 5 (by omega)]
      unfold segN at hpot
      omega) (w := acr v p q.2.2.1) (t := tal v p q.2.2.1) (by omega) (by rw [zz 13 k (by omega)]; exact c5) (by omega) (by rw [zz 14 k (by omega)]; exact c6)
    rw [if_neg hk1]
    refine ⟨I2, ?_, by rw [h2, c1]; rfl, fun b hb => (f2 b (by omega)).trans (f1 b (by omega))⟩
    have ck : ¬ (k : Int) = -1 := by omega
    simp (disch := omega) only [↓g72_r0b hS, ↓g72_ob hS, ↓g73_i0b hS, ↓g73_u0b hS, ↓g73_i1b hS, ↓g73_u1b hS, ↓g73_i2b hS, ↓g73_u2b hS, ↓g73_i3b hS, ↓g73_u3b hS, ↓g73_i4b hS, ↓g73_u4b hS, ↓g73_i5b hS, ↓g73_u5b hS, ↓g73_ob hS, ↓Option.bind_some, ↓sk_ci_some, ↓sk_cv_some, ↓sk_cf_some, if_true, eq_self, ite_self, s1, s2, s3, s4, c1, ck, sj_ceq, sj_cne, sj_clt, sj_cge, sj_cgt, sj_cle, bi_ceq, bi_cne, bi_01, sk_e23_16, sk_e23_48, ↓pq_ob hS ha, e1, ↓pl_r3b hS ha, ↓pw_ob hS ha, j4, ↓pq_i8b hS ha, ↓pq_i9b hS ha, i8, i9, ↓pl_ob hS ha, e2, if_false, show ¬ (1 : Int) = 0 by omega]
end LAY
