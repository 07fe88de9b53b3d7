/-! ===== the lying pieces, taken by the class ===== -/
section TAK
variable {S : List sk_Sh} {I v : sk_H}
def layG (w : sk_H) (f : Nat → Int) : Nat → (Nat → Int)
  | 0 => fun _ => 0
  | p + 1 => if lyB w p = true then fn1 (layG w f p) (lyC w p) (f p) else layG w f p
theorem layG_y (w : sk_H) (f : Nat → Int) {p : Nat} (h : lyB w p = true) : layG w f (p + 1) = fn1 (layG w f p) (lyC w p) (f p) := by
  show (if lyB w p = true then fn1 (layG w f p) (lyC w p) (f p) else layG w f p) = _
  rw [if_pos h]
theorem layG_n (w : sk_H) (f : Nat → Int) {p : Nat} (h : lyB w p = false) : layG w f (p + 1) = layG w f p := by
  show (if lyB w p = true then fn1 (layG w f p) (lyC w p) (f p) else layG w f p) = _
  rw [if_neg (by rw [h]; decide)]
theorem EQ_fn1 {c : Nat} {g h : Nat → Int} (e : EQ c g h) (x : Int) : EQ (c + 1) (fn1 g c x) (fn1 h c x) := by
  intro k hk
  unfold fn1
  by_cases f : k = c
  · rw [if_pos f, if_pos f]
  · rw [if_neg f, if_neg f]; exact e k (by omega)
theorem m11 {d : Nat} (hd : 2 ≤ d) (hS : sk_G S) {a : Nat} (ha : sk_isP a) {K w : sk_H} (hv : vC K a = w) (hV : VO w) : ∃ K', sk_c d 11 [.ref 80, .ref a] (sk_mk S K) = some (none, sk_mk S K') ∧ K' 80 6 = (layN w : Int) ∧ EQ (layN w) (K' 81) (layG w (fun p => w 6 p) (w 0 1).toNat) ∧ EQ (layN w) (K' 82) (layG w (fun p => w 6 p + w 15 p) (w 0 1).toNat) ∧ EQ (layN w) (K' 83) (layG w (fun p => w 7 p) (w 0 1).toNat) ∧ EQ (layN w) (K' 84) (layG w (fun p => w 7 p + w 16 p) (w 0 1).toNat) ∧ ∀ c, c ≠ 80 → c ≠ 81 → c ≠ 82 → c ≠ 83 → c ≠ 84 → K' c = K c := by
  have hn : VN w := hV.1
  obtain ⟨n1, n2, n3, n4, n5, n6, n7, n8, n9, n10, n11, n12⟩ := hn
  obtain ⟨d, rfl⟩ : ∃ e, d = e + 1 := ⟨d - 1, by omega⟩; rw [sk_e11]
  rw [g80_u6b hS]
  have key := lp_run (fun p (X : Option sk_R) => ∃ J o3, X = sk_D11 d 7 [some (.ref 80), some (.ref a), some (.int (sj (p : Int))), o3] [] (sk_mk S J) ∧ J 80 6 = (lyC w p : Int) ∧ EQ (lyC w p) (J 81) (layG w (fun p => w 6 p) p) ∧ EQ (lyC w p) (J 82) (layG w (fun p => w 6 p + w 15 p) p) ∧ EQ (lyC w p) (J 83) (layG w (fun p => w 7 p) p) ∧ EQ (lyC w p) (J 84) (layG w (fun p => w 7 p + w 16 p) p) ∧ ∀ c, c ≠ 80 → c ≠ 81 → c ≠ 82 → c ≠ 83 → c ≠ 84 → J c = K c) (w 0 1).toNat (fun p X hp hX => by
    obtain ⟨J, o3, rfl, j0, j1, j2, j3, j4, j5⟩ := hX
    have hp2 : (p : Int) < w 0 1 := by omega
    have hp10 : p < 10 := by omega
    have ha53 : a ≤ 53 := by rcases ha with h | h | h <;> omega
    have t2 : (p : Int) + 1 = ((p + 1 : Nat) : Int) := rfl
    have lc := lyC_le w p
    have hJ : vC J a = w := (vC_fr (fun b b1 b2 => j5 b (by omega) (by omega) (by omega) (by omega) (by omega))).trans hv
    rw [sk_e11_7, pl_i5b hS ha, vc5 hJ, if_neg (kn_ge (by omega) (by omega) (by omega) (by omega) (by omega)), pl_r0b hS ha, pl_pb hS ha (by omega) (by omega), Int.toNat_natCast, pq_ob hS ha hp10, p27 (by omega) hS ha hJ hV hp2, sk_ci_some]
    by_cases c : w 5 p = 0
    · have cb : lyB w p = false := decide_eq_false (fun h => h c)
      refine ⟨J, some (.ref (a + 9 + p)), ?_, ?_⟩
      · rw [decide_eq_false (fun h => h c), if_neg cf_bne, sj_add, t2]
      · rw [lyC_s, if_neg (by rw [cb]; decide), layG_n _ _ cb, layG_n _ _ cb, layG_n _ _ cb, layG_n _ _ cb]
        exact ⟨j0, j1, j2, j3, j4, j5⟩
    · have cb : lyB w p = true := decide_eq_true c
      generalize hq : lyC w p = q at *
      have u1 : vC (u2 J 81 q (w 6 p)) a = w := (vC_fr (fun b b1 b2 => funext fun k => u2_ne _ _ (by omega))).trans hJ
      have u2' : vC (u2 (u2 J 81 q (w 6 p)) 82 q (w 6 p + w 15 p)) a = w := (vC_fr (fun b b1 b2 => funext fun k => u2_ne _ _ (by omega))).trans u1
      have u3 : vC (u2 (u2 (u2 J 81 q (w 6 p)) 82 q (w 6 p + w 15 p)) 83 q (w 7 p)) a = w := (vC_fr (fun b b1 b2 => funext fun k => u2_ne _ _ (by omega))).trans u2'
      refine ⟨u2 (u2 (u2 (u2 (u2 J 81 q (w 6 p)) 82 q (w 6 p + w 15 p)) 83 q (w 7 p)) 84 q (w 7 p + w 16 p)) 80 6 ((q : Int) + 1), some (.ref (a + 9 + p)), ?_, ?_⟩
      · rw [decide_eq_true c, if_pos ct_bne, g80_r0b hS, g80_i6b hS, j0, pq_i5b hS ha hp10, vp5 hJ hp10, g81_sb hS (by omega) (by omega), Int.toNat_natCast]
        rw [g80_r1b hS, g80_i6b hS, u2_ne _ _ (by omega), j0, pq_i5b hS ha hp10, vp5 u1 hp10, pq_i8b hS ha hp10, vp8 u1 hp10, sj_add, g82_sb hS (by omega) (by omega), Int.toNat_natCast]
        rw [g80_r2b hS, g80_i6b hS, u2_ne _ _ (by omega), u2_ne _ _ (by omega), j0, pq_i6b hS ha hp10, vp6 u2' hp10, g83_sb hS (by omega) (by omega), Int.toNat_natCast]
        rw [g80_r3b hS, g80_i6b hS, u2_ne _ _ (by omega), u2_ne _ _ (by omega), u2_ne _ _ (by omega), j0, pq_i6b hS ha hp10, vp6 u3 hp10, pq_i9b hS ha hp10, vp9 u3 hp10, sj_add, g84_sb hS (by omega) (by omega), Int.toNat_natCast]
        rw [g80_i6b hS, u2_ne _ _ (by omega), u2_ne _ _ (by omega), u2_ne _ _ (by omega), u2_ne _ _ (by omega), j0, sj_add, g80_u6b hS, sj_add, t2]
      · rw [lyC_s, hq, if_pos cb, layG_y _ _ cb, layG_y _ _ cb, layG_y _ _ cb, layG_y _ _ cb, hq]
        refine ⟨(u2_eq _ _ _ _).trans rfl, ?_, ?_, ?_, ?_, fun c h0 h1 h2 h3 h4 => ?_⟩
        · rw [show (u2 (u2 (u2 (u2 (u2 J 81 q (w 6 p)) 82 q (w 6 p + w 15 p)) 83 q (w 7 p)) 84 q (w 7 p + w 16 p)) 80 6 ((q : Int) + 1)) 81 = fn1 (J 81) q (w 6 p) from funext fun k => by rw [u2_ne _ _ (by omega), u2_ne _ _ (by omega), u2_ne _ _ (by omega), u2_ne _ _ (by omega), u2_fn1]]
          exact EQ_fn1 j1 _
        · rw [show (u2 (u2 (u2 (u2 (u2 J 81 q (w 6 p)) 82 q (w 6 p + w 15 p)) 83 q (w 7 p)) 84 q (w 7 p + w 16 p)) 80 6 ((q : Int) + 1)) 82 = fn1 (J 82) q (w 6 p + w 15 p) from funext fun k => by rw [u2_ne _ _ (by omega), u2_ne _ _ (by omega), u2_ne _ _ (by omega), u2_fn1]; unfold fn1; rw [u2_ne _ _ (by omega)]]
          exact EQ_fn1 j2 _
        · rw [show (u2 (u2 (u2 (u2 (u2 J 81 q (w 6 p)) 82 q (w 6 p + w 15 p)) 83 q (w 7 p)) 84 q (w 7 p + w 16 p)) 80 6 ((q : Int) + 1)) 83 = fn1 (J 83) q (w 7 p) from funext fun k => by rw [u2_ne _ _ (by omega), u2_ne _ _ (by omega), u2_fn1]; unfold fn1; rw [u2_ne _ _ (by omega), u2_ne _ _ (by omega)]]
          exact EQ_fn1 j3 _
        · rw [show (u2 (u2 (u2 (u2 (u2 J 81 q (w 6 p)) 82 q (w 6 p + w 15 p)) 83 q (w 7 p)) 84 q (w 7 p + w 16 p)) 80 6 ((q : Int) + 1)) 84 = fn1 (J 84) q (w 7 p + w 16 p) from funext fun k => by rw [u2_ne _ _ (by omega), u2_fn1]; unfold fn1; rw [u2_ne _ _ (by omega), u2_ne _ _ (by omega), u2_ne _ _ (by omega)]]
          exact EQ_fn1 j4 _
        · exact (funext fun k => by rw [u2_ne _ _ (by omega), u2_ne _ _ (by omega), u2_ne _ _ (by omega), u2_ne _ _ (by omega), u2_ne _ _ (by omega)]).trans (j5 c h0 h1 h2 h3 h4)) ⟨u2 K 80 6 0, none, rfl, u2_eq _ _ _ _, fun k hk => absurd hk (by have := lyC_le w 0; omega), fun k hk => absurd hk (by have := lyC_le w 0; omega), fun k hk => absurd hk (by have := lyC_le w 0; omega), fun k hk => absurd hk (by have := lyC_le w 0; omega), fun c h _ _ _ _ => funext fun k => u2_ne _ _ (by omega)⟩
  obtain ⟨J, o3, e, j⟩ := key
  have ha53 : a ≤ 53 := by rcases ha with h | h | h <;> omega
  have hJ : vC J a = w := (vC_fr (fun b b1 b2 => j.2.2.2.2.2 b (by omega) (by omega) (by omega) (by omega) (by omega))).trans hv
  refine ⟨J, e.trans ?_, j⟩
  rw [sk_e11_7, pl_i5b hS ha, vc5 hJ, if_pos (ky_ge (by omega) (by omega) (by omega) (by omega) (by omega))]
end TAK
