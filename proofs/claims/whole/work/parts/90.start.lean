/-! ===== where the law begins, both stand alike ===== -/
def I0 (X : sk_X) : sk_H := sk_rd (sk_w0 (.inl X))
def J0 : sk_H := sk_rd (sk_w0 (.inl (0, fun _ => 0)))
theorem w0_cons (c0 : sk_C) : sk_w0 c0 = c0 :: (sk_w0 (.inl (0, fun _ => 0))).tail := rfl
theorem S0_cons (L : Nat) : sk_S0 L = .inl L :: (sk_S0 0).tail := rfl
theorem w0_sh (X : sk_X) : (sk_w0 (.inl X)).map sk_sh = sk_S0 X.1 := by
  rw [S0_cons, w0_cons]
  rfl
theorem w0_ok (X : sk_X) : (sk_w0 (.inl X)).all sk_okC = true := by
  rw [w0_cons]
  rfl
theorem w0_mk (X : sk_X) : sk_w0 (.inl X) = sk_mk (sk_S0 X.1) (I0 X) := by
  have h := sk_mk_rd _ (w0_ok X)
  rw [w0_sh] at h
  exact h
theorem I0_J0 (X : sk_X) (a : Nat) : I0 X (a + 1) = J0 (a + 1) := by
  funext k
  unfold I0 J0 sk_rd
  rw [w0_cons (.inl X)]
  rfl
theorem j_15 : J0 15 4 = 10 ∧ J0 15 5 = 0 ∧ J0 15 6 = 0 ∧ J0 15 7 = 0 ∧ J0 15 8 = 1 ∧ J0 19 4 = 0 := by decide +kernel
theorem j_18 : ∀ c, c < 20 → J0 18 c = 0 := by decide +kernel
theorem j_107 : J0 107 0 = 10 ∧ J0 107 1 = 0 ∧ J0 107 2 = 0 ∧ J0 107 3 = 0 ∧ J0 107 4 = 1 ∧ J0 107 5 = 0 := by decide +kernel
theorem j_107s : ∀ c, c < 20 → J0 107 (97 + c) = 0 := by decide +kernel
theorem j_5 : ∀ k, k < 10 → ∀ j, j < 10 → J0 (5 + k) j = 0 := by decide +kernel
theorem j_1 : J0 2 1 = 0 ∧ J0 105 4 = 0 ∧ J0 1 9 = 0 ∧ J0 105 2 = 0 := by decide +kernel
theorem j_rk : ∀ r, r < 4 → (∀ i, i < 10 → J0 (87 + 3 + 4 * r) i = J0 (120 + r) i) ∧ J0 (87 + 2 + 4 * r) 1 = -1 ∧ J0 117 r = -1 := by decide +kernel
theorem j_sh : ∀ s, s < 4 → J0 (87 + 4 + 4 * s) 1 = -1 ∧ J0 125 s = -1 := by decide +kernel
theorem GI_J {I v : sk_H} (hv : v = vC I 15) (e : ∀ a, I (a + 1) = J0 (a + 1)) : GI I v := by
  obtain ⟨a0, a1, a2, a3, a4, a5⟩ := j_15
  obtain ⟨b0, b1, b2, b3, b4, b5⟩ := j_107
  obtain ⟨c1, c2, c3, c4⟩ := j_1
  have v0 : v 0 0 = 10 := by rw [hv]; show I 15 4 = 10; rw [e 14]; exact a0
  have v1 : v 0 1 = 0 := by rw [hv]; show I 15 5 = 0; rw [e 14]; exact a1
  have v2 : v 0 2 = 0 := by rw [hv]; show I 15 6 = 0; rw [e 14]; exact a2
  have v3 : v 0 3 = 0 := by rw [hv]; show I 15 7 = 0; rw [e 14]; exact a3
  have v4 : v 0 4 = 1 := by rw [hv]; show I 15 8 = 1; rw [e 14]; exact a4
  have v5 : v 0 5 = 0 := by rw [hv]; show I 19 4 = 0; rw [e 18]; exact a5
  have v10 : ∀ c, c < 20 → v 10 c = 0 := fun c hc => by rw [hv]; show I 18 c = 0; rw [e 17]; exact j_18 c hc
  have hl : ldN v = 0 := by
    unfold ldN
    rw [v1]
    rfl
  refine ⟨hv.symm, ⟨⟨?_, ?_, ⟨?_, ?_⟩, ?_, ?_⟩, ?_, ?_, ?_⟩, ⟨?_, ?_, ?_, ?_, ?_⟩, ?_, ?_, ?_, ?_⟩
  · unfold VN
    rw [v0, v1, v2, v3, v4, v5]
    omega
  · intro p hp
    rw [v1] at hp
    omega
  · intro k hk
    rw [v2] at hk
    omega
  · intro j k hj
    rw [v2] at hj
    omega
  · intro c hc
    rw [v0] at hc
    rw [v10 c (by omega)]
    omega
  · intro k hk
    rw [v5] at hk
    omega
  · intro c hc
    rw [v0] at hc
    rw [v10 c (by omega), hl]
    omega
  · rw [v5, hl]
    unfold segN
    rw [v0, cntTo_zero (fun k hk => decide_eq_false (fun h => h (by rw [v10 k (by omega), v10 (k + 1) (by omega)])))]
    omega
  · intro h
    rw [hl] at h
    omega
  · intro k hk
    rw [e 106]
    match k, hk with
    | 0, _ => rw [b0, v0]
    | 1, _ => rw [b1, v1]
    | 2, _ => rw [b2, v2]
    | 3, _ => rw [b3, v3]
    | 4, _ => rw [b4, v4]
    | 5, _ => rw [b5, v5]
  · intro p hp
    rw [v1] at hp
    omega
  · intro k hk
    rw [v2] at hk
    omega
  · intro c hc
    rw [v0] at hc
    rw [e 106, j_107s c (by omega), v10 c (by omega)]
  · intro k hk
    rw [v5] at hk
    omega
  · refine ⟨0, by omega, ?_, ?_, fun k hk => absurd hk (by omega), fun k hk j _ hj => ?_⟩
    · rw [e 1]; exact c1
    · rw [e 104]; exact c2
    · rw [show 5 + k = (4 + k) + 1 by omega, e, show (4 + k) + 1 = 5 + k by omega]
      exact j_5 k hk j hj
  · refine Or.inl ⟨?_, ?_⟩
    · rw [e 0]; exact c3
    · rw [e 104]; exact c4
  · intro r hr
    obtain ⟨k1, k2, k3⟩ := j_rk r hr
    refine ⟨fun i hi => ?_, Or.inl ⟨?_, ?_⟩⟩
    · rw [show 87 + 3 + 4 * r = (89 + 4 * r) + 1 by omega, e, show 120 + r = (119 + r) + 1 by omega, e, show (89 + 4 * r) + 1 = 87 + 3 + 4 * r by omega, show (119 + r) + 1 = 120 + r by omega]
      exact k1 i hi
    · rw [show 87 + 2 + 4 * r = (88 + 4 * r) + 1 by omega, e, show (88 + 4 * r) + 1 = 87 + 2 + 4 * r by omega]
      exact k2
    · rw [e 116]; exact k3
  · intro s hs
    obtain ⟨k1, k2⟩ := j_sh s hs
    refine Or.inl ⟨?_, ?_⟩
    · rw [show 87 + 4 + 4 * s = (90 + 4 * s) + 1 by omega, e, show (90 + 4 * s) + 1 = 87 + 4 + 4 * s by omega]
      exact k1
    · rw [e 124]; exact k2
theorem GI_0 (X : sk_X) : GI (I0 X) (vC (I0 X) 15) := GI_J rfl (I0_J0 X)
/-! the room -/
def szh : sk_Sh → Nat
  | .inl n => n
  | .inr (.inl (_, n, _)) => n
  | .inr (.inr (_, fs)) => fs.length
theorem szh_mk (I : sk_H) (a : Nat) (h : sk_Sh) : sk_csz (sk_mkC I a h) = szh h := by
  rcases h with n | ⟨t, n, f⟩ | ⟨ci, fs⟩
  · rfl
  · rfl
  · show (List.mapIdx _ fs).length = fs.length
    exact List.length_mapIdx
theorem sz_mk (S : List sk_Sh) (I : sk_H) : sk_sz (sk_mk S I) = (S.map szh).sum := by
  unfold sk_sz sk_mk
  congr 1
  apply List.ext_getElem?
  intro a
  rw [List.getElem?_map, List.getElem?_mapIdx, List.getElem?_map]
  cases S[a]? with
  | none => rfl
  | some h => exact congrArg some (szh_mk I a h)
theorem sz_S0 : ((sk_S0 0).tail.map szh).sum ≤ 100000 ∧ (sk_S0 0).tail.length = 132 := by decide +kernel
theorem room_ok (L q : Nat) (hq : q ≤ 512) (I : sk_H) : (sk_mk (sk_S0 L ++ List.replicate q (.inl 5)) I).length ≤ 600001 ∧ sk_sz (sk_mk (sk_S0 L ++ List.replicate q (.inl 5)) I) ≤ 7302250 + L := by
  obtain ⟨s1, s2⟩ := sz_S0
  constructor
  · rw [sk_mk_len, List.length_append, List.length_replicate, S0_cons, List.length_cons, s2]
    omega
  · rw [sz_mk, List.map_append, List.sum_append, List.map_replicate, List.sum_replicate_nat, S0_cons, List.map_cons, List.sum_cons]
    show L + _ + q * 5 ≤ _
    omega
