/-! ===== the worlds behind the constructors (the layout: written by program) ===== -/
def sk_W1 (L : Nat) (xs : Nat → Int32) : sk_W := match sk_calF 5000 8 101 [.ref 1] [.inl (L, xs), .inr (.inr (10, sk_fields 10))] with
  | some (_, w) => w
  | none => []
def sk_W2 (L : Nat) (xs : Nat → Int32) : sk_W := match sk_calF 5000 8 145 [.ref 105] (sk_W1 L xs ++ [.inr (.inr (11, sk_fields 11))]) with
  | some (_, w) => w
  | none => []
def sk_shF : Value → Option Nat
  | .ref r => some r
  | _ => none
def sk_shC : sk_C → sk_Sh
  | .inl (n, _) => .inl n
  | .inr (.inl x) => .inr (.inl x)
  | .inr (.inr (ci, fs)) => .inr (.inr (ci, fs.map sk_shF))
def sk_okV : Value → Bool
  | .ref _ => true
  | .int _ => true
  | _ => false
def sk_okC : sk_C → Bool
  | .inr (.inr (_, fs)) => fs.all sk_okV
  | _ => true
def sk_rdC : sk_C → Nat → Int
  | .inl (_, f), j => (f j).toInt
  | .inr (.inl _), _ => 0
  | .inr (.inr (_, fs)), j => match fs[j]? with
    | some (.int v) => v.toInt
    | _ => 0
def sk_rd (w : sk_W) : sk_H := fun a j => match w[a]? with
  | some c => sk_rdC c j
  | none => 0
theorem sk_mk_rd {w : sk_W} (h : w.all sk_okC = true) : sk_mk (w.map sk_shC) (sk_rd w) = w := by
  apply List.ext_getElem?
  intro a
  unfold sk_mk
  rw [List.getElem?_mapIdx, List.getElem?_map]
  cases hc : w[a]? with
  | none => rfl
  | some c =>
    have hok := List.all_eq_true.mp h c (List.mem_of_getElem? hc)
    have hrd : sk_rd w a = sk_rdC c := by funext j; unfold sk_rd; rw [hc]
    show some (sk_mkC (sk_rd w) a (sk_shC c)) = some c
    congr 1
    rcases c with ⟨n, f⟩ | x | ⟨ci, fs⟩
    · show (Sum.inl (n, fun j => sj (sk_rd w a j)) : sk_C) = _
      rw [hrd]
      congr 2
      funext j
      exact sj_of (f j)
    · rfl
    · show (Sum.inr (Sum.inr (ci, (fs.map sk_shF).mapIdx fun k f => match f with
        | some r => .ref r
        | none => .int (sj (sk_rd w a k)))) : sk_C) = _
      rw [hrd]
      congr 3
      apply List.ext_getElem?
      intro k
      rw [List.getElem?_mapIdx, List.getElem?_map]
      cases hf : fs[k]? with
      | none => rfl
      | some v =>
        have hv := List.all_eq_true.mp hok v (List.mem_of_getElem? hf)
        cases v with
        | ref r => rfl
        | int x =>
          show some (Value.int (sj (sk_rdC (.inr (.inr (ci, fs))) k))) = some (Value.int x)
          unfold sk_rdC
          dsimp only
          rw [hf]
          dsimp only
          rw [sj_of]
        | _ => cases hv
def sk_S0 (L : Nat) : List sk_Sh := [.inl L,
  .inr (.inr (10, [some 2, some 15, some 34, some 53, some 72, some 74, some 80, some 87, some 88, none])),
  .inr (.inr (8, [some 3, none, some 4, none, none])),
  .inl 60,
  .inr (.inl (0, 10, va_up (va_up (va_up (va_up (va_up (va_up (va_up (va_up (va_up (va_up (fun _ => none) 0 (some 5)) 1 (some 6)) 2 (some 7)) 3 (some 8)) 4 (some 9)) 5 (some 10)) 6 (some 11)) 7 (some 12)) 8 (some 13)) 9 (some 14))),
  .inr (.inr (2, [none, none, none, none, none, none, none, none, none, none])),
  .inr (.inr (2, [none, none, none, none, none, none, none, none, none, none])),
  .inr (.inr (2, [none, none, none, none, none, none, none, none, none, none])),
  .inr (.inr (2, [none, none, none, none, none, none, none, none, none, none])),
  .inr (.inr (2, [none, none, none, none, none, none, none, none, none, none])),
  .inr (.inr (2, [none, none, none, none, none, none, none, none, none, none])),
  .inr (.inr (2, [none, none, none, none, none, none, none, none, none, none])),
  .inr (.inr (2, [none, none, none, none, none, none, none, none, none, none])),
  .inr (.inr (2, [none, none, none, none, none, none, none, none, none, none])),
  .inr (.inr (2, [none, none, none, none, none, none, none, none, none, none])),
  .inr (.inr (3, [some 16, some 17, some 18, some 19, none, none, none, none, none])),
  .inr (.inl (0, 10, va_up (va_up (va_up (va_up (va_up (va_up (va_up (va_up (va_up (va_up (fun _ => none) 0 (some 24)) 1 (some 25)) 2 (some 26)) 3 (some 27)) 4 (some 28)) 5 (some 29)) 6 (some 30)) 7 (some 31)) 8 (some 32)) 9 (some 33))),
  .inl 10,
  .inl 20,
  .inr (.inr (9, [some 20, some 21, some 22, some 23, none])),
  .inl 64,
  .inl 64,
  .inl 64,
  .inl 64,
  .inr (.inr (2, [none, none, none, none, none, none, none, none, none, none])),
  .inr (.inr (2, [none, none, none, none, none, none, none, none, none, none])),
  .inr (.inr (2, [none, none, none, none, none, none, none, none, none, none])),
  .inr (.inr (2, [none, none, none, none, none, none, none, none, none, none])),
  .inr (.inr (2, [none, none, none, none, none, none, none, none, none, none])),
  .inr (.inr (2, [none, none, none, none, none, none, none, none, none, none])),
  .inr (.inr (2, [none, none, none, none, none, none, none, none, none, none])),
  .inr (.inr (2, [none, none, none, none, none, none, none, none, none, none])),
  .inr (.inr (2, [none, none, none, none, none, none, none, none, none, none])),
  .inr (.inr (2, [none, none, none, none, none, none, none, none, none, none])),
  .inr (.inr (3, [some 35, some 36, some 37, some 38, none, none, none, none, none])),
  .inr (.inl (0, 10, va_up (va_up (va_up (va_up (va_up (va_up (va_up (va_up (va_up (va_up (fun _ => none) 0 (some 43)) 1 (some 44)) 2 (some 45)) 3 (some 46)) 4 (some 47)) 5 (some 48)) 6 (some 49)) 7 (some 50)) 8 (some 51)) 9 (some 52))),
  .inl 10,
  .inl 20,
  .inr (.inr (9, [some 39, some 40, some 41, some 42, none])),
  .inl 64,
  .inl 64,
  .inl 64,
  .inl 64,
  .inr (.inr (2, [none, none, none, none, none, none, none, none, none, none])),
  .inr (.inr (2, [none, none, none, none, none, none, none, none, none, none])),
  .inr (.inr (2, [none, none, none, none, none, none, none, none, none, none])),
  .inr (.inr (2, [none, none, none, none, none, none, none, none, none, none])),
  .inr (.inr (2, [none, none, none, none, none, none, none, none, none, none])),
  .inr (.inr (2, [none, none, none, none, none, none, none, none, none, none])),
  .inr (.inr (2, [none, none, none, none, none, none, none, none, none, none])),
  .inr (.inr (2, [none, none, none, none, none, none, none, none, none, none])),
  .inr (.inr (2, [none, none, none, none, none, none, none, none, none, none])),
  .inr (.inr (2, [none, none, none, none, none, none, none, none, none, none])),
  .inr (.inr (3, [some 54, some 55, some 56, some 57, none, none, none, none, none])),
  .inr (.inl (0, 10, va_up (va_up (va_up (va_up (va_up (va_up (va_up (va_up (va_up (va_up (fun _ => none) 0 (some 62)) 1 (some 63)) 2 (some 64)) 3 (some 65)) 4 (some 66)) 5 (some 67)) 6 (some 68)) 7 (some 69)) 8 (some 70)) 9 (some 71))),
  .inl 10,
  .inl 20,
  .inr (.inr (9, [some 58, some 59, some 60, some 61, none])),
  .inl 64,
  .inl 64,
  .inl 64,
  .inl 64,
  .inr (.inr (2, [none, none, none, none, none, none, none, none, none, none])),
  .inr (.inr (2, [none, none, none, none, none, none, none, none, none, none])),
  .inr (.inr (2, [none, none, none, none, none, none, none, none, none, none])),
  .inr (.inr (2, [none, none, none, none, none, none, none, none, none, none])),
  .inr (.inr (2, [none, none, none, none, none, none, none, none, none, none])),
  .inr (.inr (2, [none, none, none, none, none, none, none, none, none, none])),
  .inr (.inr (2, [none, none, none, none, none, none, none, none, none, none])),
  .inr (.inr (2, [none, none, none, none, none, none, none, none, none, none])),
  .inr (.inr (2, [none, none, none, none, none, none, none, none, none, none])),
  .inr (.inr (2, [none, none, none, none, none, none, none, none, none, none])),
  .inr (.inr (1, [some 73])),
  .inr (.inr (7, [none, none, none, none, none, none])),
  .inr (.inr (5, [some 75, none, none, some 76, some 77, some 78, some 79, none])),
  .inl 5,
  .inl 120,
  .inl 1200,
  .inl 10,
  .inl 10,
  .inr (.inr (0, [some 81, some 82, some 83, some 84, some 85, some 86, none])),
  .inl 10,
  .inl 10,
  .inl 10,
  .inl 10,
  .inl 10,
  .inl 10,
  .inr (.inl (1, 4, va_up (va_up (va_up (va_up (fun _ => none) 0 (some 89)) 1 (some 93)) 2 (some 97)) 3 (some 101))),
  .inr (.inl (2, 4, va_up (va_up (va_up (va_up (fun _ => none) 0 (some 91)) 1 (some 95)) 2 (some 99)) 3 (some 103))),
  .inr (.inr (4, [some 90, none, none])),
  .inl 10,
  .inr (.inr (6, [some 92, none, none])),
  .inl 40,
  .inr (.inr (4, [some 94, none, none])),
  .inl 10,
  .inr (.inr (6, [some 96, none, none])),
  .inl 40,
  .inr (.inr (4, [some 98, none, none])),
  .inl 10,
  .inr (.inr (6, [some 100, none, none])),
  .inl 40,
  .inr (.inr (4, [some 102, none, none])),
  .inl 10,
  .inr (.inr (6, [some 104, none, none])),
  .inl 40,
  .inr (.inr (11, [some 106, some 107, none, some 110, none, some 111, none, none, none, none, none, some 112, some 113, some 114, some 115, some 116, some 117, some 118, some 119, some 124, some 125, some 126, some 127, some 132])),
  .inr (.inl (3, 3, fun q => if q < 3 then some (106 + 1 + q) else none)),
  .inl 1141,
  .inl 1141,
  .inl 1141,
  .inl 60,
  .inl 300,
  .inl 10,
  .inl 1220,
  .inl 120,
  .inl 10,
  .inl 10,
  .inl 4,
  .inl 4,
  .inr (.inl (3, 4, fun q => if q < 4 then some (119 + 1 + q) else none)),
  .inl 10,
  .inl 10,
  .inl 10,
  .inl 10,
  .inl 10,
  .inl 4,
  .inl 4,
  .inr (.inl (3, 4, fun q => if q < 4 then some (127 + 1 + q) else none)),
  .inl 40,
  .inl 40,
  .inl 40,
  .inl 40,
  .inl 40]
set_option maxRecDepth 1000000 in
set_option maxHeartbeats 4000000 in
theorem sk_new1 (L : Nat) (xs : Nat → Int32) : sk_calF 5000 8 101 [.ref 1] [.inl (L, xs), .inr (.inr (10, sk_fields 10))] = some (none, sk_W1 L xs) := by
  have h : (sk_calF 5000 8 101 [.ref 1] [.inl (L, xs), .inr (.inr (10, sk_fields 10))]).map (fun q => q.1) = some none := rfl
  obtain ⟨q, h1, h2⟩ := Option.map_eq_some_iff.mp h
  have e : sk_W1 L xs = q.2 := by unfold sk_W1; rw [h1]
  rw [h1, e, ← h2]
