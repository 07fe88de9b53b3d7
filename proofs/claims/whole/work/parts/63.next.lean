/-! ===== orders: sorted, and the next ===== -/
def exF {α : Type} (g : Nat → α) (i j : Nat) : Nat → α := fun k => g (if k = j then i else if k = i then j else k)
def fst1 (le : Nat → Nat → Bool) : Nat → Option Nat
  | 0 => none
  | m + 1 => if le m (m + 1) = true then some m else fst1 le m
def lst1 (le : Nat → Nat → Bool) (i : Nat) : Nat → Nat
  | 0 => 0
  | m + 1 => if m + 1 ≤ i ∨ le i (m + 1) = true then m + 1 else lst1 le i m
def rvF {α : Type} : Nat → (Nat → α) → Nat → Nat → (Nat → α)
  | 0, g, _, _ => g
  | m + 1, g, a, b => if b ≤ a then g else rvF m (exF g a b) (a + 1) (b - 1)
def nxF {α : Type} (le : α → α → Bool) (n : Nat) (g : Nat → α) : Option (Nat → α) := match fst1 (fun i j => le (g i) (g j)) (n - 1) with
  | none => none
  | some i => some (rvF n (exF g i (lst1 (fun i j => le (g i) (g j)) i (n - 1))) (i + 1) (n - 1))
def trmF {α : Type} (le : α → α → Bool) (n : Nat) : Nat → (Nat → α) → Bool
  | 0, _ => false
  | m + 1, g => match nxF le n g with
    | none => true
    | some g' => trmF le n m g'
theorem trm_0 : trmF Nat.ble 0 120 (fun k => k) = true := by decide +kernel
theorem trm_1 : trmF Nat.ble 1 120 (fun k => k) = true := by decide +kernel
theorem trm_2 : trmF Nat.ble 2 120 (fun k => k) = true := by decide +kernel
theorem trm_3 : trmF Nat.ble 3 120 (fun k => k) = true := by decide +kernel
theorem trm_4 : trmF Nat.ble 4 120 (fun k => k) = true := by decide +kernel
theorem trm_5 : trmF Nat.ble 5 120 (fun k => k) = true := by decide +kernel
