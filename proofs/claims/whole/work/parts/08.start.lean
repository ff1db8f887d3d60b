/-! THE START of the abstract machine at the law's entry, and the pure claim. -/
def zTx : Nat → List Int := fun i => match i with
  | 0 => [100, 97, 121, 32, 99, 108, 97, 115, 115, 32, 109, 105, 108, 101, 115, 32, 100, 97, 121, 115, 32, 108, 111, 111, 107, 101, 100, 32, 119, 111, 114, 110, 32, 108, 111, 97, 100, 32, 108, 105, 110, 101, 32, 104, 111, 117, 114, 115, 32, 102, 97, 114, 32, 108, 101, 110, 116, 32, 115, 112, 97, 114, 101, 32]
  | 1 => [98, 97, 114, 32, 100, 117, 101, 32, 119, 101, 97, 114, 32, 99, 111, 97, 108, 32, 112, 114, 105, 99, 101, 32, 115, 116, 114, 105, 107, 101, 32]
  | 2 => [102, 114, 111, 109, 32, 105, 102, 32, 110, 111, 116, 32, 97, 110, 100, 32, 111, 114, 32]
  | _ => [43, 45, 42, 47]
def zRk : List Int := [5, 5, 6, 6, 4, 4, 4, 4, 3, 2, 1, 0]
def zm0 (xs : Nat → Int32) : zM := fun a j => if a = -1 then (xs j.toNat).toInt else if a = -2 then zRk.getD j.toNat 0 else (zTx (-7 - a).toNat).getD j.toNat 0
def zh0 (L : Nat) : zH := (fun a => if a = -1 then 101 else if a = -2 then 101 else if -6 ≤ a ∧ a ≤ -3 then 14 else if -10 ≤ a ∧ a ≤ -7 then 102 else 0,
  fun a => if a = -1 then (L : Int) else if a = -2 then 12 else ((zTx (-7 - a).toNat).length : Int), 1, 0)
/-- what is left of the claim: pure, about the abstract machine -/
def zLaw : Prop := ∀ (L : Nat) (xs : Nat → Int32), L ≤ 4608 → zcal WP 2046 0 [.inr (.inr (-1))] (zm0 xs) (zh0 L) (fun r _ h => r = some (.inl 1) ∧ nx h ≤ 600001 ∧ su h ≤ 7302250)
