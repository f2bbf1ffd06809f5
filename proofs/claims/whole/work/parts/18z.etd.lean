/-- a table of 12 rows of 33 ints: the rows lie at ra 0 .. ra 11, and hold F -/
def zG (K : Nat → ClassId) (M : zq_M) (g : Nat) (ra : Int → Nat) (F : Int → Int → Int) : Prop := M g = some (cQ (K 4) 12 (fun i => some (ra i))) ∧ (∀ i, 0 ≤ i → i < 12 → M (ra i) = some (cI (K 0) 33 (F i))) ∧ ∀ i j, 0 ≤ i → i < 12 → 0 ≤ j → j < 12 → ra i = ra j → i = j
def zE (rw co : Int) (ra rb : Int → Nat) (F G : Int → Int → Int) : Prop := 0 ≤ rw ∧ rw ≤ 12 ∧ 0 ≤ co ∧ co ≤ 33 ∧ (∀ i j, inI (F i j)) ∧ (∀ i j, inI (G i j)) ∧ ∀ i j, 0 ≤ i → i < 12 → 0 ≤ j → j < 12 → ra i ≠ rb j
def zat (F : Int → Int → Int) (rw co r q : Int) : Int := if 0 ≤ r ∧ r < rw ∧ 0 ≤ q ∧ q < co then F r q else 0
