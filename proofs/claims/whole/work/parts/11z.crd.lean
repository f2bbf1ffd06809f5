/-- a row of crossings: how many there are; its numbers are ints -/
def zC (cnt : Int) (sg lb : Int → Int) : Prop := 0 ≤ cnt ∧ cnt ≤ 12 ∧ (∀ j, inI (sg j)) ∧ ∀ j, inI (lb j)
def zup (s : Int) : Int := if s = 1 then 3 else 1
def zuo (s : Int) : Int := if s = 1 then 1 else 3
theorem zup_in (s : Int) : zup s = 1 ∨ zup s = 3 := by unfold zup; split <;> simp
theorem zuo_in (s : Int) : zuo s = 1 ∨ zuo s = 3 := by unfold zuo; split <;> simp
/-- at place x a strand goes in -/
abbrev zgi (s x : Int) : Prop := x = 4 * (x / 4) ∨ x = 4 * (x / 4) + zup s
def zcl (sg lb : Int → Int) (k : Int) : Int := (if lb (4 * k) = lb (4 * k + zuo (sg k)) then 1 else 0) + (if lb (4 * k + zup (sg k)) = lb (4 * k + 2) then 1 else 0)
abbrev zw4 (lb : Int → Int) (k l0 l1 l2 l3 : Int) : Int → Int := zu (zu (zu (zu lb (4 * k) l0) (4 * k + 1) l1) (4 * k + 2) l2) (4 * k + 3) l3
