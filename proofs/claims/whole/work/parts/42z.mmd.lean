theorem zbd {bd : Nat → Nat} (h : ∀ i j, i < 18 → j < 18 → bd i = bd j → i = j) (i j : Nat) (hi : i < 18 := by decide) (hj : j < 18 := by decide) (hne : i ≠ j := by decide) : bd i ≠ bd j := fun z => hne (h i j hi hj z)
def zoq (s : Int) : Int := if 0 < s then 1 else 3
theorem zoq_or (s : Int) : (0 < s ∧ zoq s = 1) ∨ (¬ 0 < s ∧ zoq s = 3) := by unfold zoq; split <;> omega
/-- at place x a strand goes out -/
abbrev zoo (s x : Int) : Prop := x % 4 = 2 ∨ x % 4 = zoq s
abbrev zac (x : Int) : Int := x / 4 * 4 + (x + 2) % 4
/-- r: the last place below P with label y where it goes out (ou = 1), in (ou = 0); -1: there is none -/
def zPl (P : Int) (sg lb : Int → Int) (y ou r : Int) : Prop := (r = -1 ∨ (0 ≤ r ∧ r < P ∧ lb r = y ∧ (if zoo (sg (r / 4)) r then (1 : Int) else 0) = ou)) ∧ ∀ z, r < z → 0 ≤ z → z < P → ¬ (lb z = y ∧ (if zoo (sg (z / 4)) z then (1 : Int) else 0) = ou)
theorem zPl_0 (sg lb : Int → Int) (y ou : Int) : zPl 0 sg lb y ou (-1) := ⟨Or.inl rfl, fun z h1 h2 h3 => by omega⟩
theorem zPl_yes {P : Int} {sg lb : Int → Int} {y ou r : Int} (h : zPl P sg lb y ou r) (hP : 0 ≤ P) (h1 : lb P = y) (h2 : (if zoo (sg (P / 4)) P then (1 : Int) else 0) = ou) : zPl (P + 1) sg lb y ou P := ⟨Or.inr ⟨hP, by omega, h1, h2⟩, fun z h1 h2 h3 => by omega⟩
theorem zPl_no {P : Int} {sg lb : Int → Int} {y ou r : Int} (h : zPl P sg lb y ou r) (hn : ¬ lb P = y ∨ ¬ (if zoo (sg (P / 4)) P then (1 : Int) else 0) = ou) : zPl (P + 1) sg lb y ou r := by
  refine ⟨?_, fun z h1 h2 h3 => ?_⟩
  · rcases h.1 with q | ⟨q1, q2, q3⟩
    · exact Or.inl q
    · exact Or.inr ⟨q1, by omega, q3⟩
  · by_cases q : z = P
    · subst q
      rcases hn with hn | hn
      · exact fun w => hn w.1
      · exact fun w => hn w.2
    · exact h.2 z h1 h2 (by omega)
theorem zPl_ex {P : Int} {sg lb : Int → Int} {y ou r : Int} (h : zPl P sg lb y ou r) (he : ∃ z, 0 ≤ z ∧ z < P ∧ lb z = y ∧ (if zoo (sg (z / 4)) z then (1 : Int) else 0) = ou) : 0 ≤ r := by
  obtain ⟨z, z1, z2, z3⟩ := he
  rcases h.1 with q | q
  · exact absurd z3 (h.2 z (by omega) z1 z2)
  · exact q.1
theorem zPl_lt {P : Int} {sg lb : Int → Int} {y ou r : Int} (h : zPl P sg lb y ou r) : -1 ≤ r ∧ (0 ≤ r → r < P ∧ lb r = y ∧ (if zoo (sg (r / 4)) r then (1 : Int) else 0) = ou) := by
  rcases h.1 with q | q
  · exact ⟨by omega, fun z => by omega⟩
  · exact ⟨by omega, fun _ => q.2⟩
