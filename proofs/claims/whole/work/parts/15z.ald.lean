def zcp (lb al : Int → Int) (p : Int) : Int → Int := fun z => if 0 ≤ z ∧ z < p then lb z else al z
theorem zcp_in {lb al : Int → Int} {p : Int} (h1 : ∀ j, inI (lb j)) (h2 : ∀ j, inI (al j)) (j : Int) : inI (zcp lb al p j) := by
  unfold zcp
  split
  · exact h1 j
  · exact h2 j
theorem zcp_step {lb al g : Int → Int} {i : Int} (hg : ∀ z, g z = if 0 ≤ z ∧ z < i then lb z else al z) (hi : 0 ≤ i) : ∀ z, zu g i (lb i) z = if 0 ≤ z ∧ z < i + 1 then lb z else al z := by
  intro z
  by_cases q : z = i
  · subst q; rw [zu_self, if_pos (by omega)]
  · rw [zu_ne _ _ q, hg]
    by_cases y : 0 ≤ z ∧ z < i
    · rw [if_pos y, if_pos (by omega)]
    · rw [if_neg y, if_neg (by omega)]
/-- the least labels behind the first k crossings' upper strands -/
def zja (sg t : Int → Int) (p : Int) : Nat → Int → Int
  | 0 => t
  | k + 1 => zmp (zja sg t p k) p (zja sg t p k (4 * k + zup (sg k))) (zja sg t p k (4 * k + zuo (sg k)))
theorem zja_in {sg t : Int → Int} {p : Int} (h : ∀ j, inI (t j)) : ∀ (k : Nat) (j : Int), inI (zja sg t p k j)
  | 0, j => h j
  | k + 1, j => by
    have a := zja_in (sg := sg) (p := p) h k
    show inI (zmp _ _ _ _ j)
    unfold zmp
    split
    · have h1 := a (4 * k + zup (sg k))
      have h2 := a (4 * k + zuo (sg k))
      exact ⟨by omega, by omega⟩
    · exact a j
theorem zmem_step {lN lf tF : Int → Int} {cN cn i : Int} (hM : ∀ v, (∃ j, 0 ≤ j ∧ j < cN ∧ lN j = v) ↔ ∃ x, 0 ≤ x ∧ x < i ∧ tF x = v) (h : ∀ v, (∃ j, 0 ≤ j ∧ j < cn ∧ lf j = v) ↔ (∃ j, 0 ≤ j ∧ j < cN ∧ lN j = v) ∨ v = tF i) (hi : 0 ≤ i) : ∀ v, (∃ j, 0 ≤ j ∧ j < cn ∧ lf j = v) ↔ ∃ x, 0 ≤ x ∧ x < i + 1 ∧ tF x = v := by
  intro v
  rw [h, hM]
  constructor
  · rintro (⟨x, h1, h2, h3⟩ | rfl)
    · exact ⟨x, h1, by omega, h3⟩
    · exact ⟨i, hi, by omega, rfl⟩
  · rintro ⟨x, h1, h2, h3⟩
    by_cases q : x = i
    · right; rw [← h3, q]
    · left; exact ⟨x, h1, by omega, h3⟩
theorem zcir_step {lN g3 : Int → Int} {cN i c2 : Int} (hg : ∀ z, g3 z = if cN ≤ z ∧ z < cN + i then 0 else lN z) (h1 : c2 = cN + i) (h2 : 0 ≤ i) : ∀ z, zu g3 c2 0 z = if cN ≤ z ∧ z < cN + (i + 1) then 0 else lN z := by
  intro z
  by_cases q : z = c2
  · rw [q, zu_self, if_pos (by omega)]
  · rw [zu_ne _ _ q, hg]
    by_cases y : cN ≤ z ∧ z < cN + i
    · rw [if_pos y, if_pos (by omega)]
    · rw [if_neg y, if_neg (by omega)]
