theorem zq_nn {M : zq_M} {q b : Nat} {x : va_E} (h : M q = none) (hb : M b = some x) : b ≠ q := fun e => by rw [e, h] at hb; cases hb
/-- the degree behind addShifted -/
def zad (d d2 sh fc : Int) : Int := if fc = 0 ∨ d2 < 0 then d else max d (d2 + sh)
theorem zad_0 {d d2 sh fc : Int} (h : fc = 0 ∨ d2 < 0) : d = zad d d2 sh fc := (if_pos h).symm
theorem zad_1 {d d2 sh fc x ls0 : Int} (hl : ls0 = d2) (h1 : ¬ fc = 0) (h2 : ¬ d2 < 0) (hx : x = max d (ls0 + sh)) : x = zad d d2 sh fc := by
  unfold zad
  rw [if_neg (by omega), hx, hl]
theorem zsh_0 {f g : Int → Int} {sh fc : Int} (h : fc = 0 ∨ ∀ j, g j = 0) : f = fun j => f j + fc * g (j - sh) := by
  funext j
  rcases h with h | h
  · rw [h, Int.zero_mul, Int.add_zero]
  · rw [h, Int.mul_zero, Int.add_zero]
theorem zsh_step {f g h : Int → Int} {fs sh fc i : Int} (hh : ∀ j, h j = if fs ≤ j - sh ∧ j - sh < i then f j + fc * g (j - sh) else f j) (h1 : fs ≤ i) (h2 : i = i) : ∀ j, zu h (i + sh) (h (i + sh) + fc * g i) j = if fs ≤ j - sh ∧ j - sh < i + 1 then f j + fc * g (j - sh) else f j := by
  intro j
  by_cases q : j = i + sh
  · subst q
    rw [zu_self, hh, if_neg (by omega), if_pos (by omega), show i + sh - sh = i from by omega]
  · rw [zu_ne _ _ q, hh]
    by_cases z : fs ≤ j - sh ∧ j - sh < i
    · rw [if_pos z, if_pos (by omega)]
    · rw [if_neg z, if_neg (by omega)]
theorem zsh_end {f g h : Int → Int} {fs sh fc i d2 : Int} (hh : ∀ j, h j = if fs ≤ j - sh ∧ j - sh < i then f j + fc * g (j - sh) else f j) (hi : d2 < i) (hg1 : ∀ j, d2 < j → g j = 0) (hg2 : ∀ j, j < fs → g j = 0) : h = fun j => f j + fc * g (j - sh) := by
  funext j
  rw [hh]
  by_cases z : fs ≤ j - sh ∧ j - sh < i
  · rw [if_pos z]
  · rw [if_neg z]
    have : g (j - sh) = 0 := by
      by_cases q : j - sh < fs
      · exact hg2 _ q
      · exact hg1 _ (by omega)
    rw [this, Int.mul_zero, Int.add_zero]
