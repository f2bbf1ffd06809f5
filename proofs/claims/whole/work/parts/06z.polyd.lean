/-- nothing above the degree, nothing below 0 -/
def zU (f : Int → Int) (d : Int) : Prop := -1 ≤ d ∧ d ≤ 24 ∧ (∀ j, d < j → f j = 0) ∧ (∀ j, j < 0 → f j = 0)
theorem zU_le {f : Int → Int} {d : Int} (h : zU f d) : -1 ≤ d ∧ d ≤ 24 := ⟨h.1, h.2.1⟩
theorem zD_U {f : Int → Int} {d : Int} (h : zD f d) : zU f d := ⟨h.1, h.2.1, h.2.2.1, h.2.2.2.1⟩
theorem zU_out {f : Int → Int} {d : Int} (h : zU f d) {j : Int} (hj : j < 0 ∨ 25 ≤ j) : f j = 0 := by
  rcases hj with q | q
  · exact h.2.2.2 j q
  · exact h.2.2.1 j (by have := h.2.1; omega)
