/-- the arrays' classes: int[], long[], boolean[], Polynomial[], int[][] -/
abbrev zT (K : Nat → ClassId) : List (ClassId × FieldType) := [(K 0, .int), (K 1, .long), (K 2, .boolean), (K 3, .object "AlexanderMatrix$Polynomial"), (K 4, .array .int)]
theorem zg_T {own : String} {idx maxL : Nat} {y : MethodName} {b : ByteArray} {ret : Option FieldType} (h1 : Cond.methodLink own idx y ∈ lw_gd) (h2 : Cond.static y ∈ lw_gd) (h4 : Cond.initialized y.cls ∈ lw_gd) (h5 : Cond.code y b maxL ret ∈ lw_gd) : GoodIn lw_gd (va_wsS own idx y (Cond.code y b maxL ret :: lw_gd)) := tw_goodIn fun w hw => by
  unfold va_wsS at hw
  rcases List.mem_append.mp hw with h | h
  · simp only [List.mem_cons, List.not_mem_nil, or_false] at h
    rcases h with rfl | rfl | rfl <;> assumption
  · rcases List.mem_cons.mp h with rfl | h
    · exact h5
    · exact h
/-- a polynomial's degree, told by its coefficients: the greatest place that isn't 0 -/
def zD (f : Int → Int) (d : Int) : Prop := -1 ≤ d ∧ d ≤ 24 ∧ (∀ j, d < j → f j = 0) ∧ (∀ j, j < 0 → f j = 0) ∧ (0 ≤ d → f d ≠ 0)
/-- f e + t f (e + 1) + .. , k of them -/
def zhor (f : Int → Int) (t e : Int) : Nat → Int
  | 0 => 0
  | k + 1 => f e + t * zhor f t (e + 1) k
theorem zD_le {f : Int → Int} {d : Int} (h : zD f d) : -1 ≤ d ∧ d ≤ 24 := ⟨h.1, h.2.1⟩
theorem zD_out {f : Int → Int} {d : Int} (h : zD f d) {j : Int} (hj : j < 0 ∨ 25 ≤ j) : f j = 0 := by
  rcases hj with q | q
  · exact h.2.2.2.1 j q
  · exact h.2.2.1 j (by have := h.2.1; omega)
