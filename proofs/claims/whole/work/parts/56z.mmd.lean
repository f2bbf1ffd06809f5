/-- a crossing's labels turned round -/
def zch (lb : Int → Int) (k bg : Int) : Int → Int := fun z => if 4 * k ≤ z ∧ z < 4 * k + 4 then lb (4 * k + (bg + (z - 4 * k)) % 4) else lb z
theorem zch_s {lb f g : Int → Int} {k bg i : Int} (hg : ∀ z, g z = if 4 * k ≤ z ∧ z < 4 * k + i then lb (4 * k + (bg + (z - 4 * k)) % 4) else lb z) (hf : f i = lb (4 * k + (bg + i) % 4)) (hi : 0 ≤ i) : ∀ z, zu g (4 * k + i) (f i) z = if 4 * k ≤ z ∧ z < 4 * k + (i + 1) then lb (4 * k + (bg + (z - 4 * k)) % 4) else lb z := fun z => by
  by_cases q : z = 4 * k + i
  · subst q; rw [zu_self, if_pos (by omega), hf, show 4 * k + i - 4 * k = i by omega]
  · rw [zu_ne _ _ q, hg]
    by_cases q2 : 4 * k ≤ z ∧ z < 4 * k + i
    · rw [if_pos q2, if_pos (by omega)]
    · rw [if_neg q2, if_neg (by omega)]
theorem zch_in {lb : Int → Int} {k bg : Int} (h : ∀ j, inI (lb j)) (j : Int) : inI (zch lb k bg j) := by unfold zch; split <;> exact h _
def zrn (f : Int → Int) (P a b : Int) : Int → Int := fun z => if (0 ≤ z ∧ z < P) ∧ f z = a then b else f z
theorem zrn_in {f : Int → Int} {P a b : Int} (h : ∀ j, inI (f j)) (hb : inI b) (j : Int) : inI (zrn f P a b j) := by unfold zrn; split; exact hb; exact h _
theorem zrn_s {f g : Int → Int} {i a b v : Int} (hg : ∀ z, g z = if (0 ≤ z ∧ z < i) ∧ f z = a then b else f z) (hi : 0 ≤ i) (hv : v = if f i = a then b else f i) : ∀ z, zu g i v z = if (0 ≤ z ∧ z < i + 1) ∧ f z = a then b else f z := fun z => by
  by_cases q : z = i
  · subst q
    rw [zu_self, hv]
    by_cases q2 : f z = a
    · rw [if_pos q2, if_pos ⟨by omega, q2⟩]
    · rw [if_neg q2, if_neg (fun w => q2 w.2)]
  · rw [zu_ne _ _ q, hg]
    by_cases q2 : (0 ≤ z ∧ z < i) ∧ f z = a
    · rw [if_pos q2, if_pos ⟨by omega, q2.2⟩]
    · rw [if_neg q2, if_neg (fun w => q2 ⟨by omega, w.2⟩)]
abbrev zmx (a b : Int) : Int := if a < b then b else a
abbrev zmi (a b : Int) : Int := if a < b then a else b
/-- a row taken out -/
def zot (f : Int → Int) (k n w : Int) : Int → Int := fun z => if k ≤ z ∧ z < n then f (z + w) else f z
theorem zot_s {f g : Int → Int} {k i w : Int} (hg : ∀ z, g z = if k ≤ z ∧ z < i then f (z + w) else f z) (hi : k ≤ i) (hw : 0 ≤ w) : ∀ z, zu g i (g (i + w)) z = if k ≤ z ∧ z < i + 1 then f (z + w) else f z := fun z => by
  have e : g (i + w) = f (i + w) := by rw [hg, if_neg (by omega)]
  rw [e]
  by_cases q : z = i
  · subst q; rw [zu_self, if_pos (by omega)]
  · rw [zu_ne _ _ q, hg]
    by_cases q2 : k ≤ z ∧ z < i
    · rw [if_pos q2, if_pos (by omega)]
    · rw [if_neg q2, if_neg (by omega)]
theorem zot_in {f : Int → Int} {k n w : Int} (h : ∀ j, inI (f j)) (j : Int) : inI (zot f k n w j) := by unfold zot; split <;> exact h _
/-- how many circles a smoothing makes -/
def zmy (li uo up lo : Int) : Int := if li = uo then (if up = lo then 2 else 1) else if up = lo then 1 else if li = lo ∧ up = uo then 1 else 0
/-- the two joins -/
def zSmo (L1 : Int → Int) (P li uo up lo cir cir' : Int) (lb' : Int → Int) : Prop := ∃ cir1 L2 c d, ((li = uo ∧ cir1 = cir + 1 ∧ L2 = L1 ∧ c = up ∧ d = lo) ∨ (¬ li = uo ∧ cir1 = cir ∧ L2 = zrn L1 P (zmx li uo) (zmi li uo) ∧ c = (if up = zmx li uo then zmi li uo else up) ∧ d = (if lo = zmx li uo then zmi li uo else lo))) ∧ ((c = d ∧ cir' = cir1 + 1 ∧ lb' = L2) ∨ (¬ c = d ∧ cir' = cir1 ∧ lb' = zrn L2 P (zmx c d) (zmi c d)))
theorem zmi_in {a b : Int} (ha : inI a) (hb : inI b) : inI (zmi a b) := by
  show inI (if a < b then a else b)
  split
  · exact ha
  · exact hb
