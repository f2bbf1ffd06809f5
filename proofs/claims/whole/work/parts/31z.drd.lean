/-- y is the one place beside x that bears x's label -/
def zPo (lb : Int → Int) (P x y : Int) : Prop := 0 ≤ y ∧ y < P ∧ y ≠ x ∧ lb y = lb x ∧ ∀ z, 0 ≤ z → z < P → z ≠ x → lb z = lb x → z = y
def zPr (lb : Int → Int) (P : Int) (pf : Int → Int) : Prop := ∀ x, 0 ≤ x → x < P → zPo lb P x (pf x)
/-- of the places below j beside x: none, one (y), or more bear x's label -/
def zFn (lb : Int → Int) (x j fn y : Int) : Prop := 0 ≤ fn ∧ fn ≤ j ∧ ((fn = 0 ∧ ∀ z, 0 ≤ z → z < j → z ≠ x → ¬ lb z = lb x) ∨ (fn = 1 ∧ 0 ≤ y ∧ y < j ∧ y ≠ x ∧ lb y = lb x ∧ ∀ z, 0 ≤ z → z < j → z ≠ x → lb z = lb x → z = y) ∨ (2 ≤ fn ∧ ∃ z w, 0 ≤ z ∧ z < j ∧ 0 ≤ w ∧ w < j ∧ z ≠ w ∧ z ≠ x ∧ w ≠ x ∧ lb z = lb x ∧ lb w = lb x))
theorem zFn_no {lb : Int → Int} {x j fn y : Int} (h : zFn lb x j fn y) (hn : j = x ∨ ¬ lb j = lb x) : zFn lb x (j + 1) fn y := by
  obtain ⟨a1, a2, a3⟩ := h
  refine ⟨a1, by omega, ?_⟩
  rcases a3 with ⟨b1, b2⟩ | ⟨b1, b2, b3, b4, b5, b6⟩ | ⟨b1, z, w, c1, c2, c3, c4, c5⟩
  · refine Or.inl ⟨b1, fun z h1 h2 h3 h4 => ?_⟩
    by_cases q : z = j
    · subst q; rcases hn with hn | hn; exact h3 hn; exact hn h4
    · exact b2 z h1 (by omega) h3 h4
  · refine Or.inr (Or.inl ⟨b1, b2, by omega, b4, b5, fun z h1 h2 h3 h4 => ?_⟩)
    by_cases q : z = j
    · subst q; rcases hn with hn | hn; exact absurd hn h3; exact absurd h4 hn
    · exact b6 z h1 (by omega) h3 h4
  · exact Or.inr (Or.inr ⟨b1, z, w, c1, by omega, c3, by omega, c5⟩)
theorem zFn_yes {lb : Int → Int} {x j fn y : Int} (h : zFn lb x j fn y) (hj : 0 ≤ j) (hx : ¬ j = x) (hl : lb j = lb x) : zFn lb x (j + 1) (fn + 1) j := by
  obtain ⟨a1, a2, a3⟩ := h
  refine ⟨by omega, by omega, ?_⟩
  rcases a3 with ⟨b1, b2⟩ | ⟨b1, b2, b3, b4, b5, b6⟩ | ⟨b1, z, w, c1, c2, c3, c4, c5⟩
  · refine Or.inr (Or.inl ⟨by omega, hj, by omega, hx, hl, fun z h1 h2 h3 h4 => ?_⟩)
    by_cases q : z = j
    · exact q
    · exact absurd h4 (b2 z h1 (by omega) h3)
  · exact Or.inr (Or.inr ⟨by omega, y, j, b2, by omega, hj, by omega, by omega, b4, hx, b5, hl⟩)
  · exact Or.inr (Or.inr ⟨by omega, z, w, c1, by omega, c3, by omega, c5⟩)
theorem zFn_one {lb : Int → Int} {x P y : Int} (h : zFn lb x P 1 y) : zPo lb P x y := by
  rcases h.2.2 with ⟨b1, b2⟩ | ⟨b1, b2, b3, b4, b5, b6⟩ | ⟨b1, -⟩
  · omega
  · exact ⟨b2, b3, b4, b5, b6⟩
  · omega
theorem zFn_bad {lb : Int → Int} {x P fn y : Int} (h : zFn lb x P fn y) (hn : ¬ fn = 1) : ¬ ∃ w, zPo lb P x w := by
  rintro ⟨w, d1, d2, d3, d4, d5⟩
  rcases h.2.2 with ⟨b1, b2⟩ | ⟨b1, -⟩ | ⟨b1, z, u, c1, c2, c3, c4, c5, c6, c7, c8, c9⟩
  · exact b2 w d1 d2 d3 d4
  · exact hn b1
  · exact c5 ((d5 z c1 c2 c6 c8).trans (d5 u c3 c4 c7 c9).symm)
/-- each edge goes in at one end, out at the other -/
def zEd (sg : Int → Int) (P : Int) (pf : Int → Int) : Prop := ∀ x, 0 ≤ x → x < P → ¬ ((if zgi (sg (x / 4)) x then (1 : Int) else 0) = if zgi (sg (pf x / 4)) (pf x) then 1 else 0)
/-- the pieces, as the places are gone through -/
def zlb (pf : Int → Int) : Nat → Int → Int
  | 0, k => k
  | n + 1, k => if zlb pf n k = zlb pf n (pf n / 4) then zlb pf n ((n : Int) / 4) else zlb pf n k
theorem zlb_in {pf : Int → Int} : ∀ n : Nat, n ≤ 48 → ∀ k, 0 ≤ k → k < 12 → 0 ≤ zlb pf n k ∧ zlb pf n k < 12
  | 0, _, k, h1, h2 => ⟨h1, h2⟩
  | n + 1, hn, k, h1, h2 => by
    show 0 ≤ (if zlb pf n k = zlb pf n (pf n / 4) then zlb pf n ((n : Int) / 4) else zlb pf n k) ∧ (if zlb pf n k = zlb pf n (pf n / 4) then zlb pf n ((n : Int) / 4) else zlb pf n k) < 12
    split
    · exact zlb_in n (by omega) _ (by omega) (by omega)
    · exact zlb_in n (by omega) _ h1 h2
/-- the next dart round a face -/
def znx (pf : Int → Int) (x : Int) : Int := pf (x - x % 4 + (x + 4 - 1) % 4)
def zgo (pf : Int → Int) : Nat → Int → (Int → Int) → Int → Int
  | 0, _, sn => sn
  | f + 1, x, sn => if sn x = 0 then zgo pf f (znx pf x) (zu sn x 1) else sn
theorem zgo_01 {pf : Int → Int} : ∀ (f : Nat) (x : Int) (sn : Int → Int), (∀ z, sn z = 0 ∨ sn z = 1) → ∀ z, zgo pf f x sn z = 0 ∨ zgo pf f x sn z = 1
  | 0, _, sn, h, z => h z
  | f + 1, x, sn, h, z => by
    show (if sn x = 0 then zgo pf f (znx pf x) (zu sn x 1) else sn) z = 0 ∨ (if sn x = 0 then zgo pf f (znx pf x) (zu sn x 1) else sn) z = 1
    split
    · exact zgo_01 f _ _ (fun z => by unfold zu; split; exact Or.inr rfl; exact h z) z
    · exact h z
/-- faces: what has been seen, how many for each piece -/
def zcf (pf pc sn0 : Int → Int) : Nat → (Int → Int) × (Int → Int)
  | 0 => (sn0, fun _ => 0)
  | k + 1 => if (zcf pf pc sn0 k).1 k = 0 then (zgo pf 48 k (zcf pf pc sn0 k).1, zu (zcf pf pc sn0 k).2 (pc ((k : Int) / 4)) ((zcf pf pc sn0 k).2 (pc ((k : Int) / 4)) + 1)) else zcf pf pc sn0 k
theorem zcf_pos {pf pc sn0 : Int → Int} {k : Nat} (h : (zcf pf pc sn0 k).1 k = 0) : zcf pf pc sn0 (k + 1) = (zgo pf 48 k (zcf pf pc sn0 k).1, zu (zcf pf pc sn0 k).2 (pc ((k : Int) / 4)) ((zcf pf pc sn0 k).2 (pc ((k : Int) / 4)) + 1)) := if_pos h
theorem zcf_neg {pf pc sn0 : Int → Int} {k : Nat} (h : ¬ (zcf pf pc sn0 k).1 k = 0) : zcf pf pc sn0 (k + 1) = zcf pf pc sn0 k := if_neg h
theorem zcf_01 {pf pc sn0 : Int → Int} (h : ∀ z, sn0 z = 0 ∨ sn0 z = 1) : ∀ (k : Nat) z, (zcf pf pc sn0 k).1 z = 0 ∨ (zcf pf pc sn0 k).1 z = 1
  | 0, z => h z
  | k + 1, z => by
    unfold zcf
    split
    · exact zgo_01 _ _ _ (zcf_01 h k) z
    · exact zcf_01 h k z
theorem zcf_bd {pf pc sn0 : Int → Int} : ∀ (k : Nat) z, 0 ≤ (zcf pf pc sn0 k).2 z ∧ (zcf pf pc sn0 k).2 z ≤ k
  | 0, z => ⟨Int.le_refl _, Int.le_refl _⟩
  | k + 1, z => by
    have h := zcf_bd (pf := pf) (pc := pc) (sn0 := sn0) k
    unfold zcf
    split
    · show 0 ≤ zu _ _ _ z ∧ zu _ _ _ z ≤ _
      have h1 := h z
      have h2 := h (pc ((k : Int) / 4))
      unfold zu
      split <;> omega
    · have h1 := h z; omega
/-- less one for each crossing -/
def zsb (pc sp : Int → Int) : Nat → Int → Int
  | 0 => sp
  | k + 1 => zu (zsb pc sp k) (pc k) (zsb pc sp k (pc k) - 1)
theorem zsb_bd {pc sp : Int → Int} {B : Int} (h : ∀ z, 0 ≤ sp z ∧ sp z ≤ B) : ∀ (k : Nat) z, -(k : Int) ≤ zsb pc sp k z ∧ zsb pc sp k z ≤ B
  | 0, z => by have := h z; exact ⟨by simp [zsb]; omega, this.2⟩
  | k + 1, z => by
    have h1 := zsb_bd (pc := pc) h k z
    have h2 := zsb_bd (pc := pc) h k (pc k)
    show -((k + 1 : Nat) : Int) ≤ zu _ _ _ z ∧ zu _ _ _ z ≤ B
    unfold zu
    split <;> omega
/-- each piece has as many faces as crossings, and two more -/
def zSph (cnt : Int) (pf sn0 : Int → Int) : Prop := ∀ k, 0 ≤ k → k < cnt → zsb (zlb pf (4 * cnt).toNat) (zcf pf (zlb pf (4 * cnt).toNat) sn0 (4 * cnt).toNat).2 cnt.toNat (zlb pf (4 * cnt).toNat k) = 2
/-- which rule is broken first; 0: none -/
def zFB (cnt : Int) (sg lb : Int → Int) (r : Int) : Prop := (r = 1 ∧ ∃ x, 0 ≤ x ∧ x < 4 * cnt ∧ ¬ ∃ y, zPo lb (4 * cnt) x y) ∨ ∃ pf sn0, zPr lb (4 * cnt) pf ∧ (∀ z, 0 ≤ z → z < 4 * cnt → sn0 z = 0) ∧ (∀ z, sn0 z = 0 ∨ sn0 z = 1) ∧ ((r = 2 ∧ ¬ zEd sg (4 * cnt) pf) ∨ (zEd sg (4 * cnt) pf ∧ ((r = 0 ∧ zSph cnt pf sn0) ∨ (r = 3 ∧ ¬ zSph cnt pf sn0))))
theorem zlb_step {pf : Int → Int} {n : Nat} {g0 g : Int → Int} {i : Int} (hg0 : ∀ z, 0 ≤ z → z < 12 → g0 z = zlb pf n z) (h : ∀ z, 0 ≤ z → z < 12 → g z = if z < i then zlb pf (n + 1) z else zlb pf n z) (hi : 0 ≤ i ∧ i < 12) (hc : zlb pf n i = zlb pf n (pf n / 4)) : ∀ z, 0 ≤ z → z < 12 → (zu g i (zlb pf n ((n : Int) / 4))) z = if z < i + 1 then zlb pf (n + 1) z else zlb pf n z := by
  intro z h1 h2
  by_cases q : z = i
  · subst q
    rw [zu_self, if_pos (by omega)]
    exact (if_pos hc).symm
  · rw [zu_ne _ _ q, h z h1 h2]
    by_cases q2 : z < i
    · rw [if_pos q2, if_pos (by omega)]
    · rw [if_neg q2, if_neg (by omega)]
theorem zlb_skip {pf : Int → Int} {n : Nat} {g : Int → Int} {i : Int} (h : ∀ z, 0 ≤ z → z < 12 → g z = if z < i then zlb pf (n + 1) z else zlb pf n z) (hc : ¬ zlb pf n i = zlb pf n (pf n / 4)) : ∀ z, 0 ≤ z → z < 12 → g z = if z < i + 1 then zlb pf (n + 1) z else zlb pf n z := by
  intro z h1 h2
  rw [h z h1 h2]
  by_cases q : z = i
  · subst q
    rw [if_neg (by omega), if_pos (by omega)]
    exact (if_neg hc).symm
  · by_cases q2 : z < i
    · rw [if_pos q2, if_pos (by omega)]
    · rw [if_neg q2, if_neg (by omega)]
