def zent (E S : Int → Int → Int) (v p a b : Int) : Int := (E a b + S a b * v) % p
theorem zent_in {e s v : Int} (h : (-10 ≤ e ∧ e ≤ 10) ∧ -10 ≤ s ∧ s ≤ 10) (hv : 0 ≤ v ∧ v ≤ 96) : inI (e + s * v) := by
  have h1 : s * v ≤ 10 * 96 := by
    rcases Int.le_total 0 s with q | q
    · exact Int.mul_le_mul h.2.2 hv.2 hv.1 (by omega)
    · have : s * v ≤ 0 := Int.mul_nonpos_of_nonpos_of_nonneg q hv.1
      omega
  have h2 : -(10 * 96) ≤ s * v := by
    rcases Int.le_total 0 s with q | q
    · have : 0 ≤ s * v := Int.mul_nonneg q hv.1
      omega
    · have : (-s) * v ≤ 10 * 96 := Int.mul_le_mul (by omega) hv.2 hv.1 (by omega)
      rw [Int.neg_mul] at this
      omega
  exact ⟨by omega, by omega⟩
theorem zent_step {E S F1 : Int → Int → Int} {h : Int → Int} {v p i j : Int} (hh : ∀ b, h b = if 0 ≤ b ∧ b < j then zent E S v p i b else F1 i b) (hj : 0 ≤ j) : ∀ b, zu h j ((E i j + S i j * v) % p) b = if 0 ≤ b ∧ b < j + 1 then zent E S v p i b else F1 i b := by
  intro b
  by_cases q : b = j
  · rw [q, zu_self, if_pos (by omega)]; rfl
  · rw [zu_ne _ _ q, hh]
    by_cases y : 0 ≤ b ∧ b < j
    · rw [if_pos y, if_pos (by omega)]
    · rw [if_neg y, if_neg (by omega)]
theorem zentF_step {E S F F1 : Int → Int → Int} {h : Int → Int} {v p i j co : Int} (hF : ∀ a b, F1 a b = if 0 ≤ a ∧ a < i ∧ 0 ≤ b ∧ b < co then zent E S v p a b else F a b) (hh : ∀ b, h b = if 0 ≤ b ∧ b < j then zent E S v p i b else F1 i b) (hj : j = co) (hi : 0 ≤ i) : ∀ a b, zu F1 i h a b = if 0 ≤ a ∧ a < i + 1 ∧ 0 ≤ b ∧ b < co then zent E S v p a b else F a b := by
  subst hj
  intro a b
  by_cases q : a = i
  · subst q
    rw [zu_self, hh]
    by_cases y : 0 ≤ b ∧ b < j
    · rw [if_pos y, if_pos (by omega)]
    · rw [if_neg y, hF, if_neg (by omega), if_neg (by omega)]
  · rw [zu_ne _ _ q, hF]
    by_cases y : 0 ≤ a ∧ a < i ∧ 0 ≤ b ∧ b < j
    · rw [if_pos y, if_pos (by omega)]
    · rw [if_neg y, if_neg (by omega)]
theorem zG_far {K : Nat → ClassId} {M M' : zq_M} {g g0 : Nat} {rc ra : Int → Nat} {E F : Int → Int → Int} (h : zG K M g rc E) (h2 : zG K M g0 ra F) (hM : ∀ q, q ≠ g0 → (∀ i, 0 ≤ i → i < 12 → q ≠ ra i) → M' q = M q) (hg : g ≠ g0) (hd : ∀ i j, 0 ≤ i → i < 12 → 0 ≤ j → j < 12 → ra i ≠ rc j) : zG K M' g rc E :=
  ⟨(hM _ hg (fun i h3 h4 => zq_ne h.1 (h2.2.1 i h3 h4) (by simp))).trans h.1, fun j j1 j2 => (hM _ (zq_ne (h.2.1 j j1 j2) h2.1 (by simp)) (fun i h3 h4 => Ne.symm (hd i j h3 h4 j1 j2))).trans (h.2.1 j j1 j2), h.2.2⟩
/-- the elimination modulo p over the first n columns: F has come out of F0, found rows have a pivot -/
def zEl (F0 : Int → Int → Int) (rows p : Int) : Nat → (Int → Int → Int) → Int → Prop
  | 0, F, fd => F = F0 ∧ fd = 0
  | n + 1, F, fd => ∃ F1 f1, zEl F0 rows p n F1 f1 ∧ ((rows ≤ f1 ∧ F = F1 ∧ fd = f1) ∨ (f1 < rows ∧ ∃ r, zFp F1 f1 rows n r ∧ ((r = -1 ∧ F = F1 ∧ fd = f1) ∨ (0 ≤ r ∧ F = zclr (zswp F1 f1 r) f1 rows n p ∧ fd = f1 + 1))))
theorem zEl_ext {F0 F : Int → Int → Int} {rows p fd : Int} {k n : Nat} (h : zEl F0 rows p k F fd) (hf : rows ≤ fd) (hn : k ≤ n) : zEl F0 rows p n F fd := by
  induction n with
  | zero => rw [show k = 0 by omega] at h; exact h
  | succ n ih =>
    by_cases q : k = n + 1
    · rw [← q]; exact h
    · exact ⟨F, fd, ih (by omega), Or.inl ⟨hf, rfl, rfl⟩⟩
theorem zclr_in {F : Int → Int → Int} {st rows col p : Int} (hp : 2 ≤ p ∧ p ≤ 97) (h : ∀ i j, 0 ≤ F i j ∧ F i j ≤ 96) : ∀ i j, 0 ≤ zclr F st rows col p i j ∧ zclr F st rows col p i j ≤ 96 := by
  intro i j
  unfold zclr
  split
  · unfold zcr
    split
    · exact h i j
    · by_cases q : col ≤ j ∧ j < 33
      · simp only [if_pos q]; exact zmodp hp
      · simp only [if_neg q]; exact h i j
  · exact h i j
