/-- the 144 polynomials of a Determinant: they lie at pa i, their coefficients at qa i -/
def zPG (K : Nat → ClassId) (M : zq_M) (cA : Nat) (pa qa : Int → Nat) (dg : Int → Int) (fc : Int → Int → Int) : Prop := M cA = some (cQ (K 3) 144 (fun i => some (pa i))) ∧ (∀ i, 0 ≤ i → i < 144 → M (pa i) = some (.inr (8, [.ref (qa i), .int (iI (dg i))])) ∧ M (qa i) = some (cJ (K 1) 25 (fc i))) ∧ (∀ i j, 0 ≤ i → i < 144 → 0 ≤ j → j < 144 → pa i = pa j → i = j) ∧ ∀ i j, 0 ≤ i → i < 144 → 0 ≤ j → j < 144 → qa i = qa j → i = j
def zFd (dg : Int → Int) (st ord r : Int) : Prop := (st ≤ r ∧ r < ord ∧ 0 ≤ dg (r * 12 + st) ∧ ∀ k, st ≤ k → k < r → dg (k * 12 + st) < 0) ∨ (r = -1 ∧ ∀ k, st ≤ k → k < ord → dg (k * 12 + st) < 0)
/-- rows a and b change places: place k holds what place zri a b k held -/
def zri (a b k : Int) : Int := if k / 12 = b then a * 12 + k % 12 else if k / 12 = a then b * 12 + k % 12 else k
theorem zri_in {a b k : Int} (ha : 0 ≤ a ∧ a < 12) (hb : 0 ≤ b ∧ b < 12) (hk : 0 ≤ k ∧ k < 144) : 0 ≤ zri a b k ∧ zri a b k < 144 := by
  unfold zri
  (repeat' split) <;> omega
theorem zri_inj {a b i j : Int} (ha : 0 ≤ a ∧ a < 12) (hb : 0 ≤ b ∧ b < 12) (h : zri a b i = zri a b j) : i = j := by
  unfold zri at h
  (repeat' split at h) <;> omega
theorem zPG_swp {K : Nat → ClassId} {M M' : zq_M} {cA : Nat} {pa qa : Int → Nat} {dg : Int → Int} {fc : Int → Int → Int} {a b : Int} (h : zPG K M cA pa qa dg fc) (ha : 0 ≤ a ∧ a < 12) (hb : 0 ≤ b ∧ b < 12) (hg : M' cA = some (cQ (K 3) 144 (fun i => some (pa (zri a b i))))) (hM : ∀ q, q ≠ cA → M' q = M q) : zPG K M' cA (fun i => pa (zri a b i)) (fun i => qa (zri a b i)) (fun i => dg (zri a b i)) (fun i => fc (zri a b i)) := by
  refine ⟨hg, fun i h1 h2 => ?_, fun i j i1 i2 j1 j2 e => ?_, fun i j i1 i2 j1 j2 e => ?_⟩
  · have z := zri_in ha hb ⟨h1, h2⟩
    have w := h.2.1 _ z.1 z.2
    exact ⟨(hM _ (zq_ne w.1 h.1 (by simp))).trans w.1, (hM _ (zq_ne w.2 h.1 (by simp))).trans w.2⟩
  · have z1 := zri_in ha hb ⟨i1, i2⟩
    have z2 := zri_in ha hb ⟨j1, j2⟩
    exact zri_inj ha hb (h.2.2.1 _ _ z1.1 z1.2 z2.1 z2.2 e)
  · have z1 := zri_in ha hb ⟨i1, i2⟩
    have z2 := zri_in ha hb ⟨j1, j2⟩
    exact zri_inj ha hb (h.2.2.2 _ _ z1.1 z1.2 z2.1 z2.2 e)
theorem zri_step {pa : Int → Nat} {g : Int → Option Nat} {a b i : Int} (ha : 0 ≤ a ∧ a < 12) (hb : 0 ≤ b ∧ b < 12) (hi : 0 ≤ i ∧ i < 12) (hg : ∀ k, g k = if k % 12 < i then some (pa (zri a b k)) else some (pa k)) : ∀ k, zu (zu g (a * 12 + i) (some (pa (b * 12 + i)))) (b * 12 + i) (some (pa (a * 12 + i))) k = if k % 12 < i + 1 then some (pa (zri a b k)) else some (pa k) := by
  intro k
  by_cases q1 : k = b * 12 + i
  · rw [q1, zu_self, if_pos (by omega)]
    unfold zri
    rw [if_pos (by omega), show (b * 12 + i) % 12 = i from by omega]
  · rw [zu_ne _ _ q1]
    by_cases q2 : k = a * 12 + i
    · rw [q2, zu_self, if_pos (by omega)]
      unfold zri
      rw [if_neg (by omega), if_pos (by omega), show (a * 12 + i) % 12 = i from by omega]
    · rw [zu_ne _ _ q2, hg]
      by_cases z : k % 12 < i
      · rw [if_pos z, if_pos (by omega)]
      · rw [if_neg z]
        by_cases z2 : k % 12 < i + 1
        · rw [if_pos z2]
          unfold zri
          rw [if_neg (by omega), if_neg (by omega)]
        · rw [if_neg z2]
