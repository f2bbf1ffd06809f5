theorem zlin_out {c s j : Int} (h : 1 < j) : zu (zu (fun _ => 0) 0 c) 1 s j = 0 := by rw [zu_ne _ _ (by omega), zu_ne _ _ (by omega)]
theorem zlin_neg {c s j : Int} (h : j < 0) : zu (zu (fun _ => 0) 0 c) 1 s j = 0 := by rw [zu_ne _ _ (by omega), zu_ne _ _ (by omega)]
theorem zlin_in {c s : Int} (hc : inL c) (hs : inL s) (j : Int) : inL (zu (zu (fun _ => 0) 0 c) 1 s j) := by
  by_cases h1 : j = 1
  · rw [h1, zu_self]; exact hs
  · rw [zu_ne _ _ h1]
    by_cases h0 : j = 0
    · rw [h0, zu_self]; exact hc
    · rw [zu_ne _ _ h0]; exact ⟨by omega, by omega⟩
theorem zad_le {d d2 sh fc : Int} (h1 : -1 ≤ d ∧ d ≤ 24) (h2 : d2 + sh ≤ 24) : -1 ≤ zad d d2 sh fc ∧ zad d d2 sh fc ≤ 24 := by
  unfold zad
  by_cases h : fc = 0 ∨ d2 < 0
  · rw [if_pos h]; exact h1
  · rw [if_neg h]; omega
theorem zsh_out {f g : Int → Int} {d d2 sh fc j : Int} (hf : ∀ j, d < j → f j = 0) (hg : ∀ j, d2 < j → g j = 0) (hgn : ∀ j, j < 0 → g j = 0) (hj : zad d d2 sh fc < j) : f j + fc * g (j - sh) = 0 := by
  unfold zad at hj
  by_cases h : fc = 0 ∨ d2 < 0
  · rw [if_pos h] at hj
    rw [hf j hj]
    rcases h with h | h
    · rw [h]; simp
    · by_cases q : d2 < j - sh
      · rw [hg _ q]; simp
      · rw [hgn _ (by omega)]; simp
  · rw [if_neg h] at hj
    rw [hf j (by omega), hg (j - sh) (by omega)]
    simp
/-- sum over e below n of f e times g (j - e) -/
def zcv (f g : Int → Int) (j : Int) : Nat → Int
  | 0 => 0
  | n + 1 => zcv f g j n + f n * g (j - n)
theorem zcv_step {f f1 f2 h : Int → Int} {fc i : Int} (hh : ∀ j, h j = f j + fc * zcv f1 f2 j i.toNat) (hi : 0 ≤ i) (j : Int) : h j + fc * f1 i * f2 (j - i) = f j + fc * zcv f1 f2 j (i + 1).toNat := by
  have e : (i + 1).toNat = i.toNat + 1 := by omega
  have e2 : ((i.toNat : Nat) : Int) = i := by omega
  rw [hh, e, zcv, e2, Int.mul_add, Int.mul_assoc]
  omega
theorem zcv_neg {f f1 f2 : Int → Int} {fc : Int} {n : Nat} (hf : ∀ j, j < 0 → f j = 0) (h2 : ∀ j, j < 0 → f2 j = 0) {j : Int} (hj : j < 0) : f j + fc * zcv f1 f2 j n = 0 := by
  have : ∀ n : Nat, zcv f1 f2 j n = 0 := by
    intro n
    induction n with
    | zero => rfl
    | succ n ih => rw [zcv, ih, h2 _ (by omega)]; simp
  rw [this, hf j hj]
  simp
