theorem zcv_zero {f g : Int → Int} {j : Int} {n : Nat} (h : ∀ e : Nat, e < n → f e * g (j - e) = 0) : zcv f g j n = 0 := by
  induction n with
  | zero => rfl
  | succ n ih => rw [zcv, ih (fun e he => h e (by omega)), h n (by omega)]; rfl
theorem zcv_back {qt f2 h1 : Int → Int} {i : Int} (hh : ∀ j, h1 j = zcv qt f2 j (i + 1).toNat) (hi : 0 ≤ i) : ∀ j, h1 j + -qt i * f2 (j - i) = zcv qt f2 j (i - 1 + 1).toNat := by
  intro j
  have e : (i + 1).toNat = (i - 1 + 1).toNat + 1 := by omega
  have e2 : (((i - 1 + 1).toNat : Nat) : Int) = i := by omega
  rw [hh, e, zcv, e2, Int.neg_mul]
  omega
theorem zqt_step {qt hq : Int → Int} {i : Int} (hh : ∀ j, hq j = if i < j then qt j else 0) : ∀ j, zu hq i (qt i) j = if i - 1 < j then qt j else 0 := by
  intro j
  by_cases q : j = i
  · rw [q, zu_self, if_pos (by omega)]
  · rw [zu_ne _ _ q, hh]
    by_cases z : i < j
    · rw [if_pos z, if_pos (by omega)]
    · rw [if_neg z, if_neg (by omega)]
theorem zcv_out {qt f2 h1 : Int → Int} {i d2 j : Int} (hh : ∀ j, h1 j = zcv qt f2 j (i + 1).toNat) (hi : i + d2 ≤ 24) (h2 : ∀ j, d2 < j → f2 j = 0) (h3 : ∀ j, j < 0 → f2 j = 0) (hj : j < 0 ∨ 25 ≤ j) : h1 j = 0 := by
  rw [hh]
  refine zcv_zero fun e he => ?_
  rcases hj with q | q
  · rw [h3 _ (by omega)]; simp
  · rw [h2 _ (by omega)]; simp
theorem zcv_top {qt f2 h1 : Int → Int} {i d2 : Int} (hh : ∀ j, h1 j = zcv qt f2 j (i + 1).toNat) (hi : 0 ≤ i) (h2 : ∀ j, d2 < j → f2 j = 0) : h1 (i + d2) = qt i * f2 d2 := by
  have e : (i + 1).toNat = i.toNat + 1 := by omega
  have e2 : ((i.toNat : Nat) : Int) = i := by omega
  rw [hh, e, zcv, e2, zcv_zero (fun e he => by rw [h2 _ (by omega)]; simp), show i + d2 - i = d2 from by omega]
  simp
def zsg (x : Int) : Int := if x < 0 then -1 else 1
theorem znf_fun {g : Int → Int} {i sg : Int} (h : sg = zsg (g i)) : (fun j => (fun _ => 0) j + sg * g (j - -i)) = fun j => zsg (g i) * g (j + i) := by
  funext j
  rw [h, show j - -i = j + i from by omega]
  simp
theorem zq_inL_eq {a b : Int} (h : a = b) (hb : inL b) : inL a := h ▸ hb
