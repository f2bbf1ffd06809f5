/-- coefficients of a minor: at most 4^12 -/
def zB (f : Int → Int) : Prop := ∀ j, -16777216 ≤ f j ∧ f j ≤ 16777216
theorem zB_mul {a b : Int} (ha : -16777216 ≤ a ∧ a ≤ 16777216) (hb : -16777216 ≤ b ∧ b ≤ 16777216) : -281474976710656 ≤ a * b ∧ a * b ≤ 281474976710656 := by
  have key : ∀ x y : Int, 0 ≤ x → x ≤ 16777216 → 0 ≤ y → y ≤ 16777216 → 0 ≤ x * y ∧ x * y ≤ 281474976710656 := by
    intro x y h1 h2 h3 h4
    have := Int.mul_le_mul h2 h4 h3 (by omega : (0 : Int) ≤ 16777216)
    exact ⟨Int.mul_nonneg h1 h3, by omega⟩
  rcases Int.le_total 0 a with p | p <;> rcases Int.le_total 0 b with q | q
  · have := key a b p ha.2 q hb.2; omega
  · have := key a (-b) p ha.2 (by omega) (by omega); rw [Int.mul_neg] at this; omega
  · have := key (-a) b (by omega) (by omega) q hb.2; rw [Int.neg_mul] at this; omega
  · have := key (-a) (-b) (by omega) (by omega) (by omega) (by omega); rw [Int.neg_mul_neg] at this; omega
theorem zcv_bd {f g : Int → Int} (hf : zB f) (hg : zB g) (j : Int) : ∀ n : Nat, -(281474976710656 * (n : Int)) ≤ zcv f g j n ∧ zcv f g j n ≤ 281474976710656 * (n : Int)
  | 0 => by simp [zcv]
  | n + 1 => by
    have h1 := zcv_bd hf hg j n
    have h2 := zB_mul (hf n) (hg (j - n))
    rw [zcv]
    omega
theorem zcv_all {f g : Int → Int} {d : Int} {n : Nat} (hf : ∀ j, d < j → f j = 0) (j : Int) (hd : d ≤ 24) (h1 : -1 ≤ d) (hn : n = (d + 1).toNat) : zcv f g j n = zcv f g j 25 := by
  subst hn
  have key : ∀ m : Nat, (d + 1).toNat ≤ m → zcv f g j (d + 1).toNat = zcv f g j m := by
    intro m hm
    induction m with
    | zero => rw [show (d + 1).toNat = 0 by omega]
    | succ m ih =>
      by_cases q : (d + 1).toNat = m + 1
      · rw [q]
      · rw [zcv, ← ih (by omega), hf m (by omega)]
        simp
  exact key 25 (by omega)
theorem zU_0 : zU (fun _ => 0) (-1) := ⟨by decide, by decide, fun _ _ => rfl, fun _ _ => rfl⟩
theorem zD_uniq {f : Int → Int} {d1 d2 : Int} (h1 : zD f d1) (h2 : zD f d2) : d1 = d2 := by
  rcases Int.lt_trichotomy d1 d2 with q | q | q
  · exact absurd (h1.2.2.1 d2 q) (h2.2.2.2.2 (by have := h1.1; omega))
  · exact q
  · exact absurd (h2.2.2.1 d1 q) (h1.2.2.2.2 (by have := h2.1; omega))
/-- the degree of an exact quotient -/
theorem zquo {f1 qt f2 : Int → Int} {d1 dq d2 : Int} (h : ∀ j, f1 j = zcv qt f2 j 25) (hD1 : zD f1 d1) (hDq : zD qt dq) (hD2 : zD f2 d2) (hd2 : 0 ≤ d2) (hs : dq + d2 ≤ 24) : (∀ j, j < 0 ∨ d1 - d2 < j → qt j = 0) ∧ ∀ j, f1 j = zcv qt f2 j (d1 - d2 + 1).toNat := by
  have all : ∀ j, zcv qt f2 j 25 = zcv qt f2 j (dq + 1).toNat := fun j => (zcv_all hDq.2.2.1 j hDq.2.1 hDq.1 rfl).symm
  by_cases hq : 0 ≤ dq
  · have e : d1 = dq + d2 := by
      have top : f1 (dq + d2) = qt dq * f2 d2 := by
        have := zcv_top (qt := qt) (f2 := f2) (h1 := fun j => zcv qt f2 j (dq + 1).toNat) (i := dq) (fun j => rfl) hq hD2.2.2.1
        rw [h, all]; exact this
      have ne : f1 (dq + d2) ≠ 0 := by
        rw [top]; exact Int.mul_ne_zero (hDq.2.2.2.2 hq) (hD2.2.2.2.2 hd2)
      rcases Int.lt_trichotomy d1 (dq + d2) with q | q | q
      · exact absurd (hD1.2.2.1 _ q) ne
      · exact q
      · have z : f1 d1 = 0 := by
          rw [h, all]
          refine zcv_zero fun x hx => ?_
          rw [hD2.2.2.1 _ (by omega)]; simp
        exact absurd z (hD1.2.2.2.2 (by omega))
    refine ⟨fun j hj => ?_, fun j => ?_⟩
    · rcases hj with q | q
      · exact hDq.2.2.2.1 j q
      · exact hDq.2.2.1 j (by omega)
    · rw [h, all, show d1 - d2 + 1 = dq + 1 from by omega]
  · have z : ∀ j, qt j = 0 := fun j => by
      by_cases q : dq < j
      · exact hDq.2.2.1 j q
      · exact hDq.2.2.2.1 j (by have := hDq.1; omega)
    have z1 : ∀ j n, zcv qt f2 j n = 0 := fun j n => zcv_zero fun x _ => by rw [z]; simp
    exact ⟨fun j _ => z j, fun j => by rw [h, z1, z1]⟩
/-- what clearBelow has done: rows between st and i, and of row i the columns below j -/
def zup2 {α : Type} (st i j od : Int) (Q : Int → Int → α) (f : Int → α) : Int → α := fun k => if (st < k / 12 ∧ k / 12 < i ∧ st < k % 12 ∧ k % 12 < od) ∨ (k / 12 = i ∧ st < k % 12 ∧ k % 12 < j) then Q (k / 12) (k % 12) else f k
theorem zup2_step {α : Type} {st i j od : Int} {Q : Int → Int → α} {f : Int → α} (h : st < j ∧ j < od ∧ j < 12 ∧ 0 ≤ st ∧ 0 ≤ i) : zu (zup2 st i j od Q f) (i * 12 + j) (Q i j) = zup2 st i (j + 1) od Q f := by
  funext k
  by_cases q : k = i * 12 + j
  · subst q
    rw [zu_self]
    unfold zup2
    rw [if_pos (by omega), show (i * 12 + j) / 12 = i from by omega, show (i * 12 + j) % 12 = j from by omega]
  · rw [zu_ne _ _ q]
    unfold zup2
    by_cases z : (st < k / 12 ∧ k / 12 < i ∧ st < k % 12 ∧ k % 12 < od) ∨ (k / 12 = i ∧ st < k % 12 ∧ k % 12 < j)
    · rw [if_pos z, if_pos (by omega)]
    · rw [if_neg z, if_neg (by omega)]
theorem zup2_row {α : Type} {st i j od : Int} {Q : Int → Int → α} {f : Int → α} (h : j = od ∨ (od ≤ j ∧ j = st + 1)) (hs : st < i) : zup2 st i j od Q f = zup2 st (i + 1) (st + 1) od Q f := by
  funext k
  unfold zup2
  by_cases z : (st < k / 12 ∧ k / 12 < i ∧ st < k % 12 ∧ k % 12 < od) ∨ (k / 12 = i ∧ st < k % 12 ∧ k % 12 < j)
  · rw [if_pos z, if_pos (by omega)]
  · rw [if_neg z, if_neg (by omega)]
theorem zup2_0 {α : Type} {st od : Int} {Q : Int → Int → α} {f : Int → α} : zup2 st (st + 1) (st + 1) od Q f = f := by
  funext k
  unfold zup2
  rw [if_neg (by omega)]
theorem zup2_end {α : Type} {st i od : Int} {Q : Int → Int → α} {f : Int → α} (h : i = od ∨ (od ≤ i ∧ i = st + 1)) : zup2 st i (st + 1) od Q f = zup2 st od (st + 1) od Q f := by
  funext k
  unfold zup2
  by_cases z : (st < k / 12 ∧ k / 12 < i ∧ st < k % 12 ∧ k % 12 < od) ∨ (k / 12 = i ∧ st < k % 12 ∧ k % 12 < st + 1)
  · rw [if_pos z, if_pos (by omega)]
  · rw [if_neg z, if_neg (by omega)]
theorem zup2_old {α : Type} {st i j od k : Int} {Q : Int → Int → α} {f : Int → α} (h : ¬ ((st < k / 12 ∧ k / 12 < i ∧ st < k % 12 ∧ k % 12 < od) ∨ (k / 12 = i ∧ st < k % 12 ∧ k % 12 < j))) : zup2 st i j od Q f k = f k := if_neg h
theorem zPG_up {K : Nat → ClassId} {M M' : zq_M} {cA pr qpr : Nat} {pa qa : Int → Nat} {dg : Int → Int} {fc : Int → Int → Int} {k d' : Int} {f' : Int → Int} {x : Nat × List Value} (h : zPG K M cA pa qa dg fc) (hk : 0 ≤ k ∧ k < 144) (h1 : M' (pa k) = some (.inr (8, [.ref (qa k), .int (iI d')]))) (h2 : M' (qa k) = some (cJ (K 1) 25 f')) (hpr : M pr = some (.inr x)) (hqpr : M qpr = some (cJ (K 1) 25 fun _ => 0) ∨ ∃ g, M qpr = some (cJ (K 1) 25 g)) (hd : ∀ i, 0 ≤ i → i < 144 → pa i ≠ pr ∧ qa i ≠ qpr) (hM : ∀ q, q ≠ pr → q ≠ qpr → q ≠ pa k → q ≠ qa k → M' q = M q) : zPG K M' cA pa qa (zu dg k d') (zu fc k f') := by
  obtain ⟨g, hg⟩ : ∃ g, M qpr = some (cJ (K 1) 25 g) := by rcases hqpr with h | h; exact ⟨_, h⟩; exact h
  have w := h.2.1 k hk.1 hk.2
  refine ⟨(hM _ (zq_ne h.1 hpr (by simp)) (zq_ne h.1 hg (by simp)) (zq_ne h.1 w.1 (by simp)) (zq_ne h.1 w.2 (by simp))).trans h.1, fun i i1 i2 => ?_, h.2.2⟩
  by_cases q : i = k
  · rw [q, zu_self, zu_self]; exact ⟨h1, h2⟩
  · rw [zu_ne _ _ q, zu_ne _ _ q]
    have wi := h.2.1 i i1 i2
    have di := hd i i1 i2
    exact ⟨(hM _ di.1 (zq_ne wi.1 hg (by simp)) (fun z => q (h.2.2.1 i k i1 i2 hk.1 hk.2 z)) (zq_ne wi.1 w.2 (by simp))).trans wi.1, (hM _ (zq_ne wi.2 hpr (by simp)) di.2 (zq_ne wi.2 w.1 (by simp)) (fun z => q (h.2.2.2 i k i1 i2 hk.1 hk.2 z))).trans wi.2⟩
