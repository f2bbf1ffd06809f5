abbrev zsw (sg lb : Int → Int) (k : Int) : Int → Int := zw4 lb k (lb (4 * k + zup (sg k) % 4)) (lb (4 * k + (zup (sg k) + 1) % 4)) (lb (4 * k + (zup (sg k) + 2) % 4)) (lb (4 * k + (zup (sg k) + 3) % 4))
def zmk (lb : Int → Int) (a b : Int) : Int → Int := fun x => if 0 ≤ x ∧ x < 48 ∧ lb x = max a b then min a b else lb x
theorem zmk_s1 {lb h : Int → Int} {a b i : Int} (hh : ∀ x, h x = if 0 ≤ x ∧ x < i ∧ lb x = max a b then min a b else lb x) (hi : 0 ≤ i) (hn : ¬ lb i = max a b) : ∀ x, h x = if 0 ≤ x ∧ x < i + 1 ∧ lb x = max a b then min a b else lb x := by
  intro x
  rw [hh]
  by_cases q : x = i
  · subst q
    rw [if_neg (by omega), if_neg (fun z => hn z.2.2)]
  · by_cases z : 0 ≤ x ∧ x < i ∧ lb x = max a b
    · rw [if_pos z, if_pos ⟨z.1, by omega, z.2.2⟩]
    · rw [if_neg z, if_neg (fun y => z ⟨y.1, by omega, y.2.2⟩)]
theorem zmk_s2 {lb h : Int → Int} {a b i : Int} (hh : ∀ x, h x = if 0 ≤ x ∧ x < i ∧ lb x = max a b then min a b else lb x) (hi : 0 ≤ i ∧ h i = max a b) : ∀ x, zu h i (min a b) x = if 0 ≤ x ∧ x < i + 1 ∧ lb x = max a b then min a b else lb x := by
  have e : lb i = max a b := by
    have h1 := hh i
    rw [if_neg (by omega)] at h1
    rw [← h1]
    exact hi.2
  intro x
  by_cases q : x = i
  · subst q
    rw [zu_self, if_pos ⟨hi.1, by omega, e⟩]
  · rw [zu_ne _ _ q, hh]
    by_cases z : 0 ≤ x ∧ x < i ∧ lb x = max a b
    · rw [if_pos z, if_pos ⟨z.1, by omega, z.2.2⟩]
    · rw [if_neg z, if_neg (fun y => z ⟨y.1, by omega, y.2.2⟩)]
theorem zmk_C {cnt : Int} {sg lb : Int → Int} {a b : Int} (h : zC cnt sg lb) (ha : inI a) (hb : inI b) : zC cnt sg (zmk lb a b) := ⟨h.1, h.2.1, h.2.2.1, fun j => by
  unfold zmk
  split
  · omega
  · exact h.2.2.2 j⟩
def zrs (sg : Int → Int) (cnt k : Int) : Int → Int := fun j => if k ≤ j ∧ j < cnt - 1 then sg (j + 1) else sg j
def zrl (lb : Int → Int) (cnt k : Int) : Int → Int := fun j => if 4 * k ≤ j ∧ j < 4 * (cnt - 1) then lb (j + 4) else lb j
theorem zrm_s {sg sg1 : Int → Int} {k i : Int} (hh : ∀ j, sg1 j = if k ≤ j ∧ j < i - 1 then sg (j + 1) else sg j) (hi : k + 1 ≤ i) : ∀ j, zu sg1 (i - 1) (sg1 i) j = if k ≤ j ∧ j < i + 1 - 1 then sg (j + 1) else sg j := by
  intro j
  by_cases q : j = i - 1
  · subst q
    rw [zu_self, hh, if_neg (by omega), if_pos (by omega), show i - 1 + 1 = i from by omega]
  · rw [zu_ne _ _ q, hh]
    by_cases z : k ≤ j ∧ j < i - 1
    · rw [if_pos z, if_pos (by omega)]
    · rw [if_neg z, if_neg (by omega)]
theorem zrm_l {lb lb1 : Int → Int} {k i : Int} (hh : ∀ j, lb1 j = if 4 * k ≤ j ∧ j < 4 * (i - 1) then lb (j + 4) else lb j) (hi : k + 1 ≤ i) : ∀ j, zw4 lb1 (i - 1) (lb1 (4 * i)) (lb1 (4 * i + 1)) (lb1 (4 * i + 2)) (lb1 (4 * i + 3)) j = if 4 * k ≤ j ∧ j < 4 * (i + 1 - 1) then lb (j + 4) else lb j := by
  intro j
  have r : ∀ x, 4 * i ≤ x → lb1 x = lb x := fun x hx => by rw [hh, if_neg (by omega)]
  unfold zw4
  by_cases q3 : j = 4 * (i - 1) + 3
  · subst q3
    rw [zu_self, r _ (by omega), if_pos (by omega), show 4 * (i - 1) + 3 + 4 = 4 * i + 3 from by omega]
  · rw [zu_ne _ _ q3]
    by_cases q2 : j = 4 * (i - 1) + 2
    · subst q2
      rw [zu_self, r _ (by omega), if_pos (by omega), show 4 * (i - 1) + 2 + 4 = 4 * i + 2 from by omega]
    · rw [zu_ne _ _ q2]
      by_cases q1 : j = 4 * (i - 1) + 1
      · subst q1
        rw [zu_self, r _ (by omega), if_pos (by omega), show 4 * (i - 1) + 1 + 4 = 4 * i + 1 from by omega]
      · rw [zu_ne _ _ q1]
        by_cases q0 : j = 4 * (i - 1)
        · subst q0
          rw [zu_self, r _ (by omega), if_pos (by omega), show 4 * (i - 1) + 4 = 4 * i from by omega]
        · rw [zu_ne _ _ q0, hh]
          by_cases z : 4 * k ≤ j ∧ j < 4 * (i - 1)
          · rw [if_pos z, if_pos (by omega)]
          · rw [if_neg z, if_neg (by omega)]
/-- the labels behind joinStrands, ahead of the crossing's going -/
abbrev zj1 (sg lb : Int → Int) (k : Int) : Int → Int := zmk lb (lb (4 * k)) (lb (4 * k + zuo (sg k)))
abbrev zj2 (sg lb : Int → Int) (k : Int) : Int → Int := zmk (zj1 sg lb k) (zj1 sg lb k (4 * k + zup (sg k))) (zj1 sg lb k (4 * k + 2))
abbrev zjs (sg lb : Int → Int) (cnt k : Int) : Int → Int := zrl (zj2 sg lb k) cnt k
