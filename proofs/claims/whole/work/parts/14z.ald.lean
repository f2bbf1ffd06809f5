def zA (p c : Int) (al t ls : Int → Int) : Prop := 0 ≤ p ∧ p ≤ 48 ∧ 0 ≤ c ∧ c ≤ 33 ∧ (∀ j, inI (al j)) ∧ (∀ j, inI (t j)) ∧ ∀ j, inI (ls j)
/-- r is the first place where v stands among the first c, or -1 -/
def zNum (ls : Int → Int) (c v r : Int) : Prop := (0 ≤ r ∧ r < c ∧ ls r = v ∧ ∀ j, 0 ≤ j → j < r → ¬ ls j = v) ∨ (r = -1 ∧ ∀ j, 0 ≤ j → j < c → ¬ ls j = v)
def zmp (lb : Int → Int) (p a b : Int) : Int → Int := fun x => if 0 ≤ x ∧ x < p ∧ lb x = max a b then min a b else lb x
/-- the first c rise -/
def zSr (ls : Int → Int) (c : Int) : Prop := ∀ i j, 0 ≤ i → i < j → j < c → ls i < ls j
def zIns (ls : Int → Int) (c x : Int) (ls' : Int → Int) (c' : Int) : Prop := zSr ls' c' ∧ (∀ v, (∃ i, 0 ≤ i ∧ i < c' ∧ ls' i = v) ↔ (∃ i, 0 ≤ i ∧ i < c ∧ ls i = v) ∨ v = x) ∧ (c' = c ∨ c' = c + 1) ∧ ((∀ j, inI (ls j)) → inI x → ∀ j, inI (ls' j))
theorem zsf_step {ls h : Int → Int} {j0 c : Int} (hh : ∀ z, h z = if j0 < z ∧ z ≤ c then ls (z - 1) else ls z) (hj : j0 ≤ c) : ∀ z, zu h j0 (h (j0 - 1)) z = if j0 - 1 < z ∧ z ≤ c then ls (z - 1) else ls z := by
  intro z
  by_cases q : z = j0
  · subst q
    rw [zu_self, hh, if_neg (by omega), if_pos (by omega)]
  · rw [zu_ne _ _ q, hh]
    by_cases y : j0 < z ∧ z ≤ c
    · rw [if_pos y, if_pos (by omega)]
    · rw [if_neg y, if_neg (by omega)]
theorem zIns_old {ls : Int → Int} {c x i : Int} (h1 : 0 ≤ i) (h2 : i < c) (h3 : ls i = x) (hS : zSr ls c) : zIns ls c x ls c :=
  ⟨hS, fun v => ⟨Or.inl, fun h => h.elim id (fun e => ⟨i, h1, h2, h3.trans e.symm⟩)⟩, Or.inl rfl, fun h _ => h⟩
theorem zIns_new {ls h : Int → Int} {c x i : Int} (hi : 0 ≤ i ∧ i ≤ c) (hS : zSr ls c) (hlow : ∀ j, 0 ≤ j → j < i → ls j < x) (hup : i < c → x < ls i) (hh : ∀ z, h z = if i < z ∧ z ≤ c then ls (z - 1) else ls z) (hI : ∀ j, inI (ls j)) (hx : inI x) : zIns ls c x (zu h i x) (c + 1) := by
  have lo : ∀ z, z < i → zu h i x z = ls z := fun z hz => by rw [zu_ne _ _ (by omega), hh, if_neg (by omega)]
  have up : ∀ z, i < z → z ≤ c → zu h i x z = ls (z - 1) := fun z h1 h2 => by rw [zu_ne _ _ (by omega), hh, if_pos (by omega)]
  have big : ∀ z, i ≤ z → z < c → x < ls z := fun z h1 h2 => by
    by_cases q : z = i
    · rw [q]; exact hup (by omega)
    · have a := hup (by omega)
      have b := hS i z (by omega) (by omega) h2
      omega
  refine ⟨fun a b ha hab hb => ?_, fun v => ⟨fun ⟨k, k1, k2, k3⟩ => ?_, fun hv => ?_⟩, Or.inr rfl, fun _ _ j => ?_⟩
  · rcases Int.lt_trichotomy a i with q | q | q
    · rcases Int.lt_trichotomy b i with w | w | w
      · rw [lo a q, lo b w]; exact hS a b ha hab (by omega)
      · subst w; rw [lo a q, zu_self]; exact hlow a ha q
      · rw [lo a q, up b w (by omega)]
        have := hlow a ha q
        have := big (b - 1) (by omega) (by omega)
        omega
    · subst q
      rw [zu_self, up b hab (by omega)]
      exact big (b - 1) (by omega) (by omega)
    · rw [up a q (by omega), up b (by omega) (by omega)]
      exact hS (a - 1) (b - 1) (by omega) (by omega) (by omega)
  · rcases Int.lt_trichotomy k i with q | q | q
    · rw [lo k q] at k3; exact Or.inl ⟨k, k1, by omega, k3⟩
    · subst q; rw [zu_self] at k3; exact Or.inr k3.symm
    · rw [up k q (by omega)] at k3; exact Or.inl ⟨k - 1, by omega, by omega, k3⟩
  · rcases hv with ⟨k, k1, k2, k3⟩ | hv
    · by_cases q : k < i
      · exact ⟨k, k1, by omega, by rw [lo k q]; exact k3⟩
      · exact ⟨k + 1, by omega, by omega, by rw [up (k + 1) (by omega) (by omega), show k + 1 - 1 = k from by omega]; exact k3⟩
    · exact ⟨i, hi.1, by omega, by rw [zu_self]; exact hv.symm⟩
  · by_cases q : j = i
    · rw [q, zu_self]; exact hx
    · rw [zu_ne _ _ q, hh]; split <;> exact hI _
