abbrev zcn (on tw : Int → Int) (ar : Nat) (wo : Int) (k : Nat) (s : Int) (b : Nat) (e : Int) : Int := zsn (s - 2 ^ b) b * (on (32 * k + b) * zDD on tw ar wo k (s - 2 ^ b) e + tw (32 * k + b) * (if 0 < e then zDD on tw ar wo k (s - 2 ^ b) (e - 1) else 0))
/-- the sums of the rows below k stand -/
def zSR (on tw : Int → Int) (ar : Nat) (wo : Int) (k : Nat) (sm : Int → Int) : Prop := ∀ s, 0 ≤ s → s < 2 ^ ar → ∀ e, 0 ≤ e → e < 14 → (zbc s 13 = zdn wo k → sm (14 * s + e) = zDD on tw ar wo k s e) ∧ (zdn wo k < zbc s 13 → sm (14 * s + e) = 0)
/-- row k has been carried for the sets before se, and for se in the columns before a -/
def zSU (on tw : Int → Int) (ar : Nat) (wo : Int) (k : Nat) (se a : Int) (sm : Int → Int) : Prop := ∀ s, 0 ≤ s → s < 2 ^ ar → ∀ e, 0 ≤ e → e < 14 → (zbc s 13 = zdn wo k → sm (14 * s + e) = zDD on tw ar wo k s e) ∧ (zbc s 13 = zdn wo k + 1 → sm (14 * s + e) = zsum (fun b => if s / 2 ^ b % 2 = 1 ∧ (s - 2 ^ b < se ∨ (s - 2 ^ b = se ∧ (b : Int) < a)) then zcn on tw ar wo k s b e else 0) ar) ∧ (zdn wo k + 1 < zbc s 13 → sm (14 * s + e) = 0)
theorem zbc_0 : zbc 0 13 = 0 := by decide
theorem zSR_0 {on tw sm : Int → Int} {ar : Nat} {wo : Int} (h : ∀ z, 0 ≤ z → z < 14 * 2 ^ ar → sm z = if z = 0 then 1 else 0) : zSR on tw ar wo 0 sm := fun s s1 s2 e e1 e2 => by
  rw [h (14 * s + e) (by omega) (by omega)]
  refine ⟨fun _ => ?_, fun hz => ?_⟩
  · show _ = if s = 0 ∧ e = 0 then (1 : Int) else 0
    by_cases q : s = 0 ∧ e = 0
    · rw [if_pos q, if_pos (by omega)]
    · rw [if_neg q, if_neg (by omega)]
  · have hz : 0 < zbc s 13 := hz
    have : s ≠ 0 := fun q => by rw [q, zbc_0] at hz; omega
    rw [if_neg (by omega)]
theorem zSR_wo {on tw sm : Int → Int} {ar : Nat} {wo : Int} {k : Nat} (h : zSR on tw ar wo k sm) (hw : (k : Int) = wo) : zSR on tw ar wo (k + 1) sm := fun s s1 s2 e e1 e2 => by
  have e3 : zdn wo (k + 1) = zdn wo k := if_pos hw
  have e4 : zDD on tw ar wo (k + 1) s e = zDD on tw ar wo k s e := if_pos hw
  rw [e3, e4]; exact h s s1 s2 e e1 e2
theorem zSU_0 {on tw sm : Int → Int} {ar : Nat} {wo : Int} {k : Nat} (h : zSR on tw ar wo k sm) : zSU on tw ar wo k 0 0 sm := fun s s1 s2 e e1 e2 => by
  have h1 := h s s1 s2 e e1 e2
  refine ⟨h1.1, fun hz => ?_, fun hz => h1.2 (by omega)⟩
  rw [h1.2 (by omega), zsum_zero]
  intro b _
  by_cases q : s / 2 ^ b % 2 = 1
  · have := zbit_sub s1 q
    rw [if_neg (by omega)]
  · rw [if_neg (fun z => q z.1)]
theorem zSU_skip {on tw sm : Int → Int} {ar : Nat} {wo : Int} {k : Nat} {se a : Int} (h : zSU on tw ar wo k se a sm) (ha : 0 ≤ a) (hn : se / 2 ^ a.toNat % 2 = 1 ∨ (on (32 * k + a) = 0 ∧ tw (32 * k + a) = 0)) : zSU on tw ar wo k se (a + 1) sm := fun s s1 s2 e e1 e2 => by
  have h1 := h s s1 s2 e e1 e2
  refine ⟨h1.1, fun hz => ?_, h1.2.2⟩
  rw [h1.2.1 hz]
  refine zsum_congr fun b _ => ?_
  by_cases q : s - 2 ^ b = se ∧ (b : Int) = a
  · have eb : a.toNat = b := by omega
    rw [eb] at hn
    by_cases q2 : s / 2 ^ b % 2 = 1
    · rcases hn with hn | hn
      · have := zbit_flip hn
        rw [← q.1, show s - 2 ^ b + 2 ^ b = s by omega] at this
        omega
      · rw [← q.2] at hn
        have ez : zcn on tw ar wo k s b e = 0 := by
          show zsn (s - 2 ^ b) b * (on (32 * k + b) * zDD on tw ar wo k (s - 2 ^ b) e + tw (32 * k + b) * (if 0 < e then zDD on tw ar wo k (s - 2 ^ b) (e - 1) else 0)) = 0
          rw [hn.1, hn.2, Int.zero_mul, Int.zero_mul, Int.add_zero, Int.mul_zero]
        rw [ez]
        split <;> split <;> rfl
    · rw [if_neg (fun z => q2 z.1), if_neg (fun z => q2 z.1)]
  · by_cases q2 : s / 2 ^ b % 2 = 1 ∧ (s - 2 ^ b < se ∨ (s - 2 ^ b = se ∧ (b : Int) < a))
    · rw [if_pos q2, if_pos (by omega)]
    · rw [if_neg q2, if_neg (by omega)]
theorem zSU_carry {on tw sm : Int → Int} {ar : Nat} {wo : Int} {k : Nat} {se a : Int} (h : zSU on tw ar wo k se a sm) (hse : 0 ≤ se ∧ se < 2 ^ ar) (ha : 0 ≤ a ∧ a < ar) (har : ar ≤ 13) (hb : se / 2 ^ a.toNat % 2 = 0) (hd : zbc se 13 = zdn wo k) : zSU on tw ar wo k se (a + 1) (zcar sm (se + 2 ^ a.toNat) se (zsn se a.toNat * on (32 * k + a)) (zsn se a.toNat * tw (32 * k + a)) 14) := fun s s1 s2 e e1 e2 => by
  have h1 := h s s1 s2 e e1 e2
  have hT := zbc_add hse.1 hb (show a.toNat < 13 by omega)
  have hlt := zlt_add hse.1 hse.2 hb (show a.toNat < ar by omega)
  have hp := zpw a.toNat
  by_cases q : s = se + 2 ^ a.toNat
  · -- the set that is carried to
    have hv : zcar sm (se + 2 ^ a.toNat) se (zsn se a.toNat * on (32 * k + a)) (zsn se a.toNat * tw (32 * k + a)) 14 (14 * s + e) = sm (14 * s + e) + zsn se a.toNat * on (32 * k + a) * sm (14 * se + e) + (if 0 < e then zsn se a.toNat * tw (32 * k + a) * sm (14 * se + e - 1) else 0) := by
      unfold zcar
      rw [if_pos (show 14 * (se + 2 ^ a.toNat) ≤ 14 * s + e ∧ 14 * s + e < 14 * (se + 2 ^ a.toNat) + 14 by omega), show 14 * s + e - 14 * (se + 2 ^ a.toNat) = e by omega]
    refine ⟨fun hz => by rw [q] at hz; omega, fun hz => ?_, fun hz => by rw [q] at hz; omega⟩
    have g1 := (h se hse.1 hse.2 e e1 e2).1 hd
    have ec : zsn se a.toNat * on (32 * k + a) * sm (14 * se + e) + (if 0 < e then zsn se a.toNat * tw (32 * k + a) * sm (14 * se + e - 1) else 0) = zcn on tw ar wo k s a.toNat e := by
      show _ = zsn (s - 2 ^ a.toNat) a.toNat * (on (32 * k + (a.toNat : Int)) * zDD on tw ar wo k (s - 2 ^ a.toNat) e + tw (32 * k + (a.toNat : Int)) * (if 0 < e then zDD on tw ar wo k (s - 2 ^ a.toNat) (e - 1) else 0))
      rw [show s - 2 ^ a.toNat = se by omega, show ((a.toNat : Nat) : Int) = a by omega, g1, Int.mul_add]
      by_cases q2 : 0 < e
      · have g2 := (h se hse.1 hse.2 (e - 1) (by omega) (by omega)).1 hd
        rw [if_pos q2, if_pos q2, show 14 * se + e - 1 = 14 * se + (e - 1) by omega, g2, Int.mul_assoc, Int.mul_assoc]
      · rw [if_neg q2, if_neg q2, Int.mul_assoc, Int.mul_zero, Int.mul_zero]
    rw [hv, h1.2.1 hz, Int.add_assoc, ec]
    have hbs : s / 2 ^ a.toNat % 2 = 1 := by
      have := zbit_add (b := a.toNat) hse.1 hb
      rw [if_pos rfl, ← q] at this
      omega
    rw [← zsum_at (fun b => zcn on tw ar wo k s b e) (show a.toNat < ar by omega), ← zsum_add]
    refine zsum_congr fun b _ => ?_
    by_cases q3 : b = a.toNat
    · subst q3
      rw [if_neg (by omega), if_pos rfl, if_pos ⟨hbs, by omega⟩]
      omega
    · have hne : ¬ s - 2 ^ b = se := fun z => q3 (zpow_inj (by omega))
      rw [if_neg q3, Int.add_zero]
      by_cases q2 : s / 2 ^ b % 2 = 1 ∧ (s - 2 ^ b < se ∨ (s - 2 ^ b = se ∧ (b : Int) < a))
      · rw [if_pos q2, if_pos (by omega)]
      · rw [if_neg q2, if_neg (by omega)]
  · have hv : zcar sm (se + 2 ^ a.toNat) se (zsn se a.toNat * on (32 * k + a)) (zsn se a.toNat * tw (32 * k + a)) 14 (14 * s + e) = sm (14 * s + e) := if_neg (by omega)
    rw [hv]
    refine ⟨h1.1, fun hz => ?_, h1.2.2⟩
    rw [h1.2.1 hz]
    refine zsum_congr fun b _ => ?_
    have hne : ¬ (s - 2 ^ b = se ∧ (b : Int) = a) := fun z => q (by rw [show a.toNat = b by omega]; omega)
    by_cases q2 : s / 2 ^ b % 2 = 1 ∧ (s - 2 ^ b < se ∨ (s - 2 ^ b = se ∧ (b : Int) < a))
    · rw [if_pos q2, if_pos (by omega)]
    · rw [if_neg q2, if_neg (by omega)]
theorem zSU_next {on tw sm : Int → Int} {ar : Nat} {wo : Int} {k : Nat} {se a : Int} (h : zSU on tw ar wo k se a sm) (har : ar ≤ 13) (hn : (ar : Int) ≤ a ∨ ¬ zbc se 13 = zdn wo k) : zSU on tw ar wo k (se + 1) 0 sm := fun s s1 s2 e e1 e2 => by
  have h1 := h s s1 s2 e e1 e2
  refine ⟨h1.1, fun hz => ?_, h1.2.2⟩
  rw [h1.2.1 hz]
  refine zsum_congr fun b hb => ?_
  have key : s / 2 ^ b % 2 = 1 → s - 2 ^ b = se → (b : Int) < a := fun q1 q2 => by
    rcases hn with hn | hn
    · omega
    · have hs := zbit_sub s1 q1
      have := zbc_add hs.1 hs.2 (show b < 13 by omega)
      rw [show s - 2 ^ b + 2 ^ b = s by omega, q2] at this
      omega
  by_cases q2 : s / 2 ^ b % 2 = 1 ∧ (s - 2 ^ b < se ∨ (s - 2 ^ b = se ∧ (b : Int) < a))
  · rw [if_pos q2, if_pos (by omega)]
  · rw [if_neg q2, if_neg]
    rintro ⟨z1, z2⟩
    have := key z1
    omega
theorem zSU_end {on tw sm : Int → Int} {ar : Nat} {wo : Int} {k : Nat} {se : Int} (h : zSU on tw ar wo k se 0 sm) (hse : 2 ^ ar ≤ se) (hw : ¬ (k : Int) = wo) : zSR on tw ar wo (k + 1) sm := fun s s1 s2 e e1 e2 => by
  have h1 := h s s1 s2 e e1 e2
  have e3 : zdn wo (k + 1) = zdn wo k + 1 := if_neg hw
  have e4 : zDD on tw ar wo (k + 1) s e = zsum (fun a => if s / 2 ^ a % 2 = 1 then zcn on tw ar wo k s a e else 0) ar := if_neg hw
  rw [e3, e4]
  refine ⟨fun hz => ?_, h1.2.2⟩
  rw [h1.2.1 hz]
  refine zsum_congr fun b hb => ?_
  have hp := zpw b
  by_cases q : s / 2 ^ b % 2 = 1
  · rw [if_pos q, if_pos ⟨q, Or.inl (by omega)⟩]
  · rw [if_neg q, if_neg (fun z => q z.1)]
