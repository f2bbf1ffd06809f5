/-- the number of the corner between a place and the one before it -/
def zen (sg : Int → Int) (x : Nat) : Int := if 0 < sg ((x / 4 : Nat) : Int) then (if x % 4 = 0 then 1 else if x % 4 = 1 then 0 else if x % 4 = 2 then 1 else 2) else (if x % 4 = 0 then 2 else if x % 4 = 1 then 1 else if x % 4 = 2 then 0 else 1)
theorem zki_n (sg : Int → Int) (x : Nat) : zki sg (x : Int) = if 0 < sg ((x / 4 : Nat) : Int) then (if x % 4 = 1 ∨ x % 4 = 2 then 1 else 0) else (if x % 4 = 2 ∨ x % 4 = 3 then 1 else 0) := by
  have hq := zoq_or (sg ((x / 4 : Nat) : Int))
  show (if zoo (sg ((x : Int) / 4)) (x : Int) then (1 : Int) else 0) = _
  rw [show (x : Int) / 4 = ((x / 4 : Nat) : Int) by omega]
  by_cases s : 0 < sg ((x / 4 : Nat) : Int)
  · rw [if_pos s]
    by_cases q : x % 4 = 1 ∨ x % 4 = 2
    · rw [if_pos q, if_pos (by unfold zoo; omega)]
    · rw [if_neg q, if_neg (by unfold zoo; omega)]
  · rw [if_neg s]
    by_cases q : x % 4 = 2 ∨ x % 4 = 3
    · rw [if_pos q, if_pos (by unfold zoo; omega)]
    · rw [if_neg q, if_neg (by unfold zoo; omega)]
theorem zen_d (sg : Int → Int) (x : Nat) : zen sg (rtn x) - zen sg x = 2 * zki sg (x : Int) - 1 := by
  rw [zki_n]
  unfold zen
  rw [rtn_div, show rtn x % 4 = (x + 1) % 4 by unfold rtn; omega]
  by_cases s : 0 < sg ((x / 4 : Nat) : Int)
  · rw [if_pos s, if_pos s, if_pos s]
    rcases (show x % 4 = 0 ∨ x % 4 = 1 ∨ x % 4 = 2 ∨ x % 4 = 3 by omega) with q | q | q | q <;> rw [q, show (x + 1) % 4 = (x % 4 + 1) % 4 by omega, q] <;> decide
  · rw [if_neg s, if_neg s, if_neg s]
    rcases (show x % 4 = 0 ∨ x % 4 = 1 ∨ x % 4 = 2 ∨ x % 4 = 3 by omega) with q | q | q | q <;> rw [q, show (x + 1) % 4 = (x % 4 + 1) % 4 by omega, q] <;> decide
theorem zcr_en (sg : Int → Int) (x : Nat) : zcr4 (sg ((x : Int) / 4)) (x : Int) = if zki sg (x : Int) = 1 then zen sg x else zen sg (rtn x) := by
  have hd := zen_d sg x
  rw [zki_n] at hd ⊢
  unfold zcr4
  rw [show (x : Int) / 4 = ((x / 4 : Nat) : Int) by omega]
  have e : zen sg x = if 0 < sg ((x / 4 : Nat) : Int) then (if x % 4 = 0 then 1 else if x % 4 = 1 then 0 else if x % 4 = 2 then 1 else 2) else (if x % 4 = 0 then 2 else if x % 4 = 1 then 1 else if x % 4 = 2 then 0 else 1) := rfl
  by_cases s : 0 < sg ((x / 4 : Nat) : Int)
  · rw [if_pos s] at e
    rw [if_pos s] at hd
    rw [if_pos s, if_pos s]
    rcases (show x % 4 = 0 ∨ x % 4 = 1 ∨ x % 4 = 2 ∨ x % 4 = 3 by omega) with q | q | q | q <;> rw [q] at e hd ⊢ <;> simp at e hd ⊢ <;> omega
  · rw [if_neg s] at e
    rw [if_neg s] at hd
    rw [if_neg s, if_neg s]
    rcases (show x % 4 = 0 ∨ x % 4 = 1 ∨ x % 4 = 2 ∨ x % 4 = 3 by omega) with q | q | q | q <;> rw [q] at e hd ⊢ <;> simp at e hd ⊢ <;> omega
/-- heights -/
theorem zheight {sg lb : Int → Int} {n : Int} {r : Nat → Nat} {ph : Nat → Int} (hn : 0 ≤ n) (hG : zGd sg lb (4 * n)) (hr : ∀ x, x < 4 * n.toNat → r x < 4 * n.toNat ∧ r (r x) = x ∧ r x ≠ x ∧ lb (r x : Int) = lb (x : Int) ∧ ¬ zki sg (r x : Int) = zki sg (x : Int)) (hph : ∀ x, x < 4 * n.toNat → ph (r (rtp x)) = ph x) (hpc : ∀ x y, x < 4 * n.toNat → y < 4 * n.toNat → ph x = ph y → lbl pc_a (pc_b r) (4 * n.toNat) (x / 4) = lbl pc_a (pc_b r) (4 * n.toNat) (y / 4))
    (h2 : ∀ k : Nat, k < n.toNat → zsum (fun x => if (∀ j : Nat, j < x → ¬ ph j = ph x) ∧ lbl pc_a (pc_b r) (4 * n.toNat) (x / 4) = lbl pc_a (pc_b r) (4 * n.toNat) k then 1 else 0) (4 * n.toNat) - zsum (fun i => if lbl pc_a (pc_b r) (4 * n.toNat) i = lbl pc_a (pc_b r) (4 * n.toNat) k then 1 else 0) n.toNat = 2) : zHt sg lb n := by
  obtain ⟨fl, hfl⟩ := Classical.axiomOfChoice (r := fun (x y : Nat) => x < 4 * n.toNat → y < 4 * n.toNat ∧ ph y = ph x ∧ ∀ i, i < y → ¬ ph i = ph x) (fun x => by
    by_cases q : x < 4 * n.toNat
    · obtain ⟨y, y1, y2, y3⟩ := zleast (p := fun y => ph y = ph x) (N := 4 * n.toNat) ⟨x, q, rfl⟩
      exact ⟨y, fun _ => ⟨y1, y2, y3⟩⟩
    · exact ⟨0, fun z => absurd z q⟩)
  have hfu : ∀ x y, x < 4 * n.toNat → y < 4 * n.toNat → ph x = ph y → fl x = fl y := fun x y hx hy he => by
    obtain ⟨a1, a2, a3⟩ := hfl x hx
    obtain ⟨b1, b2, b3⟩ := hfl y hy
    rcases Nat.lt_trichotomy (fl x) (fl y) with w | w | w
    · exact absurd (a2.trans he) (b3 _ w)
    · exact w
    · exact absurd (b2.trans he.symm) (a3 _ w)
  have hff : ∀ x, x < 4 * n.toNat → (fl x = x ↔ ∀ j : Nat, j < x → ¬ ph j = ph x) := fun x hx => by
    obtain ⟨a1, a2, a3⟩ := hfl x hx
    constructor
    · intro h j hj; exact a3 j (by omega)
    · intro h
      rcases Nat.lt_trichotomy (fl x) x with w | w | w
      · exact absurd a2 (h _ w)
      · exact w
      · exact absurd rfl (a3 x w)
  have hmap : mapOk n.toNat r fl := by
    refine ⟨fun x hx => ⟨(hr x hx).1, (hr x hx).2.1, (hr x hx).2.2.1⟩, fun x hx => ?_⟩
    have t := (hr _ (rtp_lt hx)).1
    exact ⟨(hfl x hx).1, hfu _ _ (hfl x hx).1 hx (hfl x hx).2.1, hfu _ _ t hx (hph x hx)⟩
  let pl : Nat → Nat := lbl pc_a (pc_b r) (4 * n.toNat)
  have hid : ∀ v, pl (pl v) = pl v := fun v => lbl_idem _ _ _ v
  have hlt : ∀ v, v < n.toNat → pl v < n.toNat := fun v hv => lbl_lt _ (fun j hj => by show j / 4 < n.toNat; omega) v hv
  -- faces, crossings and pieces
  have hE : zsum (fun x => if fl x = x then 1 else 0) (4 * n.toNat) = ((n.toNat : Nat) : Int) + 2 * lfix pc_a (pc_b r) n.toNat (4 * n.toNat) := by
    have e1 : zsum (fun x => if fl x = x then (1 : Int) else 0) (4 * n.toNat) = zsum (fun x => zsum (fun v => if pl v = v then (if (∀ j : Nat, j < x → ¬ ph j = ph x) ∧ pl (x / 4) = v then 1 else 0) else 0) n.toNat) (4 * n.toNat) := zsum_congr fun x hx => by
      rw [zsum_congr (g := fun v => if v = pl (x / 4) then (if fl x = x then 1 else 0) else 0) (fun v hv => by
        by_cases q : v = pl (x / 4)
        · rw [if_pos q, if_pos (by rw [q]; exact hid _)]
          by_cases q2 : fl x = x
          · rw [if_pos q2, if_pos ⟨(hff x hx).mp q2, q.symm⟩]
          · rw [if_neg q2, if_neg (fun z => q2 ((hff x hx).mpr z.1))]
        · rw [if_neg q]
          split
          · rw [if_neg (fun z => q z.2.symm)]
          · rfl), zsum_pick _ (hlt _ (by omega))]
    rw [e1, zsum_swap]
    have e2 : ∀ v, v < n.toNat → zsum (fun x => if pl v = v then (if (∀ j : Nat, j < x → ¬ ph j = ph x) ∧ pl (x / 4) = v then (1 : Int) else 0) else 0) (4 * n.toNat) = (if pl v = v then zsum (fun i => if pl i = v then 1 else 0) n.toNat else 0) + 2 * (if pl v = v then 1 else 0) := fun v hv => by
      by_cases q : pl v = v
      · rw [if_pos q, if_pos q]
        have e := h2 v hv
        have e3 : zsum (fun x => if pl v = v then (if (∀ j : Nat, j < x → ¬ ph j = ph x) ∧ pl (x / 4) = v then (1 : Int) else 0) else 0) (4 * n.toNat) = zsum (fun x => if (∀ j : Nat, j < x → ¬ ph j = ph x) ∧ pl (x / 4) = pl v then 1 else 0) (4 * n.toNat) := zsum_congr fun x _ => by rw [if_pos q, q]
        have e4 : zsum (fun i => if pl i = v then (1 : Int) else 0) n.toNat = zsum (fun i => if pl i = pl v then 1 else 0) n.toNat := zsum_congr fun i _ => by rw [q]
        have e5 : zsum (fun x => if (∀ j : Nat, j < x → ¬ ph j = ph x) ∧ pl (x / 4) = pl v then (1 : Int) else 0) (4 * n.toNat) - zsum (fun i => if pl i = pl v then (1 : Int) else 0) n.toNat = 2 := e
        rw [e3, e4]
        omega
      · rw [if_neg q, if_neg q, zsum_zero (fun x _ => if_neg q)]; rfl
    rw [zsum_congr (fun v hv => e2 v hv), zsum_add, zsum_mul]
    have e6 : zsum (fun v => if pl v = v then zsum (fun i => if pl i = v then (1 : Int) else 0) n.toNat else 0) n.toNat = ((n.toNat : Nat) : Int) := by
      rw [zsum_congr (g := fun v => zsum (fun i => if pl v = v ∧ pl i = v then (1 : Int) else 0) n.toNat) (fun v _ => by
        by_cases q : pl v = v
        · rw [if_pos q]
          exact zsum_congr fun i _ => by
            by_cases k : pl i = v
            · rw [if_pos k, if_pos ⟨q, k⟩]
            · rw [if_neg k, if_neg (fun z => k z.2)]
        · rw [if_neg q, zsum_zero (fun i _ => if_neg (fun z => q z.1))]), zsum_swap, ← zone n.toNat]
      refine zsum_congr fun i hi => ?_
      rw [zsum_congr (g := fun v => if v = pl i then 1 else 0) (fun v _ => by
        by_cases k : v = pl i
        · rw [if_pos k, if_pos ⟨by rw [k]; exact hid i, k.symm⟩]
        · rw [if_neg k, if_neg (fun z => k z.2.symm)]), zsum_pick _ (hlt i hi)]
    rw [e6]
    rfl
  obtain ⟨g, hg⟩ := mp_height hmap hE (w := fun x => zen sg x - zen sg (rtn (r x))) (fun x hx => by
    have d1 := zen_d sg x
    have d2 := zen_d sg (r x)
    have k1 := zki_or sg (x : Int)
    have k2 := zki_or sg (r x : Int)
    have e := (hr x hx).2.2.2.2
    show zen sg (r x) - zen sg (rtn (r (r x))) = -(zen sg x - zen sg (rtn (r x)))
    rw [(hr x hx).2.1]
    omega) (fun f hf => by
    have hp := zsum_perm (n := 4 * n.toNat) (u := fun x => rtn (r x)) (v := fun y => r (rtp y)) (fun x hx => rtn_lt (hr x hx).1) (fun y hy => (hr _ (rtp_lt hy)).1) (fun x hx => by show r (rtp (rtn (r x))) = x; rw [rtp_rtn]; exact (hr x hx).2.1) (fun y hy => by show rtn (r (r (rtp y))) = y; rw [(hr _ (rtp_lt hy)).2.1, rtn_rtp]) (fun y => if fl (r (rtp y)) = f then zen sg y else 0)
    have e1 : zsum (fun x => if fl x = f then zen sg x - zen sg (rtn (r x)) else 0) (4 * n.toNat) = zsum (fun x => if fl x = f then zen sg x else 0) (4 * n.toNat) - zsum (fun x => if fl (r (rtp (rtn (r x)))) = f then zen sg (rtn (r x)) else 0) (4 * n.toNat) := by
      rw [← zsum_sub]
      refine zsum_congr fun x hx => ?_
      rw [rtp_rtn, (hr x hx).2.1]
      split <;> omega
    have e2 : zsum (fun y => if fl (r (rtp y)) = f then zen sg y else 0) (4 * n.toNat) = zsum (fun x => if fl x = f then zen sg x else 0) (4 * n.toNat) := zsum_congr fun y hy => by rw [hfu _ _ (hr _ (rtp_lt hy)).1 hy (hph y hy)]
    have hp2 : zsum (fun x => if fl (r (rtp (rtn (r x)))) = f then zen sg (rtn (r x)) else 0) (4 * n.toNat) = zsum (fun y => if fl (r (rtp y)) = f then zen sg y else 0) (4 * n.toNat) := hp
    rw [e1, hp2, e2]
    omega)
  refine ⟨fun k => g k.toNat, fun x y x1 x2 y1 y2 he => ?_⟩
  obtain ⟨a, rfl⟩ := Int.eq_ofNat_of_zero_le x1
  obtain ⟨b, rfl⟩ := Int.eq_ofNat_of_zero_le y1
  show g ((a : Int) / 4).toNat + zcr4 (sg ((a : Int) / 4)) (a : Int) = g ((b : Int) / 4).toNat + zcr4 (sg ((b : Int) / 4)) (b : Int)
  rw [show ((a : Int) / 4).toNat = a / 4 by omega, show ((b : Int) / 4).toNat = b / 4 by omega, zcr_en, zcr_en]
  by_cases q : a = b
  · rw [q]
  · have ha : a < 4 * n.toNat := by omega
    have hb : b < 4 * n.toNat := by omega
    have hk : ¬ zki sg (a : Int) = zki sg (b : Int) := fun z => q (by have := hG.2 (a : Int) (b : Int) x1 x2 y1 y2 he z; omega)
    have ra := hr a ha
    have hab : r a = b := by
      have k1 := zki_or sg (a : Int)
      have k2 := zki_or sg (b : Int)
      have k3 := zki_or sg (r a : Int)
      have := hG.2 ((r a : Nat) : Int) (b : Int) (by omega) (by have := ra.1; omega) y1 y2 (ra.2.2.2.1.trans he) (by have := ra.2.2.2.2; omega)
      omega
    have w1 := hg a ha
    have w1 : g (r a / 4) - g (a / 4) = zen sg a - zen sg (rtn (r a)) := w1
    have w2 : g (r b / 4) - g (b / 4) = zen sg b - zen sg (rtn (r b)) := hg b hb
    rw [← hab, ra.2.1, hab] at w2
    rw [hab] at w1
    have k1 := zki_or sg (a : Int)
    have k2 := zki_or sg (b : Int)
    rcases k1 with k1 | k1
    · rw [if_neg (by omega), if_pos (by omega)]; omega
    · rw [if_pos k1, if_neg (by omega)]; omega
