/-- one partner: the label stands twice -/
theorem zPo_ct {lb : Int → Int} {P x : Int} (hx : 0 ≤ x ∧ x < P) : (∃ y, zPo lb P x y) ↔ zct lb (lb x) P.toNat = 2 := by
  constructor
  · rintro ⟨y, y1, y2, y3, y4, y5⟩
    unfold zct
    rw [zsum_congr (g := fun i => (if i = x.toNat then 1 else 0) + if i = y.toNat then 1 else 0) (fun i hi => by
      by_cases q : i = x.toNat
      · have e : (i : Int) = x := by omega
        rw [if_pos q, if_neg (show ¬ i = y.toNat by omega), e, if_pos rfl]; rfl
      · rw [if_neg q]
        by_cases q2 : i = y.toNat
        · have e : (i : Int) = y := by omega
          rw [if_pos q2, e, if_pos y4]; rfl
        · rw [if_neg q2, if_neg (fun z => by have := y5 (i : Int) (by omega) (by omega) (by omega) z; omega)]; rfl), zsum_add, zsum_pick _ (by omega), zsum_pick _ (by omega)]
    rfl
  · intro h
    have hy : ∃ y, 0 ≤ y ∧ y < P ∧ y ≠ x ∧ lb y = lb x := Classical.byContradiction fun z => by
      unfold zct at h
      rw [zsum_congr (g := fun i => if i = x.toNat then 1 else 0) (fun i hi => by
        by_cases q : i = x.toNat
        · have e : (i : Int) = x := by omega
          rw [if_pos q, e, if_pos rfl]
        · rw [if_neg q, if_neg (fun w => z ⟨(i : Int), by omega, by omega, by omega, w⟩)]), zsum_pick _ (by omega)] at h
      omega
    obtain ⟨y, y1, y2, y3, y4⟩ := hy
    refine ⟨y, y1, y2, y3, y4, fun z z1 z2 z3 z4 => Classical.byContradiction fun w => ?_⟩
    have := zct3 (g := lb) (v := lb x) (n := P.toNat) (a := x.toNat) (b := y.toNat) (c := z.toNat) (by omega) (by omega) (by omega) (by omega) (by omega) (by omega) (by rw [show ((x.toNat : Nat) : Int) = x by omega]) (by rw [show ((y.toNat : Nat) : Int) = y by omega]; exact y4) (by rw [show ((z.toNat : Nat) : Int) = z by omega]; exact z4)
    omega
theorem zct_cg {g g' : Int → Int} {v : Int} {n : Nat} (h : ∀ i : Int, 0 ≤ i → i < n → g i = g' i) : zct g v n = zct g' v n := zsum_congr fun i hi => by rw [h i (by omega) (by omega)]
theorem zki_cg {sg sg' : Int → Int} {n x : Int} (h : ∀ k, 0 ≤ k → k < n → sg k = sg' k) (hx : 0 ≤ x ∧ x < 4 * n) : zki sg x = zki sg' x := by
  show (if zoo (sg (x / 4)) x then (1 : Int) else 0) = if zoo (sg' (x / 4)) x then 1 else 0
  rw [h (x / 4) (by omega) (by omega)]
/-- in or out, as the class tells it -/
theorem zgi_ki {sg : Int → Int} {n x : Int} (hs : ∀ k, 0 ≤ k → k < n → sg k = 1 ∨ sg k = -1) (hx : 0 ≤ x ∧ x < 4 * n) : (if zgi (sg (x / 4)) x then (1 : Int) else 0) = 1 - zki sg x := by
  have hq := zoq_or (sg (x / 4))
  show _ = 1 - if zoo (sg (x / 4)) x then (1 : Int) else 0
  rcases hs (x / 4) (by omega) (by omega) with s | s
  · rw [s] at hq ⊢
    by_cases k : zoo 1 x
    · rw [if_pos k, if_neg (by unfold zoo at k; unfold zgi zup; simp; omega)]; rfl
    · rw [if_neg k, if_pos (by unfold zoo at k; unfold zgi zup; simp; omega)]; rfl
  · rw [s] at hq ⊢
    by_cases k : zoo (-1) x
    · rw [if_pos k, if_neg (by unfold zoo at k; unfold zgi zup; simp; omega)]; rfl
    · rw [if_neg k, if_pos (by unfold zoo at k; unfold zgi zup; simp; omega)]; rfl
theorem zGl_pr {sg lb sg' lb' : Int → Int} {n : Int} (hl : ∀ x, 0 ≤ x → x < 4 * n → lb' x = lb x) : zGl sg' lb' (4 * n) 0 ↔ ∀ x, 0 ≤ x → x < 4 * n → ∃ y, zPo lb (4 * n) x y := by
  have hc : ∀ x, 0 ≤ x → x < 4 * n → zct lb' (lb' x) (4 * n).toNat = zct lb (lb x) (4 * n).toNat := fun x h1 h2 => by rw [hl x h1 h2]; exact zct_cg fun i i1 i2 => hl i i1 (by omega)
  constructor
  · intro h x h1 h2
    rw [zPo_ct ⟨h1, h2⟩, ← hc x h1 h2]
    exact (h x h1 h2).1 rfl
  · intro h x h1 h2
    refine ⟨fun _ => ?_, fun z => absurd z (by decide)⟩
    rw [hc x h1 h2, ← zPo_ct ⟨h1, h2⟩]
    exact h x h1 h2
theorem zGl_ed {sg lb sg' lb' pf : Int → Int} {n : Int} (hl : ∀ x, 0 ≤ x → x < 4 * n → lb' x = lb x) (hg : ∀ k, 0 ≤ k → k < n → sg' k = sg k) (hs : ∀ k, 0 ≤ k → k < n → sg k = 1 ∨ sg k = -1) (hp : zPr lb (4 * n) pf) : zGl sg' lb' (4 * n) 1 ↔ zEd sg (4 * n) pf := by
  have hk : ∀ x, 0 ≤ x → x < 4 * n → zki sg' x = zki sg x := fun x h1 h2 => zki_cg hg ⟨h1, h2⟩
  have hE : ∀ x, 0 ≤ x → x < 4 * n → ((¬ ((if zgi (sg (x / 4)) x then (1 : Int) else 0) = if zgi (sg (pf x / 4)) (pf x) then 1 else 0)) ↔ ¬ zki sg x = zki sg (pf x)) := fun x h1 h2 => by
    have hpx := hp x h1 h2
    rw [zgi_ki hs ⟨h1, h2⟩, zgi_ki hs ⟨hpx.1, hpx.2.1⟩]
    omega
  constructor
  · intro h x h1 h2
    rw [hE x h1 h2]
    intro q
    have hpx := hp x h1 h2
    obtain ⟨⟨z, z1, z2, z3, z4⟩, w, w1, w2, w3, w4⟩ := (h x h1 h2).2 rfl
    rw [hl z z1 z2, hl x h1 h2] at z3
    rw [hl w w1 w2, hl x h1 h2] at w3
    rw [hk z z1 z2] at z4
    rw [hk w w1 w2] at w4
    have a : ∀ y, 0 ≤ y → y < 4 * n → lb y = lb x → zki sg y = zki sg x := fun y y1 y2 y3 => by
      by_cases e : y = x
      · rw [e]
      · rw [hpx.2.2.2.2 y y1 y2 e y3]; exact q.symm
    have := a z z1 z2 z3
    have := a w w1 w2 w3
    omega
  · intro h x h1 h2
    refine ⟨fun z => absurd z (by decide), fun _ => ?_⟩
    have hpx := hp x h1 h2
    have e := (hE x h1 h2).mp (h x h1 h2)
    have k1 := zki_or sg x
    have k2 := zki_or sg (pf x)
    rcases k1 with k1 | k1
    · exact ⟨⟨pf x, hpx.1, hpx.2.1, by rw [hl _ hpx.1 hpx.2.1, hl x h1 h2]; exact hpx.2.2.2.1, by show zki sg' (pf x) = 1; rw [hk _ hpx.1 hpx.2.1]; omega⟩, x, h1, h2, rfl, by show zki sg' x = 0; rw [hk x h1 h2]; exact k1⟩
    · exact ⟨⟨x, h1, h2, rfl, by show zki sg' x = 1; rw [hk x h1 h2]; exact k1⟩, pf x, hpx.1, hpx.2.1, by rw [hl _ hpx.1 hpx.2.1, hl x h1 h2]; exact hpx.2.2.2.1, by show zki sg' (pf x) = 0; rw [hk _ hpx.1 hpx.2.1]; omega⟩
