def zcr4 (s x : Int) : Int := if 0 < s then (if x % 4 = 0 ∨ x % 4 = 1 then 0 else 1) else (if x % 4 = 1 ∨ x % 4 = 2 then 0 else 1)
/-- the heights: the number of the face to the right of each strand, told by the crossings' -/
def zHt (sg lb : Int → Int) (n : Int) : Prop := ∃ h : Int → Int, ∀ x y, 0 ≤ x → x < 4 * n → 0 ≤ y → y < 4 * n → lb x = lb y → h (x / 4) + zcr4 (sg (x / 4)) x = h (y / 4) + zcr4 (sg (y / 4)) y
theorem zHt_up {sg lb : Int → Int} {n k : Int} (h : zHt sg lb n) (hk : 0 ≤ k ∧ k < n) : ¬ lb (4 * k + 1) = lb (4 * k + 3) ∧ ¬ lb (4 * k) = lb (4 * k + 2) := by
  obtain ⟨h, hh⟩ := h
  refine ⟨fun q => ?_, fun q => ?_⟩
  · have e := hh (4 * k + 1) (4 * k + 3) (by omega) (by omega) (by omega) (by omega) q
    rw [show (4 * k + 1) / 4 = k by omega, show (4 * k + 3) / 4 = k by omega] at e
    unfold zcr4 at e
    rw [show (4 * k + 1) % 4 = 1 by omega, show (4 * k + 3) % 4 = 3 by omega] at e
    by_cases s : 0 < sg k
    · rw [if_pos s, if_pos s, if_pos (by decide), if_neg (by decide)] at e; omega
    · rw [if_neg s, if_neg s, if_pos (by decide), if_neg (by decide)] at e; omega
  · have e := hh (4 * k) (4 * k + 2) (by omega) (by omega) (by omega) (by omega) q
    rw [show (4 * k) / 4 = k by omega, show (4 * k + 2) / 4 = k by omega] at e
    unfold zcr4 at e
    rw [show (4 * k) % 4 = 0 by omega, show (4 * k + 2) % 4 = 2 by omega] at e
    by_cases s : 0 < sg k
    · rw [if_pos s, if_pos s, if_pos (by decide), if_neg (by decide)] at e; omega
    · rw [if_neg s, if_neg s, if_neg (by decide), if_pos (by decide)] at e; omega
/-- every label's arc has a least label -/
def zAx (lb : Int → Int) (P : Int) : Prop := ∀ x, 0 ≤ x → x < P → ∃ m, zAo lb P (lb x) m
theorem zAo_ov {lb : Int → Int} {P x m : Int} (h : zAo lb P (lb (zac x)) m) (hx : 0 ≤ x ∧ x < P) (ho : x % 2 = 1) : zAo lb P (lb x) m := by
  obtain ⟨a1, a2, V, v1, v2, v3⟩ := h
  exact ⟨a1, fun L hL => (a2 L hL).trans (hL x hx.1 hx.2 ho), V, v1, (v1 x hx.1 hx.2 ho).symm.trans v2, v3⟩
theorem zAx_N {lb al N : Int → Int} {n : Int} (h : ∀ x, 0 ≤ x → x < 4 * n → x % 4 ≠ 3 → zNx lb (4 * n) al x (N x)) : zAx lb (4 * n) := fun x h1 h2 => by
  by_cases q : x % 4 = 3
  · obtain ⟨_, m, hm, _⟩ := h (x - 2) (by omega) (by omega) (by omega)
    refine ⟨m, zAo_ov ?_ ⟨h1, h2⟩ (by omega)⟩
    rw [show zac x = x - 2 by unfold zac; omega]; exact hm
  · obtain ⟨_, m, hm, _⟩ := h x h1 h2 q
    exact ⟨m, hm⟩
theorem zone (n : Nat) : zsum (fun _ => 1) n = n := by
  induction n with
  | zero => rfl
  | succ n ih => show zsum (fun _ => 1) n + 1 = _; rw [ih]; omega
/-- a row of all labels -/
theorem zLs_ex {lb : Int → Int} (hi : ∀ j, inI (lb j)) : ∀ P : Nat, ∃ f c, zLs lb P f c
  | 0 => ⟨fun _ => 0, 0, zLs_0 (fun _ => zi0)⟩
  | P + 1 => by
    obtain ⟨f, c, h⟩ := zLs_ex hi P
    rw [show ((P + 1 : Nat) : Int) = (P : Int) + 1 by omega]
    by_cases q : ∃ z, 0 ≤ z ∧ z < c ∧ f z = lb P
    · exact ⟨f, c, zLs_old h (by omega) q⟩
    · have hn : ∀ z, 0 ≤ z → z < c → ¬ f z = lb P := fun z h1 h2 h3 => q ⟨z, h1, h2, h3⟩
      -- where it goes
      have hj : ∀ m : Nat, (m : Int) ≤ c → ∃ j : Int, (0 ≤ j ∧ j ≤ m) ∧ (j = 0 ∨ f (j - 1) ≤ lb P) ∧ ∀ z : Int, j ≤ z → z < m → lb P < f z := by
        intro m
        induction m with
        | zero => intro _; exact ⟨0, ⟨by omega, by omega⟩, Or.inl rfl, fun z h1 h2 => by omega⟩
        | succ m ih =>
          intro hm
          obtain ⟨j, j1, j2, j3⟩ := ih (by omega)
          by_cases k : f m ≤ lb P
          · exact ⟨m + 1, ⟨by omega, by omega⟩, Or.inr (by rw [show (m : Int) + 1 - 1 = m by omega]; exact k), fun z h1 h2 => by omega⟩
          · by_cases k2 : j = m ∧ ¬ j = 0
            · exact ⟨j, ⟨j1.1, by omega⟩, j2, fun z h1 h2 => by rw [show z = m by omega]; omega⟩
            · exact ⟨j, ⟨j1.1, by omega⟩, j2, fun z h1 h2 => by by_cases e : z = m; rw [e]; omega; exact j3 z h1 (by omega)⟩
      have hc0 := h.2.2.1
      obtain ⟨j, j1, j2, j3⟩ := hj c.toNat (by omega)
      exact ⟨_, c + 1, zLs_new h (by omega) ⟨j1.1, by omega⟩ hn j2 (fun z h1 h2 => j3 z h1 (by omega)) (h := fun z => if j < z ∧ z ≤ c then f (z - 1) else f z) (fun z => rfl) (hi _)⟩
theorem zLs_2n {sg lb f : Int → Int} {n c : Int} (hn : 0 ≤ n) (hG : zGd sg lb (4 * n)) (hL : zLs lb (4 * n) f c) : c = 2 * n := by
  obtain ⟨ix, dv, ta, hI⟩ := zIx_ex (by omega) hL hG
  have h0 := hL.2.2.1
  have h1 := zsum_inj (N := (2 * c).toNat) (n := (4 * n).toNat) (f := fun _ => 1) (q := fun _ => 1) (g := fun i => (dv (i : Int)).toNat) (fun _ _ => Or.inr rfl) (fun x hx _ => by
    have e := (hI.2.1 (x : Int) (by omega) (by omega)).1
    exact ⟨by show (dv (x : Int)).toNat < _; omega, Int.le_refl _⟩) (fun _ _ => by decide) (fun x y hx hy _ _ he => by
    have e1 := hI.2.1 (x : Int) (by omega) (by omega)
    have e2 := hI.2.1 (y : Int) (by omega) (by omega)
    have he : (dv (x : Int)).toNat = (dv (y : Int)).toNat := he
    have e3 : dv (x : Int) = dv (y : Int) := by omega
    have e4 := e1.2
    rw [e3, e2.2] at e4
    omega)
  have h2 := zsum_inj (N := (4 * n).toNat) (n := (2 * c).toNat) (f := fun _ => 1) (q := fun _ => 1) (g := fun i => (ix (i : Int)).toNat) (fun _ _ => Or.inr rfl) (fun x hx _ => by
    have e := (hI.1 (x : Int) (by omega) (by omega)).1
    exact ⟨by show (ix (x : Int)).toNat < _; omega, Int.le_refl _⟩) (fun _ _ => by decide) (fun x y hx hy _ _ he => by
    have e1 := hI.1 (x : Int) (by omega) (by omega)
    have e2 := hI.1 (y : Int) (by omega) (by omega)
    have he : (ix (x : Int)).toNat = (ix (y : Int)).toNat := he
    have := zIx_inj hI (z := (x : Int)) (w := (y : Int)) ⟨by omega, by omega⟩ ⟨by omega, by omega⟩ (by omega)
    omega)
  rw [zone, zone] at h1 h2
  omega
/-- no fewer arcs than crossings -/
theorem zAl_ge {sg lb al : Int → Int} {n c0 : Int} (hn : 0 ≤ n) (hi : ∀ j, inI (lb j)) (hG : zGd sg lb (4 * n)) (hX : zAx lb (4 * n)) (hA : zAl lb (4 * n) c0 al) : n ≤ c0 := by
  obtain ⟨f, c, hL⟩ := zLs_ex hi (4 * n).toNat
  rw [show (((4 * n).toNat : Nat) : Int) = 4 * n by omega] at hL
  have hc := zLs_2n hn hG hL
  -- the row's number of a label
  obtain ⟨ri, hri⟩ := Classical.axiomOfChoice (r := fun (x i : Int) => 0 ≤ x → x < 4 * n → (0 ≤ i ∧ i < c) ∧ f i = lb x) (fun x => by
    by_cases q : 0 ≤ x ∧ x < 4 * n
    · obtain ⟨i, i1, i2, i3⟩ := (hL.2.1 (lb x)).mpr ⟨x, q.1, q.2, rfl⟩
      exact ⟨i, fun _ _ => ⟨⟨i1, i2⟩, i3⟩⟩
    · exact ⟨0, fun h1 h2 => absurd ⟨h1, h2⟩ q⟩)
  let a : Nat → Nat := fun k => (ri (4 * (k : Int) + 1)).toNat
  let b : Nat → Nat := fun k => (ri (4 * (k : Int) + 3)).toNat
  have ha : ∀ j, j < n.toNat → a j < c.toNat := fun j hj => by have := (hri (4 * (j : Int) + 1) (by omega) (by omega)).1; show (ri (4 * (j : Int) + 1)).toNat < _; omega
  have hb : ∀ j, j < n.toNat → b j < c.toNat := fun j hj => by have := (hri (4 * (j : Int) + 3) (by omega) (by omega)).1; show (ri (4 * (j : Int) + 3)).toNat < _; omega
  have hf := lfix_all (a := a) (b := b) (N := c.toNat) n.toNat ha hb
  have hm : zsum (lmrg a b) n.toNat ≤ zsum (fun _ => 1) n.toNat := zsum_le fun i _ => by unfold lmrg; split <;> omega
  rw [zone] at hm
  -- a labelling of the labels that is the same over each crossing
  obtain ⟨ry, hry⟩ := Classical.axiomOfChoice (r := fun (v i : Int) => (∃ x, 0 ≤ x ∧ x < 4 * n ∧ lb x = v) → (0 ≤ i ∧ i < c) ∧ f i = v) (fun v => by
    by_cases q : ∃ x, 0 ≤ x ∧ x < 4 * n ∧ lb x = v
    · obtain ⟨i, i1, i2, i3⟩ := (hL.2.1 v).mpr q
      exact ⟨i, fun _ => ⟨⟨i1, i2⟩, i3⟩⟩
    · exact ⟨0, fun h => absurd h q⟩)
  have hye : ∀ x, 0 ≤ x → x < 4 * n → ry (lb x) = ri x := fun x h1 h2 => by
    have e1 := hry (lb x) ⟨x, h1, h2, rfl⟩
    have e2 := hri x h1 h2
    exact zSr_inj hL.1 e1.1 e2.1 (e1.2.trans e2.2.symm)
  let Lb : Int → Int := fun v => ((lbl a b n.toNat (ry v).toNat : Nat) : Int)
  have hLv : zLv lb (4 * n) Lb := fun x h1 h2 h3 => by
    have hac := zac_in (by omega) ⟨h1, h2⟩
    show ((lbl a b n.toNat (ry (lb (zac x))).toNat : Nat) : Int) = ((lbl a b n.toNat (ry (lb x)).toNat : Nat) : Int)
    rw [hye x h1 h2, hye _ hac.1 hac.2]
    have e := lbl_edge (a := a) (b := b) (i := n.toNat) (j := (x / 4).toNat) (by omega)
    have ea : a (x / 4).toNat = (ri (4 * (x / 4) + 1)).toNat := by show (ri (4 * (((x / 4).toNat : Nat) : Int) + 1)).toNat = _; rw [show (((x / 4).toNat : Nat) : Int) = x / 4 by omega]
    have eb : b (x / 4).toNat = (ri (4 * (x / 4) + 3)).toNat := by show (ri (4 * (((x / 4).toNat : Nat) : Int) + 3)).toNat = _; rw [show (((x / 4).toNat : Nat) : Int) = x / 4 by omega]
    rw [ea, eb] at e
    rcases (show x % 4 = 1 ∨ x % 4 = 3 by omega) with q | q
    · rw [show zac x = 4 * (x / 4) + 3 by unfold zac; omega, show ri x = ri (4 * (x / 4) + 1) by rw [show 4 * (x / 4) + 1 = x by omega], e]
    · rw [show zac x = 4 * (x / 4) + 1 by unfold zac; omega, show ri x = ri (4 * (x / 4) + 3) by rw [show 4 * (x / 4) + 3 = x by omega], e]
  -- each class its arc
  obtain ⟨ga, hga⟩ := Classical.axiomOfChoice (r := fun (v : Nat) (j : Nat) => v < c.toNat → (j : Int) < c0 ∧ zAo lb (4 * n) (f (v : Int)) (al (j : Int))) (fun v => by
    by_cases q : v < c.toNat
    · obtain ⟨x, x1, x2, x3⟩ := (hL.2.1 (f (v : Int))).mp ⟨v, by omega, by omega, rfl⟩
      obtain ⟨m, hm⟩ := hX x x1 x2
      obtain ⟨j, j1, j2, j3⟩ := zAl_ex hA hm
      exact ⟨j.toNat, fun _ => ⟨by omega, by rw [show ((j.toNat : Nat) : Int) = j by omega, j3, ← x3]; exact hm⟩⟩
    · exact ⟨0, fun h => absurd h q⟩)
  have hin := zsum_inj (N := c.toNat) (n := c0.toNat) (f := fun v => if lbl a b n.toNat v = v then 1 else 0) (q := fun _ => 1) (g := ga) (fun x _ => by by_cases q : lbl a b n.toNat x = x; exact Or.inr (if_pos q); exact Or.inl (if_neg q)) (fun x hx _ => ⟨by have := (hga x hx).1; omega, Int.le_refl _⟩) (fun _ _ => by decide) (fun x y hx hy ex ey eg => by
    have qx : lbl a b n.toNat x = x := Decidable.byContradiction fun q => by rw [if_neg q] at ex; omega
    have qy : lbl a b n.toNat y = y := Decidable.byContradiction fun q => by rw [if_neg q] at ey; omega
    have e1 := (hga x hx).2.2.1 Lb hLv
    have e2 := (hga y hy).2.2.1 Lb hLv
    rw [eg, e2] at e1
    have hv : ∀ v : Nat, v < c.toNat → ry (f (v : Int)) = v := fun v hv => by
      have k := hry (f (v : Int)) ((hL.2.1 _).mp ⟨v, by omega, by omega, rfl⟩)
      exact zSr_inj hL.1 k.1 ⟨by omega, by omega⟩ k.2
    have e3 : ((lbl a b n.toNat (ry (f (y : Int))).toNat : Nat) : Int) = ((lbl a b n.toNat (ry (f (x : Int))).toNat : Nat) : Int) := e1
    rw [hv x hx, hv y hy, Int.toNat_natCast, Int.toNat_natCast, qx, qy] at e3
    omega)
  rw [zone] at hin
  have hc0 := hA.2.2.1
  have hf2 : lfix a b c.toNat n.toNat = zsum (fun v => if lbl a b n.toNat v = v then 1 else 0) c.toNat := rfl
  omega
/-- fewer arcs than labels -/
theorem zAl_le {sg lb al : Int → Int} {n c0 : Int} (hn : 0 ≤ n) (hi : ∀ j, inI (lb j)) (hG : zGd sg lb (4 * n)) (hH : zHt sg lb n) (hX : zAx lb (4 * n)) (hA : zAl lb (4 * n) c0 al) : c0 ≤ 2 * n ∧ (0 < n → c0 ≤ 2 * n - 1) := by
  obtain ⟨f, c, hL⟩ := zLs_ex hi (4 * n).toNat
  rw [show (((4 * n).toNat : Nat) : Int) = 4 * n by omega] at hL
  have hc := zLs_2n hn hG hL
  have hc0 := hA.2.2.1
  have hmem : ∀ j : Nat, ∃ i : Nat, (j : Int) < c0 → (i : Int) < c ∧ f (i : Int) = al (j : Int) := fun j => by
    by_cases q : (j : Int) < c0
    · obtain ⟨x, _⟩ := ((hA.2.1 (al (j : Int))).mp ⟨j, by omega, q, rfl⟩)
      obtain ⟨i, i1, i2, i3⟩ := (hL.2.1 (al (j : Int))).mpr x
      exact ⟨i.toNat, fun _ => ⟨by omega, by rw [show ((i.toNat : Nat) : Int) = i by omega]; exact i3⟩⟩
    · exact ⟨0, fun h => absurd h q⟩
  obtain ⟨g, hg⟩ := Classical.axiomOfChoice hmem
  have key : ∀ w : Nat → Int, (∀ k, k < c.toNat → 0 ≤ w k) → (∀ j : Nat, (j : Int) < c0 → 1 ≤ w (g j)) → c0 ≤ zsum w c.toNat := fun w w0 w1 => by
    have h := zsum_inj (N := c0.toNat) (n := c.toNat) (f := fun _ => 1) (q := w) (g := g) (fun _ _ => Or.inr rfl) (fun x hx _ => ⟨by have := (hg x (by omega)).1; omega, w1 x (by omega)⟩) w0 (fun x y hx hy _ _ he => by
      have e1 := (hg x (by omega)).2
      have e2 := (hg y (by omega)).2
      rw [he, e2] at e1
      have := zSr_inj hA.1 (i := (x : Int)) (j := (y : Int)) ⟨by omega, by omega⟩ ⟨by omega, by omega⟩ e1.symm
      omega)
    rw [zone] at h
    omega
  refine ⟨?_, fun h0 => ?_⟩
  · have := key (fun _ => 1) (fun _ _ => by decide) (fun _ _ => Int.le_refl _)
    rw [zone] at this
    omega
  · have hu := (zHt_up hH (k := 0) ⟨by omega, h0⟩).1
    obtain ⟨m, hm⟩ := hX 1 (by omega) (by omega)
    have hm3 : zAo lb (4 * n) (lb 3) m := zAo_ov (x := 3) (by rw [show zac 3 = 1 from by decide]; exact hm) ⟨by omega, by omega⟩ (by decide)
    -- one of the two isn't the least
    have hy : ∃ y, 0 ≤ y ∧ y < 4 * n ∧ zAo lb (4 * n) (lb y) m ∧ ¬ lb y = m := by
      by_cases q : lb 1 = m
      · exact ⟨3, by omega, by omega, hm3, fun z => hu (by show lb (4 * 0 + 1) = lb (4 * 0 + 3); rw [show (4 : Int) * 0 + 1 = 1 by decide, show (4 : Int) * 0 + 3 = 3 by decide, q, z])⟩
      · exact ⟨1, by omega, by omega, hm, q⟩
    obtain ⟨y, y1, y2, y3, y4⟩ := hy
    obtain ⟨i0, i1, i2, i3⟩ := (hL.2.1 (lb y)).mpr ⟨y, y1, y2, rfl⟩
    have := key (fun i => if i = i0.toNat then 0 else 1) (fun _ _ => by split <;> omega) (fun j hj => by
      rw [if_neg]
      · exact Int.le_refl _
      · intro e
        have e1 := (hg j hj).2
        rw [e, show ((i0.toNat : Nat) : Int) = i0 by omega, i3] at e1
        have e2 := ((hA.2.1 (al (j : Int))).mp ⟨j, by omega, hj, rfl⟩).2
        rw [← e1] at e2
        exact y4 (zAo_un e2 y3))
    have e := zsum_up (f := fun _ => 1) (k := i0.toNat) (v := 0) (n := c.toNat) (by omega)
    rw [zone] at e
    have e5 : zsum (fun i => if i = i0.toNat then (0 : Int) else 1) c.toNat = (c.toNat : Int) - 1 + 0 := e
    omega
