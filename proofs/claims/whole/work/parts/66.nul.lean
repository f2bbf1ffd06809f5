theorem zNx_un {lb al : Int → Int} {P x y r r' : Int} (h : zNx lb P al x r) (h' : zNx lb P al y r') (he : lb x = lb y) : r = r' := by
  obtain ⟨h1, m, m1, m2, m3⟩ := h
  obtain ⟨k1, m', n1, n2, n3⟩ := h'
  rw [he] at m1
  have e := zAo_un m1 n1
  subst e
  by_cases q : r < r'
  · exact absurd m2 (n3 r h1.1 q)
  · by_cases q2 : r' < r
    · exact absurd n2 (m3 r' k1.1 q2)
    · omega
/-- the arcs' numbers, at all places -/
def zNa (N : Int → Int) (x : Int) : Int := if x % 4 = 3 then N (x - 2) else N x
theorem zNa_x {lb al N : Int → Int} {n : Int} (h : ∀ x, 0 ≤ x → x < 4 * n → x % 4 ≠ 3 → zNx lb (4 * n) al x (N x)) : ∀ x, 0 ≤ x → x < 4 * n → zNx lb (4 * n) al x (zNa N x) := fun x h1 h2 => by
  unfold zNa
  by_cases q : x % 4 = 3
  · rw [if_pos q]
    obtain ⟨k1, m, m1, m2, m3⟩ := h (x - 2) (by omega) (by omega) (by omega)
    exact ⟨k1, m, zAo_ov (by rw [show zac x = x - 2 by unfold zac; omega]; exact m1) ⟨h1, h2⟩ (by omega), m2, m3⟩
  · rw [if_neg q]; exact h x h1 h2 q
theorem zki_4 (sg : Int → Int) (k : Int) : zki sg (4 * k) = 0 ∧ zki sg (4 * k + 2) = 1 ∧ zki sg (4 * k + 1) = (if 0 < sg k then 1 else 0) ∧ zki sg (4 * k + 3) = if 0 < sg k then 0 else 1 := by
  have hq := zoq_or (sg k)
  refine ⟨?_, ?_, ?_, ?_⟩
  · show (if zoo (sg (4 * k / 4)) (4 * k) then (1 : Int) else 0) = 0
    rw [show 4 * k / 4 = k by omega, if_neg (by unfold zoo; omega)]
  · show (if zoo (sg ((4 * k + 2) / 4)) (4 * k + 2) then (1 : Int) else 0) = 1
    rw [show (4 * k + 2) / 4 = k by omega, if_pos (by unfold zoo; omega)]
  · show (if zoo (sg ((4 * k + 1) / 4)) (4 * k + 1) then (1 : Int) else 0) = _
    rw [show (4 * k + 1) / 4 = k by omega]
    by_cases s : 0 < sg k
    · rw [if_pos s, if_pos (by unfold zoo; omega)]
    · rw [if_neg s, if_neg (by unfold zoo; omega)]
  · show (if zoo (sg ((4 * k + 3) / 4)) (4 * k + 3) then (1 : Int) else 0) = _
    rw [show (4 * k + 3) / 4 = k by omega]
    by_cases s : 0 < sg k
    · rw [if_pos s, if_neg (by unfold zoo; omega)]
    · rw [if_neg s, if_pos (by unfold zoo; omega)]
theorem zcr_4 (s k : Int) : zcr4 s (4 * k) = (if 0 < s then 0 else 1) ∧ zcr4 s (4 * k + 1) = 0 ∧ zcr4 s (4 * k + 2) = (if 0 < s then 1 else 0) ∧ zcr4 s (4 * k + 3) = 1 := by
  unfold zcr4
  rw [show 4 * k % 4 = 0 by omega, show (4 * k + 1) % 4 = 1 by omega, show (4 * k + 2) % 4 = 2 by omega, show (4 * k + 3) % 4 = 3 by omega]
  by_cases h : 0 < s
  · simp [h]
  · simp [h]
theorem zcr_or (s x : Int) : zcr4 s x = 0 ∨ zcr4 s x = 1 := by unfold zcr4; (repeat' split) <;> omega
/-- what a place gives to arc a -/
def zphi (sg N h : Int → Int) (K t a x : Int) : Int := (if a = N x then 1 else 0) * (2 * zki sg x - 1) * -(t ^ (K + 1 - (h (x / 4) + zcr4 (sg (x / 4)) x)).toNat)
theorem znegif (p : Prop) [Decidable p] : (if p then (-1 : Int) else 0) = -(if p then 1 else 0) := by split <;> rfl
theorem zphi_4 {sg N h : Int → Int} {K t a k : Int} (hK : h k ≤ K) (hs : sg k = 1 ∨ sg k = -1) (hN : N (4 * k + 3) = N (4 * k + 1)) : sg k * t ^ (K - h k).toNat * (zeO sg N k a + zeT sg N k a * t) = zphi sg N h K t a (4 * k) + zphi sg N h K t a (4 * k + 1) + zphi sg N h K t a (4 * k + 2) + zphi sg N h K t a (4 * k + 3) := by
  have ki := zki_4 sg k
  have cr := zcr_4 (sg k) k
  unfold zphi zeO zeT
  rw [show 4 * k / 4 = k by omega, show (4 * k + 1) / 4 = k by omega, show (4 * k + 2) / 4 = k by omega, show (4 * k + 3) / 4 = k by omega, ki.1, ki.2.1, ki.2.2.1, ki.2.2.2, cr.1, cr.2.1, cr.2.2.1, cr.2.2.2, hN]
  have e1 : t ^ (K + 1 - (h k + 0)).toNat = t ^ (K - h k).toNat * t := by rw [show (K + 1 - (h k + 0)).toNat = (K - h k).toNat + 1 by omega, Int.pow_succ]
  have e2 : t ^ (K + 1 - (h k + 1)).toNat = t ^ (K - h k).toNat := by rw [show (K + 1 - (h k + 1)).toNat = (K - h k).toNat by omega]
  rcases hs with s | s
  · rw [s]
    simp only [show (0 : Int) < 1 from by decide, if_true]
    rw [e1, e2, znegif, znegif]
    generalize (if a = N (4 * k) then (1 : Int) else 0) = i0
    generalize (if a = N (4 * k + 1) then (1 : Int) else 0) = i1
    generalize (if a = N (4 * k + 2) then (1 : Int) else 0) = i2
    generalize t ^ (K - h k).toNat = T
    grind
  · rw [s]
    simp only [show ¬ (0 : Int) < -1 from by decide, if_false]
    rw [e1, e2, znegif, znegif]
    generalize (if a = N (4 * k) then (1 : Int) else 0) = i0
    generalize (if a = N (4 * k + 1) then (1 : Int) else 0) = i1
    generalize (if a = N (4 * k + 2) then (1 : Int) else 0) = i2
    generalize t ^ (K - h k).toNat = T
    grind
theorem zeOT_na {sg N : Int → Int} (k a : Int) : zeO sg (zNa N) k a = zeO sg N k a ∧ zeT sg (zNa N) k a = zeT sg N k a := by
  unfold zeO zeT zNa
  rw [if_neg (show ¬ (4 * k + 2) % 4 = 3 by omega), if_neg (show ¬ (4 * k) % 4 = 3 by omega), if_neg (show ¬ (4 * k + 1) % 4 = 3 by omega)]
  exact ⟨rfl, rfl⟩
/-- the rows, weighted by powers of t, add up to 0 -/
theorem znull {sg lb N h : Int → Int} {n K : Int} (hn : 0 ≤ n) (hG : zGd sg lb (4 * n)) (hs : ∀ k, 0 ≤ k → k < n → sg k = 1 ∨ sg k = -1) (hK : ∀ k, 0 ≤ k → k < n → h k ≤ K) (hh : ∀ x y, 0 ≤ x → x < 4 * n → 0 ≤ y → y < 4 * n → lb x = lb y → h (x / 4) + zcr4 (sg (x / 4)) x = h (y / 4) + zcr4 (sg (y / 4)) y) (hN : ∀ x y, 0 ≤ x → x < 4 * n → 0 ≤ y → y < 4 * n → lb x = lb y → zNa N x = zNa N y) (t a : Int) : zsum (fun k => sg (k : Int) * t ^ (K - h (k : Int)).toNat * (zeO sg N (k : Int) a + zeT sg N (k : Int) a * t)) n.toNat = 0 := by
  obtain ⟨r, hr⟩ := Classical.axiomOfChoice (r := fun (x y : Nat) => x < 4 * n.toNat → y < 4 * n.toNat ∧ lb (y : Int) = lb (x : Int) ∧ ¬ zki sg (y : Int) = zki sg (x : Int)) (fun x => by
    by_cases q : x < 4 * n.toNat
    · obtain ⟨y, y1, y2, y3, y4⟩ := hG.1 (x : Int) (by omega) (by omega)
      exact ⟨y.toNat, fun _ => ⟨by omega, by rw [show ((y.toNat : Nat) : Int) = y by omega]; exact y3, by rw [show ((y.toNat : Nat) : Int) = y by omega]; exact y4⟩⟩
    · exact ⟨0, fun z => absurd z q⟩)
  have h0 : zsum (fun x => zphi sg (zNa N) h K t a (x : Int)) (4 * n.toNat) = 0 := by
    refine zsum_inv (r := r) (fun x hx => ?_) (fun x hx => ?_)
    · have e1 := hr x hx
      have e2 := hr (r x) e1.1
      have k1 := zki_or sg (x : Int)
      have k2 := zki_or sg (r x : Int)
      have k3 := zki_or sg (r (r x) : Int)
      have := hG.2 (r (r x) : Int) (x : Int) (by omega) (by have := e2.1; omega) (by omega) (by omega) (e2.2.1.trans e1.2.1) (by have := e1.2.2; have := e2.2.2; omega)
      exact ⟨e1.1, by omega⟩
    · have e1 := hr x hx
      unfold zphi
      rw [hN (r x : Int) (x : Int) (by omega) (by have := e1.1; omega) (by omega) (by omega) e1.2.1, hh (r x : Int) (x : Int) (by omega) (by have := e1.1; omega) (by omega) (by omega) e1.2.1]
      have k1 := zki_or sg (x : Int)
      have k2 := zki_or sg (r x : Int)
      rw [show 2 * zki sg (r x : Int) - 1 = -(2 * zki sg (x : Int) - 1) by have := e1.2.2; omega]
      generalize -(t ^ (K + 1 - (h ((x : Int) / 4) + zcr4 (sg ((x : Int) / 4)) (x : Int))).toNat) = y
      generalize (if a = zNa N (x : Int) then (1 : Int) else 0) = i
      generalize 2 * zki sg (x : Int) - 1 = s
      grind
  rw [zsum_4] at h0
  rw [← h0]
  refine zsum_congr fun k hk => ?_
  have e := zphi_4 (N := zNa N) (t := t) (a := a) (hK (k : Int) (by omega) (by omega)) (hs (k : Int) (by omega) (by omega)) (by unfold zNa; rw [if_pos (by omega), if_neg (by omega), show 4 * (k : Int) + 3 - 2 = 4 * k + 1 by omega])
  rw [(zeOT_na (k : Int) a).1, (zeOT_na (k : Int) a).2] at e
  rw [e]
  rw [show ((4 * k : Nat) : Int) = 4 * (k : Int) by omega, show ((4 * k + 1 : Nat) : Int) = 4 * (k : Int) + 1 by omega, show ((4 * k + 2 : Nat) : Int) = 4 * (k : Int) + 2 by omega, show ((4 * k + 3 : Nat) : Int) = 4 * (k : Int) + 3 by omega]
theorem zpk_le (x : Int) (m : Nat) : zsum (fun b => if (b : Int) = x then 1 else 0) m ≤ 1 := zsum_one (fun b _ => by split; exact Or.inr rfl; exact Or.inl rfl) (fun y z _ _ e1 e2 => by
  have q1 : (y : Int) = x := Decidable.byContradiction fun q => by rw [if_neg q] at e1; omega
  have q2 : (z : Int) = x := Decidable.byContradiction fun q => by rw [if_neg q] at e2; omega
  omega) (by decide) (fun _ _ _ => Int.le_refl _)
theorem zpk_eq {x : Int} {m : Nat} (h : 0 ≤ x ∧ x < m) (v : Int) : zsum (fun b => if (b : Int) = x then v else 0) m = v := by
  rw [zsum_congr (g := fun b => if b = x.toNat then v else 0) (fun b _ => by
    by_cases q : (b : Int) = x
    · rw [if_pos q, if_pos (by omega)]
    · rw [if_neg q, if_neg (by omega)]), zsum_pick v (by omega)]
/-- a row's entries: together 4 at the most -/
theorem zrow4 (sg N : Int → Int) (k : Int) (m : Nat) : zsum (fun b => zab (zeO sg N k b) + zab (zeT sg N k b)) m ≤ 4 := by
  have h : ∀ b : Nat, zab (zeO sg N k b) + zab (zeT sg N k b) ≤ ((if (b : Int) = (if 0 < sg k then N (4 * k + 2) else N (4 * k)) then 1 else 0) + (if (b : Int) = N (4 * k + 1) then 1 else 0)) + ((if (b : Int) = (if 0 < sg k then N (4 * k) else N (4 * k + 2)) then 1 else 0) + (if (b : Int) = N (4 * k + 1) then 1 else 0)) := fun b => by
    have a1 := zab_add (if (b : Int) = (if 0 < sg k then N (4 * k + 2) else N (4 * k)) then -1 else 0) (if (b : Int) = N (4 * k + 1) then 1 else 0)
    have a2 := zab_add (if (b : Int) = (if 0 < sg k then N (4 * k) else N (4 * k + 2)) then 1 else 0) (if (b : Int) = N (4 * k + 1) then -1 else 0)
    have p1 : ∀ (q : Prop) [Decidable q], zab (if q then (-1 : Int) else 0) = if q then 1 else 0 := fun q _ => by split <;> rfl
    have p2 : ∀ (q : Prop) [Decidable q], zab (if q then (1 : Int) else 0) = if q then 1 else 0 := fun q _ => by split <;> rfl
    rw [p1, p2] at a1
    rw [p1, p2] at a2
    exact Int.add_le_add a1 a2
  have h2 := zsum_le (n := m) (fun b _ => h b)
  have h3 : zsum (fun b : Nat => ((if (b : Int) = (if 0 < sg k then N (4 * k + 2) else N (4 * k)) then (1 : Int) else 0) + (if (b : Int) = N (4 * k + 1) then (1 : Int) else 0)) + ((if (b : Int) = (if 0 < sg k then N (4 * k) else N (4 * k + 2)) then (1 : Int) else 0) + (if (b : Int) = N (4 * k + 1) then (1 : Int) else 0))) m = zsum (fun b : Nat => (if (b : Int) = (if 0 < sg k then N (4 * k + 2) else N (4 * k)) then (1 : Int) else 0)) m + zsum (fun b : Nat => (if (b : Int) = N (4 * k + 1) then (1 : Int) else 0)) m + (zsum (fun b : Nat => (if (b : Int) = (if 0 < sg k then N (4 * k) else N (4 * k + 2)) then (1 : Int) else 0)) m + zsum (fun b : Nat => (if (b : Int) = N (4 * k + 1) then (1 : Int) else 0)) m) := by rw [zsum_add, zsum_add, zsum_add]
  rw [h3] at h2
  have b1 := zpk_le (if 0 < sg k then N (4 * k + 2) else N (4 * k)) m
  have b2 := zpk_le (N (4 * k + 1)) m
  have b3 := zpk_le (if 0 < sg k then N (4 * k) else N (4 * k + 2)) m
  omega
/-- each row adds up to 0 -/
theorem zrow0 {sg N : Int → Int} {k : Int} {m : Nat} (h0 : 0 ≤ N (4 * k) ∧ N (4 * k) < m) (h1 : 0 ≤ N (4 * k + 1) ∧ N (4 * k + 1) < m) (h2 : 0 ≤ N (4 * k + 2) ∧ N (4 * k + 2) < m) (t : Int) : zsum (fun b => zeO sg N k b + zeT sg N k b * t) m = 0 := by
  have e1 : zsum (fun b : Nat => zeO sg N k b) m = 0 := by
    show zsum (fun b : Nat => (if (b : Int) = (if 0 < sg k then N (4 * k + 2) else N (4 * k)) then -1 else 0) + (if (b : Int) = N (4 * k + 1) then 1 else 0)) m = 0
    rw [zsum_add, zpk_eq (by split <;> omega), zpk_eq h1]; rfl
  have e2 : zsum (fun b : Nat => zeT sg N k b) m = 0 := by
    show zsum (fun b : Nat => (if (b : Int) = (if 0 < sg k then N (4 * k) else N (4 * k + 2)) then 1 else 0) + (if (b : Int) = N (4 * k + 1) then -1 else 0)) m = 0
    rw [zsum_add, zpk_eq (by split <;> omega), zpk_eq h1]; rfl
  rw [zsum_add, e1, zsum_congr (g := fun b => t * zeT sg N k b) (fun b _ => Int.mul_comm _ _), zsum_mul, e2]; omega
