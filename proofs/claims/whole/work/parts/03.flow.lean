/-! Sums over 0 .. n - 1; labels of a graph's pieces; a flow on a forest is 0; a map on a sphere has a height. -/
def zsum (f : Nat → Int) : Nat → Int
  | 0 => 0
  | n + 1 => zsum f n + f n
theorem zsum_congr {f g : Nat → Int} {n : Nat} (h : ∀ i, i < n → f i = g i) : zsum f n = zsum g n := by
  induction n with
  | zero => rfl
  | succ n ih => rw [zsum, zsum, ih (fun i hi => h i (by omega)), h n (by omega)]
theorem zsum_zero {f : Nat → Int} {n : Nat} (h : ∀ i, i < n → f i = 0) : zsum f n = 0 := by
  induction n with
  | zero => rfl
  | succ n ih => rw [zsum, ih (fun i hi => h i (by omega)), h n (by omega)]; rfl
theorem zsum_add (f g : Nat → Int) (n : Nat) : zsum (fun i => f i + g i) n = zsum f n + zsum g n := by
  induction n with
  | zero => rfl
  | succ n ih => rw [zsum, zsum, zsum, ih]; omega
theorem zsum_sub (f g : Nat → Int) (n : Nat) : zsum (fun i => f i - g i) n = zsum f n - zsum g n := by
  induction n with
  | zero => rfl
  | succ n ih => rw [zsum, zsum, zsum, ih]; omega
theorem zsum_swap (F : Nat → Nat → Int) (n m : Nat) : zsum (fun i => zsum (F i) m) n = zsum (fun j => zsum (fun i => F i j) n) m := by
  induction n with
  | zero => exact (zsum_zero (fun _ _ => rfl)).symm
  | succ n ih =>
    show zsum (fun i => zsum (F i) m) n + zsum (F n) m = _
    rw [ih, ← zsum_add]
    rfl
theorem zsum_pick {n k : Nat} (x : Int) (hk : k < n) : zsum (fun i => if i = k then x else 0) n = x := by
  induction n with
  | zero => omega
  | succ n ih =>
    rw [zsum]
    by_cases h : k = n
    · subst h
      rw [zsum_zero (fun i hi => if_neg (by omega)), if_pos rfl]
      omega
    · rw [ih (by omega), if_neg (by omega)]
      omega
theorem zsum_at {n k : Nat} (f : Nat → Int) (hk : k < n) : zsum (fun i => if i = k then f i else 0) n = f k := by
  rw [← zsum_pick (f k) hk]
  refine zsum_congr fun i _ => ?_
  by_cases h : i = k
  · rw [if_pos h, if_pos h, h]
  · rw [if_neg h, if_neg h]
theorem zsum_le {f g : Nat → Int} {n : Nat} (h : ∀ i, i < n → f i ≤ g i) : zsum f n ≤ zsum g n := by
  induction n with
  | zero => exact Int.le_refl _
  | succ n ih =>
    rw [zsum, zsum]
    have h1 := ih (fun i hi => h i (by omega))
    have h2 := h n (by omega)
    omega
theorem zsum_eq_of_le {f g : Nat → Int} {n : Nat} (h : ∀ i, i < n → f i ≤ g i) (he : zsum g n ≤ zsum f n) : ∀ i, i < n → f i = g i := by
  induction n with
  | zero => intro i hi; omega
  | succ n ih =>
    rw [zsum, zsum] at he
    have h1 := zsum_le (fun i hi => h i (by omega) : ∀ i, i < n → f i ≤ g i)
    have h2 := h n (by omega)
    intro i hi
    by_cases hn : i = n
    · subst hn; omega
    · exact ih (fun i hi => h i (by omega)) (by omega) i (by omega)
theorem zsum_perm {n : Nat} {u v : Nat → Nat} (hu : ∀ x, x < n → u x < n) (hv : ∀ x, x < n → v x < n) (h1 : ∀ x, x < n → v (u x) = x) (h2 : ∀ x, x < n → u (v x) = x) (f : Nat → Int) : zsum (fun x => f (u x)) n = zsum f n := by
  have e1 : zsum (fun x => f (u x)) n = zsum (fun x => zsum (fun y => if y = u x then f y else 0) n) n := zsum_congr fun x hx => (zsum_at f (hu x hx)).symm
  rw [e1, zsum_swap]
  refine zsum_congr fun y hy => ?_
  refine Eq.trans (zsum_congr fun x hx => ?_) (zsum_pick (f y) (hv y hy))
  by_cases h : y = u x
  · rw [if_pos h, if_pos (by rw [h, h1 x hx])]
  · rw [if_neg h, if_neg (fun q => h (by rw [q, h2 y hy]))]
/-- labels behind the first i edges: where they join two labels, the one at b becomes the one at a -/
def lbl (a b : Nat → Nat) : Nat → Nat → Nat
  | 0, v => v
  | i + 1, v => if lbl a b i v = lbl a b i (b i) then lbl a b i (a i) else lbl a b i v
theorem lbl_keep {a b : Nat → Nat} {i u v : Nat} (h : lbl a b i u = lbl a b i v) : ∀ j, i ≤ j → lbl a b j u = lbl a b j v := by
  intro j hj
  induction j with
  | zero => rw [show i = 0 by omega] at h; exact h
  | succ j ih =>
    by_cases q : i = j + 1
    · subst q; exact h
    · have := ih (by omega)
      simp only [lbl, this]
theorem lbl_edge {a b : Nat → Nat} {i j : Nat} (h : j < i) : lbl a b i (a j) = lbl a b i (b j) := by
  refine lbl_keep (i := j + 1) ?_ i (by omega)
  simp only [lbl]
  by_cases q : lbl a b j (a j) = lbl a b j (b j)
  · simp [q]
  · simp [q]
theorem lbl_in {a b : Nat → Nat} {i v : Nat} (h : lbl a b i v = lbl a b i (b i)) : lbl a b (i + 1) v = lbl a b i (a i) := if_pos h
theorem lbl_out {a b : Nat → Nat} {i v : Nat} (h : ¬ lbl a b i v = lbl a b i (b i)) : lbl a b (i + 1) v = lbl a b i v := if_neg h
theorem lbl_idem (a b : Nat → Nat) (i v : Nat) : lbl a b i (lbl a b i v) = lbl a b i v := by
  induction i generalizing v with
  | zero => rfl
  | succ i ih =>
    by_cases h : lbl a b i v = lbl a b i (b i)
    · rw [lbl_in h]
      by_cases q : lbl a b i (a i) = lbl a b i (b i)
      · exact lbl_in (by rw [ih]; exact q)
      · rw [lbl_out (by rw [ih]; exact q), ih]
    · rw [lbl_out h, lbl_out (by rw [ih]; exact h), ih]
theorem lbl_lt {a b : Nat → Nat} {N : Nat} : ∀ (i : Nat), (∀ j, j < i → a j < N) → ∀ v, v < N → lbl a b i v < N
  | 0, _, _, hv => hv
  | i + 1, ha, v, hv => by
    simp only [lbl]
    by_cases h : lbl a b i v = lbl a b i (b i)
    · rw [if_pos h]; exact lbl_lt i (fun j hj => ha j (by omega)) _ (ha i (by omega))
    · rw [if_neg h]; exact lbl_lt i (fun j hj => ha j (by omega)) _ hv
/-- a flow that lives on joining edges alone is 0 -/
theorem flow_zero {a b : Nat → Nat} {N m : Nat} (ha : ∀ i, i < m → a i < N) (hb : ∀ i, i < m → b i < N) {w : Nat → Int} (hw : ∀ i, i < m → lbl a b i (a i) = lbl a b i (b i) → w i = 0)
    (hc : ∀ v, v < N → zsum (fun i => (if a i = v then w i else 0) - (if b i = v then w i else 0)) m = 0) : ∀ i, i < m → w i = 0 := by
  have key : ∀ d k, d + k = m → ∀ i, k ≤ i → i < m → w i = 0 := by
    intro d
    induction d with
    | zero => intro k hk i h1 h2; omega
    | succ d ih =>
      intro k hk i h1 h2
      by_cases hik : i = k
      · subst hik
        by_cases hm : lbl a b i (a i) = lbl a b i (b i)
        · exact hw i h2 hm
        · have hrest : ∀ j, i + 1 ≤ j → j < m → w j = 0 := ih (i + 1) (by omega)
          have e0 : zsum (fun v => zsum (fun j => if lbl a b i v = lbl a b i (a i) then (if a j = v then w j else 0) - (if b j = v then w j else 0) else 0) m) N = 0 := by
            refine zsum_zero fun v hv => ?_
            by_cases q : lbl a b i v = lbl a b i (a i)
            · simp only [if_pos q]; exact hc v hv
            · simp only [if_neg q]; exact zsum_zero fun _ _ => rfl
          rw [zsum_swap] at e0
          have e1 : ∀ j, j < m → zsum (fun v => if lbl a b i v = lbl a b i (a i) then (if a j = v then w j else 0) - (if b j = v then w j else 0) else 0) N = if j = i then w i else 0 := by
            intro j hj
            have f1 : zsum (fun v => if lbl a b i v = lbl a b i (a i) then (if a j = v then w j else 0) - (if b j = v then w j else 0) else 0) N = (if lbl a b i (a j) = lbl a b i (a i) then w j else 0) - (if lbl a b i (b j) = lbl a b i (a i) then w j else 0) := by
              have g1 := zsum_at (fun v => if lbl a b i v = lbl a b i (a i) then w j else 0) (ha j hj)
              have g2 := zsum_at (fun v => if lbl a b i v = lbl a b i (a i) then w j else 0) (hb j hj)
              rw [← g1, ← g2, ← zsum_sub]
              refine zsum_congr fun v _ => ?_
              by_cases q : lbl a b i v = lbl a b i (a i)
              · simp only [if_pos q]
                congr 1
                · by_cases z : a j = v
                  · rw [if_pos z, if_pos z.symm]
                  · rw [if_neg z, if_neg (fun y => z y.symm)]
                · by_cases z : b j = v
                  · rw [if_pos z, if_pos z.symm]
                  · rw [if_neg z, if_neg (fun y => z y.symm)]
              · simp only [if_neg q, ite_self]
                rfl
            rw [f1]
            rcases Nat.lt_trichotomy j i with q | q | q
            · rw [lbl_edge q, if_neg (by omega : ¬ j = i)]
              omega
            · subst q
              rw [if_pos rfl, if_neg (fun y => hm y.symm), if_pos rfl]
              omega
            · rw [hrest j (by omega) hj, if_neg (by omega : ¬ j = i)]
              simp
          rw [zsum_congr e1, zsum_pick (w i) h2] at e0
          exact e0
      · exact ih (k + 1) (by omega) i (by omega) h2
  intro i hi
  exact key m 0 (by omega) i (by omega) hi
/-- how many labels there are -/
def lfix (a b : Nat → Nat) (N i : Nat) : Int := zsum (fun v => if lbl a b i v = v then 1 else 0) N
def lmrg (a b : Nat → Nat) (i : Nat) : Int := if lbl a b i (a i) = lbl a b i (b i) then 0 else 1
theorem lfix_step {a b : Nat → Nat} {N i : Nat} (ha : ∀ j, j < i → a j < N) (hb : b i < N) : lfix a b N (i + 1) = lfix a b N i - lmrg a b i := by
  by_cases hm : lbl a b i (a i) = lbl a b i (b i)
  · have e : ∀ v, lbl a b (i + 1) v = lbl a b i v := by
      intro v
      simp only [lbl, hm]
      by_cases h : lbl a b i v = lbl a b i (b i)
      · rw [if_pos h, h]
      · rw [if_neg h]
    simp only [lfix, lmrg, e, if_pos hm]
    omega
  · have hr : lbl a b i (b i) < N := lbl_lt i ha _ hb
    have e : lfix a b N (i + 1) = zsum (fun v => (if lbl a b i v = v then 1 else 0) - (if v = lbl a b i (b i) then 1 else 0)) N := by
      refine zsum_congr fun v _ => ?_
      by_cases hv : v = lbl a b i (b i)
      · have h1 : lbl a b i v = lbl a b i (b i) := by rw [hv, lbl_idem]
        have h2 : lbl a b (i + 1) v = lbl a b i (a i) := lbl_in h1
        have h3 : ¬ lbl a b (i + 1) v = v := by rw [h2, hv]; exact hm
        have h4 : lbl a b i v = v := h1.trans hv.symm
        rw [if_neg h3, if_pos h4, if_pos hv]
        rfl
      · rw [if_neg hv]
        by_cases h : lbl a b i v = lbl a b i (b i)
        · have h2 : lbl a b (i + 1) v = lbl a b i (a i) := lbl_in h
          have h3 : ¬ lbl a b (i + 1) v = v := by
            rw [h2]
            intro q
            rw [← q, lbl_idem] at h
            exact hm h
          have h4 : ¬ lbl a b i v = v := fun q => hv (q.symm.trans h)
          rw [if_neg h3, if_neg h4]
          rfl
        · rw [lbl_out h]
          omega
    rw [e, zsum_sub, zsum_pick 1 hr]
    simp only [lfix, lmrg, if_neg hm]
theorem lfix_all {a b : Nat → Nat} {N : Nat} : ∀ (i : Nat), (∀ j, j < i → a j < N) → (∀ j, j < i → b j < N) → lfix a b N i = (N : Int) - zsum (lmrg a b) i
  | 0, _, _ => by
    have h : ∀ N : Nat, zsum (fun v => if v = v then (1 : Int) else 0) N = N := by
      intro N
      induction N with
      | zero => rfl
      | succ n ih => rw [zsum, ih, if_pos rfl]; omega
    show zsum (fun v => if v = v then (1 : Int) else 0) N = _
    rw [h, zsum]
    omega
  | i + 1, ha, hb => by
    rw [lfix_step (fun j hj => ha j (by omega)) (hb i (by omega)), lfix_all i (fun j hj => ha j (by omega)) (fun j hj => hb j (by omega)), zsum]
    omega
/-- numbers at the ends that differ by w along the joining edges -/
theorem lbl_height {a b : Nat → Nat} {w : Nat → Int} : ∀ (i : Nat), ∃ h : Nat → Int, ∀ j, j < i → ¬ lbl a b j (a j) = lbl a b j (b j) → h (b j) - h (a j) = w j
  | 0 => ⟨fun _ => 0, fun j hj => by omega⟩
  | i + 1 => by
    obtain ⟨h, hh⟩ := lbl_height (a := a) (b := b) (w := w) i
    refine ⟨fun v => h v + (if lbl a b i v = lbl a b i (b i) then w i - (h (b i) - h (a i)) else 0), fun j hj hm => ?_⟩
    by_cases q : j = i
    · subst q
      simp only [if_pos, if_neg hm]
      omega
    · have h1 := hh j (by omega) hm
      have h2 : lbl a b i (a j) = lbl a b i (b j) := lbl_edge (by omega)
      simp only [h2]
      omega
