abbrev ztp (x : Int) : Int := x / 4 * 4 + (x + 3) % 4
/-- the row of labels: sorted, each once -/
def zLs (lb : Int → Int) (P : Int) (f : Int → Int) (c : Int) : Prop := zSr f c ∧ (∀ v, (∃ j, 0 ≤ j ∧ j < c ∧ f j = v) ↔ ∃ x, 0 ≤ x ∧ x < P ∧ lb x = v) ∧ 0 ≤ c ∧ c ≤ P ∧ ∀ j, inI (f j)
theorem zLs_0 {lb f : Int → Int} (hf : ∀ j, inI (f j)) : zLs lb 0 f 0 := ⟨fun i j h1 h2 h3 => by omega, fun v => ⟨fun ⟨j, h1, h2, _⟩ => by omega, fun ⟨x, h1, h2, _⟩ => by omega⟩, by decide, by decide, hf⟩
theorem zLs_old {lb f : Int → Int} {P c : Int} (h : zLs lb P f c) (hP : 0 ≤ P) (hx : ∃ z, 0 ≤ z ∧ z < c ∧ f z = lb P) : zLs lb (P + 1) f c := by
  refine ⟨h.1, fun v => ?_, h.2.2.1, by have := h.2.2.2.1; omega, h.2.2.2.2⟩
  rw [h.2.1 v]
  constructor
  · rintro ⟨x, h1, h2, h3⟩; exact ⟨x, h1, by omega, h3⟩
  · rintro ⟨x, h1, h2, h3⟩
    by_cases q : x = P
    · subst q
      obtain ⟨z, z1, z2, z3⟩ := hx
      exact (h.2.1 v).mp ⟨z, z1, z2, z3.trans h3⟩
    · exact ⟨x, h1, by omega, h3⟩
theorem zLs_new {lb f h : Int → Int} {P c j : Int} (hL : zLs lb P f c) (hP : 0 ≤ P) (hj : 0 ≤ j ∧ j ≤ c) (hn : ∀ z, 0 ≤ z → z < c → ¬ f z = lb P) (hlow : j = 0 ∨ f (j - 1) ≤ lb P) (hup : ∀ z, j ≤ z → z < c → lb P < f z) (hh : ∀ z, h z = if j < z ∧ z ≤ c then f (z - 1) else f z) (hi : inI (lb P)) : zLs lb (P + 1) (zu h j (lb P)) (c + 1) := by
  have hlo : ∀ z, 0 ≤ z → z < j → f z < lb P := fun z h1 h2 => by
    have e1 : f z ≤ lb P := by
      rcases hlow with q | q
      · omega
      · by_cases e : z = j - 1
        · rw [e]; exact q
        · have := hL.1 z (j - 1) h1 (by omega) (by omega); omega
    have := hn z h1 (by omega)
    omega
  have hv : ∀ z, 0 ≤ z → z < c + 1 → zu h j (lb P) z = if z < j then f z else if z = j then lb P else f (z - 1) := fun z h1 h2 => by
    by_cases q : z = j
    · subst q; rw [zu_self, if_neg (by omega), if_pos rfl]
    · rw [zu_ne _ _ q, hh]
      by_cases q2 : z < j
      · rw [if_neg (by omega), if_pos q2]
      · rw [if_pos (by omega), if_neg q2, if_neg q]
  refine ⟨fun a b h1 h2 h3 => ?_, fun v => ⟨?_, ?_⟩, by omega, by have := hL.2.2.2.1; omega, zu_in (fun z => by rw [hh]; split <;> exact hL.2.2.2.2 _) hi⟩
  · rw [hv a h1 (by omega), hv b (by omega) h3]
    by_cases qa : a < j
    · rw [if_pos qa]
      by_cases qb : b < j
      · rw [if_pos qb]; exact hL.1 a b h1 h2 (by omega)
      · rw [if_neg qb]
        by_cases qe : b = j
        · rw [if_pos qe]; exact hlo a h1 qa
        · rw [if_neg qe]
          have := hlo a h1 qa
          have := hup (b - 1) (by omega) (by omega)
          omega
    · rw [if_neg qa]
      by_cases qe : a = j
      · rw [if_pos qe, if_neg (by omega), if_neg (by omega)]; exact hup (b - 1) (by omega) (by omega)
      · rw [if_neg qe, if_neg (by omega), if_neg (by omega)]; exact hL.1 (a - 1) (b - 1) (by omega) (by omega) (by omega)
  · rintro ⟨z, h1, h2, h3⟩
    rw [hv z h1 h2] at h3
    by_cases q : z < j
    · rw [if_pos q] at h3
      obtain ⟨x, x1, x2, x3⟩ := (hL.2.1 v).mp ⟨z, h1, by omega, h3⟩
      exact ⟨x, x1, by omega, x3⟩
    · rw [if_neg q] at h3
      by_cases qe : z = j
      · rw [if_pos qe] at h3; exact ⟨P, hP, by omega, h3⟩
      · rw [if_neg qe] at h3
        obtain ⟨x, x1, x2, x3⟩ := (hL.2.1 v).mp ⟨z - 1, by omega, by omega, h3⟩
        exact ⟨x, x1, by omega, x3⟩
  · rintro ⟨x, h1, h2, h3⟩
    by_cases q : x = P
    · subst q; exact ⟨j, hj.1, by omega, by rw [zu_self]; exact h3⟩
    · obtain ⟨z, z1, z2, z3⟩ := (hL.2.1 v).mpr ⟨x, h1, by omega, h3⟩
      by_cases qz : z < j
      · exact ⟨z, z1, by omega, by rw [hv z z1 (by omega), if_pos qz]; exact z3⟩
      · exact ⟨z + 1, by omega, by omega, by rw [hv (z + 1) (by omega) (by omega), if_neg (by omega), if_neg (by omega), show z + 1 - 1 = z by omega]; exact z3⟩
theorem zsh2 {f h : Int → Int} {j c : Int} (hh : ∀ z, h z = if j < z ∧ z ≤ c then f (z - 1) else f z) (hj : 0 < j ∧ j ≤ c) : ∀ z, (zu h j (h (j - 1))) z = if j - 1 < z ∧ z ≤ c then f (z - 1) else f z := fun z => by
  by_cases q : z = j
  · subst q; rw [zu_self, hh, if_neg (by omega), if_pos (by omega)]
  · rw [zu_ne _ _ q, hh]
    by_cases q2 : j < z ∧ z ≤ c
    · rw [if_pos q2, if_pos (by omega)]
    · rw [if_neg q2, if_neg (by omega)]
/-- a labelling of the crossings that is the same along each edge -/
def zEc (lb : Int → Int) (P : Int) (L : Int → Int) : Prop := ∀ a b, 0 ≤ a → a < P → 0 ≤ b → b < P → lb a = lb b → L (a / 4) = L (b / 4)
def zHs (lb : Int → Int) (n : Int) (g : Int → Int) : Prop := (∀ k, 0 ≤ k → k < n → 0 ≤ g k ∧ g k ≤ k) ∧ ∀ L, zEc lb (4 * n) L → ∀ k, 0 ≤ k → k < n → L (g k) = L k
def zsg2 (g : Int → Int) (n : Int) : Int := zsum (fun i => g (i : Int)) n.toNat
theorem zHs_id {lb g : Int → Int} {n : Int} (h : ∀ k, 0 ≤ k → k < n → g k = k) : zHs lb n g := ⟨fun k h1 h2 => by rw [h k h1 h2]; omega, fun L _ k h1 h2 => by rw [h k h1 h2]⟩
theorem zsum_up {f : Nat → Int} {k : Nat} {v : Int} : ∀ {n : Nat}, k < n → zsum (fun i => if i = k then v else f i) n = zsum f n - f k + v := by
  intro n hk
  have h1 : zsum (fun i => (if i = k then v else f i)) n = zsum (fun i => f i + (if i = k then v - f k else 0)) n := zsum_congr (fun i _ => by by_cases q : i = k; subst q; rw [if_pos rfl, if_pos rfl]; omega; rw [if_neg q, if_neg q]; omega)
  rw [h1, zsum_add, zsum_pick (v - f k) hk]
  omega
theorem zHs_step {lb g : Int → Int} {n a b : Int} (h : zHs lb n g) (ha : 0 ≤ a ∧ a < 4 * n) (hb : 0 ≤ b ∧ b < 4 * n) (hl : lb a = lb b) (hg : g (a / 4) < g (b / 4)) : zHs lb n (zu g (b / 4) (g (a / 4))) ∧ zsg2 (zu g (b / 4) (g (a / 4))) n < zsg2 g n := by
  refine ⟨⟨fun k h1 h2 => ?_, fun L hL k h1 h2 => ?_⟩, ?_⟩
  · by_cases q : k = b / 4
    · subst q; rw [zu_self]; have h3 := h.1 (a / 4) (by omega) (by omega); have h4 := h.1 (b / 4) (by omega) (by omega); omega
    · rw [zu_ne _ _ q]; exact h.1 k h1 h2
  · by_cases q : k = b / 4
    · subst q; rw [zu_self, h.2 L hL (a / 4) (by omega) (by omega)]; exact hL a b ha.1 ha.2 hb.1 hb.2 hl
    · rw [zu_ne _ _ q]; exact h.2 L hL k h1 h2
  · unfold zsg2
    have h1 : zsum (fun i => zu g (b / 4) (g (a / 4)) (i : Int)) n.toNat = zsum (fun i => if i = (b / 4).toNat then g (a / 4) else g (i : Int)) n.toNat := zsum_congr (fun i _ => by
      by_cases q : i = (b / 4).toNat
      · rw [if_pos q, show (i : Int) = b / 4 by omega, zu_self]
      · rw [if_neg q, zu_ne _ _ (by omega)])
    rw [h1, zsum_up (f := fun i => g (i : Int)) (by omega), show ((b / 4).toNat : Int) = b / 4 by omega]
    omega
theorem zsg2_nn {lb g : Int → Int} {n : Int} (h : zHs lb n g) : 0 ≤ zsg2 g n := by
  have h1 : zsum (fun _ => 0) n.toNat ≤ zsum (fun i => g (i : Int)) n.toNat := zsum_le (fun i hi => (h.1 i (by omega) (by omega)).1)
  rw [zsum_zero (fun _ _ => rfl)] at h1
  exact h1
/-- the pieces, by their first crossings -/
def zHg (lb : Int → Int) (n : Int) (g : Int → Int) : Prop := zHs lb n g ∧ zEc lb (4 * n) g
theorem zis_step1 {iz j x : Int} {f : Int → Int} (h : iz = 1 ↔ ∃ z, 0 ≤ z ∧ z < j ∧ f z = x) (hj : 0 ≤ j) (hy : iz = 1 ∨ f j = x) : (1 : Int) = 1 ↔ ∃ z, 0 ≤ z ∧ z < j + 1 ∧ f z = x := by
  refine ⟨fun _ => ?_, fun _ => rfl⟩
  rcases hy with hy | hy
  · obtain ⟨z, h1, h2, h3⟩ := h.mp hy; exact ⟨z, h1, by omega, h3⟩
  · exact ⟨j, hj, by omega, hy⟩
theorem zis_step0 {j x : Int} {f : Int → Int} {iz : Int} (h : iz = 1 ↔ ∃ z, 0 ≤ z ∧ z < j ∧ f z = x) (hz : ¬ iz = 1) (hy : ¬ f j = x) : (0 : Int) = 1 ↔ ∃ z, 0 ≤ z ∧ z < j + 1 ∧ f z = x := by
  refine ⟨fun z => by omega, fun ⟨z, h1, h2, h3⟩ => ?_⟩
  by_cases q : z = j
  · subst q; exact absurd h3 hy
  · exact absurd (h.mpr ⟨z, h1, by omega, h3⟩) hz
