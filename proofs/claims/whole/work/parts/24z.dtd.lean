/-- the first row from n on whose polynomial in column n isn't 0 -/
def zFf (fc : Int → Int → Int) (n od r : Int) : Prop := n ≤ r ∧ r < od ∧ (∃ j, ¬ fc (r * 12 + n) j = 0) ∧ ∀ k, n ≤ k → k < r → ∀ j, fc (k * 12 + n) j = 0
abbrev zBp (fc1 : Int → Int → Int) (od n r : Int) (fc2 : Int → Int → Int) (o1 o2 : Int) : Prop := zFf fc1 n od r ∧ ((r = n ∧ fc2 = fc1 ∧ o2 = o1) ∨ (¬ r = n ∧ (fc2 = fun k => fc1 (zri r n k)) ∧ o2 = 1 - o1))
def zBq (fc : Int → Int → Int) (pv : Int → Int) (n od : Int) (Qt : Int → Int → Int → Int) (dQ : Int → Int → Int) : Prop := ∀ r c, n < r → r < od → n < c → c < od → zD (Qt r c) (dQ r c) ∧ dQ r c ≤ 12 ∧ zB (Qt r c) ∧ ∀ j, zcv (fc (n * 12 + n)) (fc (r * 12 + c)) j 25 - zcv (fc (r * 12 + n)) (fc (n * 12 + c)) j 25 = zcv (Qt r c) pv j 25
/-- Bareiss' elimination, n steps of it: the table, the last pivot, whether the rows' exchanges are odd -/
def zBr (fc0 : Int → Int → Int) (od : Int) : Nat → (Int → Int → Int) → (Int → Int) → Int → Prop
  | 0, fc, pv, o => fc = fc0 ∧ pv = zu (zu (fun _ => 0) 0 1) 1 0 ∧ o = 0
  | n + 1, fc, pv, o => ∃ fc1 pv1 o1 r fc2 Qt dQ, zBr fc0 od n fc1 pv1 o1 ∧ zBp fc1 od n r fc2 o1 o ∧ zBq fc2 pv1 n od Qt dQ ∧ fc = zup2 n od (n + 1) od Qt fc2 ∧ pv = fc2 (n * 12 + n)
theorem zFd_Ff {dg : Int → Int} {fc : Int → Int → Int} {n od r : Int} (h : zFd dg n od r) (hr : 0 ≤ r) (hn : 0 ≤ n ∧ od ≤ 12 ∧ n < od) (hd : ∀ i, 0 ≤ i → i < 144 → zD (fc i) (dg i)) : zFf fc n od r := by
  rcases h with ⟨h1, h2, h3, h4⟩ | ⟨h1, -⟩
  · refine ⟨h1, h2, ⟨_, (hd (r * 12 + n) (by omega) (by omega)).2.2.2.2 h3⟩, fun k k1 k2 j => ?_⟩
    have z := hd (k * 12 + n) (by omega) (by omega)
    have w := h4 k k1 k2
    by_cases q : dg (k * 12 + n) < j
    · exact z.2.2.1 j q
    · exact z.2.2.2.1 j (by omega)
  · omega
theorem zFd_no {dg : Int → Int} {fc : Int → Int → Int} {n od r : Int} (h : zFd dg n od r) (hr : r < 0) (hn : 0 ≤ n ∧ od ≤ 12 ∧ n < od) (hd : ∀ i, 0 ≤ i → i < 144 → zD (fc i) (dg i)) : ∀ k, n ≤ k → k < od → ∀ j, fc (k * 12 + n) j = 0 := by
  rcases h with ⟨h1, -⟩ | ⟨-, h4⟩
  · omega
  · intro k k1 k2 j
    have z := hd (k * 12 + n) (by omega) (by omega)
    have w := h4 k k1 k2
    by_cases q : dg (k * 12 + n) < j
    · exact z.2.2.1 j q
    · exact z.2.2.2.1 j (by omega)
theorem zD_one : zD (zu (zu (fun _ => 0) 0 1) 1 0) 0 := by
  refine ⟨by decide, by decide, fun j hj => ?_, fun j hj => ?_, fun _ => by decide⟩
  · by_cases q : j = 1
    · rw [q, zu_self]
    · rw [zu_ne _ _ q, zu_ne _ _ (by omega)]
  · rw [zu_ne _ _ (by omega), zu_ne _ _ (by omega)]
theorem zB_one : zB (zu (zu (fun _ => 0) 0 1) 1 0) := by
  intro j
  simp only [zu]
  (repeat' split) <;> omega
/-- what all 144 polynomials keep -/
def zPI (dg : Int → Int) (fc : Int → Int → Int) : Prop := ∀ i, 0 ≤ i → i < 144 → zD (fc i) (dg i) ∧ zB (fc i) ∧ dg i ≤ 12
theorem zPI_swp {dg : Int → Int} {fc : Int → Int → Int} {a b : Int} (h : zPI dg fc) (ha : 0 ≤ a ∧ a < 12) (hb : 0 ≤ b ∧ b < 12) : zPI (fun i => dg (zri a b i)) (fun i => fc (zri a b i)) := fun i h1 h2 => by
  have z := zri_in ha hb ⟨h1, h2⟩
  exact h _ z.1 z.2
theorem zPI_up2 {dg : Int → Int} {fc : Int → Int → Int} {n od : Int} {pv : Int → Int} {Qt : Int → Int → Int → Int} {dQ : Int → Int → Int} (h : zPI dg fc) (hQ : zBq fc pv n od Qt dQ) : zPI (zup2 n od (n + 1) od dQ dg) (zup2 n od (n + 1) od Qt fc) := fun i h1 h2 => by
  unfold zup2
  by_cases z : (n < i / 12 ∧ i / 12 < od ∧ n < i % 12 ∧ i % 12 < od) ∨ (i / 12 = od ∧ n < i % 12 ∧ i % 12 < n + 1)
  · simp only [if_pos z]
    obtain ⟨w1, w2, w3, -⟩ := hQ (i / 12) (i % 12) (by omega) (by omega) (by omega) (by omega)
    exact ⟨w1, w3, w2⟩
  · simp only [if_neg z]
    exact h i h1 h2
/-- the pool's addresses are those of the start -/
def zSb (pa qa pa1 qa1 : Int → Nat) : Prop := ∀ i, 0 ≤ i → i < 144 → ∃ j, 0 ≤ j ∧ j < 144 ∧ pa1 i = pa j ∧ qa1 i = qa j
theorem zSb_swp {pa qa pa1 qa1 : Int → Nat} {a b : Int} (h : zSb pa qa pa1 qa1) (ha : 0 ≤ a ∧ a < 12) (hb : 0 ≤ b ∧ b < 12) : zSb pa qa (fun i => pa1 (zri a b i)) (fun i => qa1 (zri a b i)) := fun i h1 h2 => by
  have z := zri_in ha hb ⟨h1, h2⟩
  exact h _ z.1 z.2
theorem zri_row {a b i n : Int} (h1 : n ≤ a) (h2 : n ≤ b) (h : n ≤ i / 12) (hi : 0 ≤ i) : n ≤ zri a b i / 12 := by
  unfold zri
  (repeat' split) <;> omega
/-- what evaluate answers: 0 where a step finds no pivot, else the last pivot with its sign -/
abbrev zBo (fc : Int → Int → Int) (od : Int) (res : Int → Int) : Prop := (∃ (n : Nat) (fc1 : Int → Int → Int) (pv : Int → Int) (o : Int), (n : Int) < od ∧ zBr fc od n fc1 pv o ∧ (∀ k, (n : Int) ≤ k → k < od → ∀ j, fc1 (k * 12 + n) j = 0) ∧ res = fun _ => 0) ∨ (∃ (fc1 : Int → Int → Int) (pv : Int → Int) (o : Int), zBr fc od od.toNat fc1 pv o ∧ res = fun j => (if o = 0 then 1 else -1) * pv j)
theorem zD_0 : zD (fun _ => 0) (-1) := ⟨by decide, by decide, fun _ _ => rfl, fun _ _ => rfl, fun h => absurd h (by decide)⟩
theorem zPG_keepR {K : Nat → ClassId} {M M' : zq_M} {cA rs qrs : Nat} {pa qa : Int → Nat} {dg : Int → Int} {fc : Int → Int → Int} {x : Nat × List Value} {g : Int → Int} (h : zPG K M cA pa qa dg fc) (h1 : M rs = some (.inr x)) (h2 : M qrs = some (cJ (K 1) 25 g)) (hd : ∀ i, 0 ≤ i → i < 144 → pa i ≠ rs ∧ qa i ≠ qrs) (hM : ∀ q, q ≠ rs → q ≠ qrs → M' q = M q) : zPG K M' cA pa qa dg fc :=
  ⟨(hM _ (zq_ne h.1 h1 (by simp)) (zq_ne h.1 h2 (by simp))).trans h.1, fun i i1 i2 => ⟨(hM _ (hd i i1 i2).1 (zq_ne (h.2.1 i i1 i2).1 h2 (by simp))).trans (h.2.1 i i1 i2).1, (hM _ (zq_ne (h.2.1 i i1 i2).2 h1 (by simp)) (hd i i1 i2).2).trans (h.2.1 i i1 i2).2⟩, h.2.2⟩
