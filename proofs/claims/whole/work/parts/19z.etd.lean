theorem zNum_uniq {ls : Int → Int} {c v r1 r2 : Int} (h1 : zNum ls c v r1) (h2 : zNum ls c v r2) : r1 = r2 := by
  rcases h1 with ⟨a1, a2, a3, a4⟩ | ⟨a1, a2⟩ <;> rcases h2 with ⟨b1, b2, b3, b4⟩ | ⟨b1, b2⟩
  · rcases Int.lt_trichotomy r1 r2 with q | q | q
    · exact absurd a3 (b4 r1 a1 q)
    · exact q
    · exact absurd b3 (a4 r2 b1 q)
  · exact absurd a3 (b2 r1 a1 a2)
  · exact absurd b3 (a2 r2 b1 b2)
  · rw [a1, b1]
theorem zG_keep {K : Nat → ClassId} {M M' : zq_M} {g o : Nat} {ra : Int → Nat} {F : Int → Int → Int} {x : Nat × List Value} (h : zG K M g ra F) (ho : M o = some (.inr x)) (hM : ∀ q, q ≠ o → M' q = M q) : zG K M' g ra F :=
  ⟨(hM _ (zq_ne h.1 ho (by simp))).trans h.1, fun i h1 h2 => (hM _ (zq_ne (h.2.1 i h1 h2) ho (by simp))).trans (h.2.1 i h1 h2), h.2.2⟩
/-- one row has changed, and one of another table -/
theorem zG_row {K : Nat → ClassId} {M M' : zq_M} {g : Nat} {ra rb : Int → Nat} {F : Int → Int → Int} {i : Int} {f y : Int → Int} {n : Nat} (h : zG K M g ra F) (hr : M' (ra i) = some (cI (K 0) 33 f)) (hy : M (rb i) = some (cI (K 0) n y)) (hM : ∀ q, q ≠ ra i → q ≠ rb i → M' q = M q) (h1 : 0 ≤ i) (h2 : i < 12) (hd : ∀ k, 0 ≤ k → k < 12 → ra k ≠ rb i) : zG K M' g ra (zu F i f) := by
  refine ⟨(hM _ (zq_ne h.1 (h.2.1 i h1 h2) (by simp)) (zq_ne h.1 hy (by simp))).trans h.1, fun k k1 k2 => ?_, h.2.2⟩
  by_cases q : k = i
  · rw [q, zu_self]; exact hr
  · rw [zu_ne _ _ q]
    exact (hM _ (fun z => q (h.2.2 k i k1 k2 h1 h2 z)) (hd k k1 k2)).trans (h.2.1 k k1 k2)
/-- the matrix's row of a crossing: constants, slopes; N x: the number of the arc at place x -/
def zrc (sg N : Int → Int) (k : Int) : Int → Int := fun j => (if j = (if sg k = 1 then N (4 * k + 2) else N (4 * k)) then -1 else 0) + (if j = N (4 * k + zup (sg k)) then 1 else 0)
def zrt (sg N : Int → Int) (k : Int) : Int → Int := fun j => (if j = (if sg k = 1 then N (4 * k) else N (4 * k + 2)) then 1 else 0) + (if j = N (4 * k + zup (sg k)) then -1 else 0)
theorem zrow_c {sg N : Int → Int} {k a1 a2 a3 : Int} (h2 : a2 = (if sg k = 1 then N (4 * k + 2) else N (4 * k))) (h3 : a3 = N (4 * k + zup (sg k))) : zu (zu (zu (fun _ => 0) a1 ((fun _ => 0) a1 + 0)) a2 ((zu (fun _ => 0) a1 ((fun _ => 0) a1 + 0)) a2 + (-1))) a3 ((zu (zu (fun _ => 0) a1 ((fun _ => 0) a1 + 0)) a2 ((zu (fun _ => 0) a1 ((fun _ => 0) a1 + 0)) a2 + (-1))) a3 + 1) = zrc sg N k := by
  funext j
  unfold zrc
  rw [← h2, ← h3]
  simp only [zu]
  (repeat' split) <;> omega
theorem zrow_t {sg N : Int → Int} {k a1 a2 a3 : Int} (h1 : a1 = (if sg k = 1 then N (4 * k) else N (4 * k + 2))) (h3 : a3 = N (4 * k + zup (sg k))) : zu (zu (zu (fun _ => 0) a1 ((fun _ => 0) a1 + 1)) a2 ((zu (fun _ => 0) a1 ((fun _ => 0) a1 + 1)) a2 + 0)) a3 ((zu (zu (fun _ => 0) a1 ((fun _ => 0) a1 + 1)) a2 ((zu (fun _ => 0) a1 ((fun _ => 0) a1 + 1)) a2 + 0)) a3 + (-1)) = zrt sg N k := by
  funext j
  unfold zrt
  rw [← h1, ← h3]
  simp only [zu]
  (repeat' split) <;> omega
theorem zrw_step {F F1 T : Int → Int → Int} {i : Int} {f : Int → Int} (h : ∀ k, F1 k = if 0 ≤ k ∧ k < i then T k else F k) (hi : 0 ≤ i) (hf : f = T i) : ∀ k, zu F1 i f k = if 0 ≤ k ∧ k < i + 1 then T k else F k := by
  intro k
  by_cases q : k = i
  · rw [q, zu_self, if_pos (by omega), hf]
  · rw [zu_ne _ _ q, h]
    by_cases z : 0 ≤ k ∧ k < i
    · rw [if_pos z, if_pos (by omega)]
    · rw [if_neg z, if_neg (by omega)]
