/-- the old place of a new one -/
abbrev zop (k x : Int) : Int := if 4 * k ≤ x then x + 4 else x
/-- what a label becomes -/
def zro (li uo up lo v : Int) : Int := if (if v = max li uo then min li uo else v) = max up lo then min up lo else (if v = max li uo then min li uo else v)
theorem zro_eq {li uo up lo v w : Int} (h1 : ¬ li = lo) (h2 : ¬ li = up) (h3 : ¬ uo = lo) (h4 : ¬ uo = up) (h : zro li uo up lo v = zro li uo up lo w) : v = w ∨ (v = li ∧ w = uo) ∨ (v = uo ∧ w = li) ∨ (v = up ∧ w = lo) ∨ (v = lo ∧ w = up) := by
  unfold zro at h
  (repeat' split at h) <;> omega
theorem zro_1 (li uo up lo : Int) (h1 : ¬ li = lo) (h2 : ¬ li = up) (h3 : ¬ uo = lo) (h4 : ¬ uo = up) : zro li uo up lo li = zro li uo up lo uo ∧ zro li uo up lo up = zro li uo up lo lo := by
  unfold zro
  constructor <;> (repeat' split) <;> omega
/-- the four labels of a crossing -/
theorem zfour {sg lb : Int → Int} {n k : Int} (hk : 0 ≤ k ∧ k < n) (hs : sg k = 1 ∨ sg k = -1) (hG : zGd sg lb (4 * n)) (hH : zHt sg lb n) : (zki sg (4 * k) = 0 ∧ zki sg (4 * k + 2) = 1 ∧ zki sg (4 * k + zup (sg k)) = 0 ∧ zki sg (4 * k + zuo (sg k)) = 1) ∧ (¬ lb (4 * k) = lb (4 * k + 2)) ∧ (¬ lb (4 * k) = lb (4 * k + zup (sg k))) ∧ (¬ lb (4 * k + zuo (sg k)) = lb (4 * k + 2)) ∧ (¬ lb (4 * k + zuo (sg k)) = lb (4 * k + zup (sg k))) ∧ ((zup (sg k) = 3 ∧ zuo (sg k) = 1) ∨ (zup (sg k) = 1 ∧ zuo (sg k) = 3)) := by
  have ki := zki_4 sg k
  have hu := zHt_up hH hk
  have key : (zki sg (4 * k + zup (sg k)) = 0 ∧ zki sg (4 * k + zuo (sg k)) = 1) ∧ ((zup (sg k) = 3 ∧ zuo (sg k) = 1) ∨ (zup (sg k) = 1 ∧ zuo (sg k) = 3)) := by
    unfold zup zuo
    rcases hs with s | s <;> rw [s] at ki ⊢
    · rw [if_pos rfl, if_pos rfl]; rw [if_pos (by decide)] at ki; exact ⟨⟨by rw [ki.2.2.2]; rfl, ki.2.2.1⟩, Or.inl ⟨rfl, rfl⟩⟩
    · rw [if_neg (by decide), if_neg (by decide)]; rw [if_neg (by decide)] at ki; exact ⟨⟨ki.2.2.1, by rw [ki.2.2.2]; rfl⟩, Or.inr ⟨rfl, rfl⟩⟩
  refine ⟨⟨ki.1, ki.2.1, key.1.1, key.1.2⟩, hu.2, fun q => ?_, fun q => ?_, fun q => ?_, key.2⟩
  · have := hG.2 (4 * k) (4 * k + zup (sg k)) (by omega) (by omega) (by have := key.2; omega) (by have := key.2; omega) q (by rw [ki.1, key.1.1])
    have := key.2
    omega
  · have := hG.2 (4 * k + zuo (sg k)) (4 * k + 2) (by have := key.2; omega) (by have := key.2; omega) (by omega) (by omega) q (by rw [ki.2.1, key.1.2])
    have := key.2
    omega
  · rcases key.2 with ⟨e1, e2⟩ | ⟨e1, e2⟩ <;> rw [e1, e2] at q
    · exact hu.1 q
    · exact hu.1 q.symm
theorem zjs_ro {sg lb : Int → Int} {n k : Int} (hn : n ≤ 12) (hk : 0 ≤ k ∧ k < n) (hs : sg k = 1 ∨ sg k = -1) (hG : zGd sg lb (4 * n)) (hH : zHt sg lb n) : ∀ x, 0 ≤ x → x < 4 * (n - 1) → zjs sg lb n k x = zro (lb (4 * k)) (lb (4 * k + zuo (sg k))) (lb (4 * k + zup (sg k))) (lb (4 * k + 2)) (lb (zop k x)) := fun x h1 h2 => by
  obtain ⟨_, f1, f2, f3, f4, f5⟩ := zfour hk hs hG hH
  have e1 : ∀ y, 0 ≤ y → y < 48 → zj1 sg lb k y = if lb y = max (lb (4 * k)) (lb (4 * k + zuo (sg k))) then min (lb (4 * k)) (lb (4 * k + zuo (sg k))) else lb y := fun y y1 y2 => by
    show zmk lb (lb (4 * k)) (lb (4 * k + zuo (sg k))) y = _
    unfold zmk
    by_cases q : lb y = max (lb (4 * k)) (lb (4 * k + zuo (sg k)))
    · rw [if_pos ⟨y1, y2, q⟩, if_pos q]
    · rw [if_neg (fun z => q z.2.2), if_neg q]
  have e2 : zj1 sg lb k (4 * k + zup (sg k)) = lb (4 * k + zup (sg k)) := by rw [e1 _ (by omega) (by omega), if_neg (by omega)]
  have e3 : zj1 sg lb k (4 * k + 2) = lb (4 * k + 2) := by rw [e1 _ (by omega) (by omega), if_neg (by omega)]
  have e4 : ∀ y, 0 ≤ y → y < 48 → zj2 sg lb k y = zro (lb (4 * k)) (lb (4 * k + zuo (sg k))) (lb (4 * k + zup (sg k))) (lb (4 * k + 2)) (lb y) := fun y y1 y2 => by
    show zmk (zj1 sg lb k) (zj1 sg lb k (4 * k + zup (sg k))) (zj1 sg lb k (4 * k + 2)) y = _
    rw [e2, e3]
    unfold zmk zro
    rw [e1 y y1 y2]
    by_cases q : (if lb y = max (lb (4 * k)) (lb (4 * k + zuo (sg k))) then min (lb (4 * k)) (lb (4 * k + zuo (sg k))) else lb y) = max (lb (4 * k + zup (sg k))) (lb (4 * k + 2))
    · rw [if_pos ⟨y1, y2, q⟩, if_pos q]
    · rw [if_neg (fun z => q z.2.2), if_neg q]
  show zrl (zj2 sg lb k) n k x = _
  unfold zrl zop
  by_cases q : 4 * k ≤ x
  · rw [if_pos ⟨q, h2⟩, if_pos q]; exact e4 _ (by omega) (by omega)
  · rw [if_neg (fun z => q z.1), if_neg q]; exact e4 _ (by omega) (by omega)
/-- the model joins as the class does -/
theorem zSmo_eq {sg lb lb2 L : Int → Int} {n k cir cir' : Int} (hn : n ≤ 12) (hk : 0 ≤ k ∧ k < n) (hs : sg k = 1 ∨ sg k = -1) (hG : zGd sg lb (4 * n)) (hH : zHt sg lb n) (hl : ∀ x, 0 ≤ x → x < 4 * n → lb2 x = lb x) (h : zSmo (zot lb2 (4 * k) (4 * (n - 1)) 4) (4 * (n - 1)) (lb (4 * k)) (lb (4 * k + zuo (sg k))) (lb (4 * k + zup (sg k))) (lb (4 * k + 2)) cir cir' L) : cir' = cir + zcl sg lb k ∧ (∀ x, 0 ≤ x → x < 4 * (n - 1) → L x = zjs sg lb n k x) ∧ zmy (lb (4 * k)) (lb (4 * k + zuo (sg k))) (lb (4 * k + zup (sg k))) (lb (4 * k + 2)) = zcl sg lb k := by
  obtain ⟨_, f1, f2, f3, f4, f5⟩ := zfour hk hs hG hH
  have hro := zjs_ro hn hk hs hG hH
  have hL1 : ∀ x, 0 ≤ x → x < 4 * (n - 1) → zot lb2 (4 * k) (4 * (n - 1)) 4 x = lb (zop k x) := fun x h1 h2 => by
    unfold zot zop
    by_cases q : 4 * k ≤ x
    · rw [if_pos ⟨q, h2⟩, if_pos q]; exact hl _ (by omega) (by omega)
    · rw [if_neg (fun z => q z.1), if_neg q]; exact hl _ h1 (by omega)
  have hzc : zcl sg lb k = (if lb (4 * k) = lb (4 * k + zuo (sg k)) then 1 else 0) + (if lb (4 * k + zup (sg k)) = lb (4 * k + 2) then 1 else 0) := rfl
  generalize lb (4 * k) = li at *
  generalize lb (4 * k + zuo (sg k)) = uo at *
  generalize lb (4 * k + zup (sg k)) = up at *
  generalize lb (4 * k + 2) = lo at *
  obtain ⟨cir1, L2, c, d, hA, hB⟩ := h
  have hmm : ∀ a b : Int, zmx a b = max a b ∧ zmi a b = min a b := fun a b => by
    show (if a < b then b else a) = max a b ∧ (if a < b then a else b) = min a b
    split <;> omega
  have hz : zmy li uo up lo = zcl sg lb k := by rw [hzc]; unfold zmy; (repeat' split) <;> omega
  have hcd : c = up ∧ d = lo := by
    rcases hA with ⟨_, _, _, e1, e2⟩ | ⟨_, _, _, e1, e2⟩
    · exact ⟨e1, e2⟩
    · rw [(hmm li uo).1] at e1 e2
      rw [if_neg (by omega)] at e1 e2
      exact ⟨e1, e2⟩
  have hL2 : ∀ x, 0 ≤ x → x < 4 * (n - 1) → L2 x = if lb (zop k x) = max li uo then min li uo else lb (zop k x) := fun x h1 h2 => by
    rcases hA with ⟨e0, _, e1, _⟩ | ⟨e0, _, e1, _⟩
    · rw [e1, hL1 x h1 h2]; split <;> omega
    · rw [e1, (hmm li uo).1, (hmm li uo).2]
      unfold zrn
      rw [hL1 x h1 h2]
      by_cases q : lb (zop k x) = max li uo
      · rw [if_pos ⟨⟨h1, h2⟩, q⟩, if_pos q]
      · rw [if_neg (fun z => q z.2), if_neg q]
  refine ⟨?_, fun x h1 h2 => ?_, hz⟩
  · rw [hzc, ← hcd.1, ← hcd.2]
    rcases hA with ⟨e0, e1, _⟩ | ⟨e0, e1, _⟩ <;> rcases hB with ⟨g0, g1, _⟩ | ⟨g0, g1, _⟩
    · rw [if_pos e0, if_pos g0]; omega
    · rw [if_pos e0, if_neg g0]; omega
    · rw [if_neg e0, if_pos g0]; omega
    · rw [if_neg e0, if_neg g0]; omega
  · rw [hro x h1 h2]
    unfold zro
    rcases hB with ⟨g0, _, g1⟩ | ⟨g0, _, g1⟩
    · rw [g1, hL2 x h1 h2]
      rw [hcd.1, hcd.2] at g0
      generalize (if lb (zop k x) = max li uo then min li uo else lb (zop k x)) = y
      split <;> omega
    · rw [g1, hcd.1, hcd.2, (hmm up lo).1, (hmm up lo).2]
      unfold zrn
      rw [hL2 x h1 h2]
      generalize (if lb (zop k x) = max li uo then min li uo else lb (zop k x)) = y
      by_cases q : y = max up lo
      · rw [if_pos ⟨⟨h1, h2⟩, q⟩, if_pos q]
      · rw [if_neg (fun z => q z.2), if_neg q]
theorem zsmooth {sg lb : Int → Int} {n k : Int} (hn : n ≤ 12) (hk : 0 ≤ k ∧ k < n) (hs : sg k = 1 ∨ sg k = -1) (hG : zGd sg lb (4 * n)) (hH : zHt sg lb n) : zGd (zrs sg n k) (zjs sg lb n k) (4 * (n - 1)) ∧ zHt (zrs sg n k) (zjs sg lb n k) (n - 1) := by
  obtain ⟨⟨i0, i2, iu, io⟩, f1, f2, f3, f4, f5⟩ := zfour hk hs hG hH
  have hro := zjs_ro hn hk hs hG hH
  have hop : ∀ x, 0 ≤ x → x < 4 * (n - 1) → (0 ≤ zop k x ∧ zop k x < 4 * n) ∧ ¬ (4 * k ≤ zop k x ∧ zop k x < 4 * k + 4) := fun x h1 h2 => by unfold zop; split <;> omega
  have hsg : ∀ x, 0 ≤ x → x < 4 * (n - 1) → zrs sg n k (x / 4) = sg (zop k x / 4) := fun x h1 h2 => by
    unfold zrs zop
    by_cases q : 4 * k ≤ x
    · rw [if_pos (by omega), if_pos q, show (x + 4) / 4 = x / 4 + 1 by omega]
    · rw [if_neg (by omega), if_neg q]
  have hm : ∀ x, zop k x % 4 = x % 4 := fun x => by unfold zop; split <;> omega
  have hki : ∀ x, 0 ≤ x → x < 4 * (n - 1) → zki (zrs sg n k) x = zki sg (zop k x) := fun x h1 h2 => by rw [zki_m, zki_m, hsg x h1 h2, hm]
  have hinv : ∀ y, 0 ≤ y → y < 4 * n → ¬ (4 * k ≤ y ∧ y < 4 * k + 4) → ∃ x, (0 ≤ x ∧ x < 4 * (n - 1)) ∧ zop k x = y := fun y y1 y2 y3 => by
    by_cases q : y < 4 * k
    · exact ⟨y, by omega, if_neg (by omega)⟩
    · exact ⟨y - 4, by omega, by unfold zop; rw [if_pos (by omega)]; omega⟩
  have hopi : ∀ x y, zop k x = zop k y → x = y := fun x y h => by unfold zop at h; (repeat' split at h) <;> omega
  have r1 := zro_1 (lb (4 * k)) (lb (4 * k + zuo (sg k))) (lb (4 * k + zup (sg k))) (lb (4 * k + 2)) f1 f2 f3 f4
  -- a place with a label of the crossing's, elsewhere: it is of the other kind
  have hoth : ∀ y p, (0 ≤ y ∧ y < 4 * n) → ¬ (4 * k ≤ y ∧ y < 4 * k + 4) → (4 * k ≤ p ∧ p < 4 * k + 4) → lb y = lb p → ¬ zki sg y = zki sg p := fun y p hy hy2 hp he hke => by
    have := hG.2 y p hy.1 hy.2 (by omega) (by omega) he hke
    rw [this] at hy2
    exact hy2 hp
  -- the other end of a place at the crossing, where it isn't at the crossing
  have hend : ∀ p, (4 * k ≤ p ∧ p < 4 * k + 4) → ∃ w, 0 ≤ w ∧ w < 4 * n ∧ lb w = lb p ∧ ¬ zki sg w = zki sg p := fun p hp => hG.1 p (by omega) (by omega)
  have hcase : ∀ p, (4 * k ≤ p ∧ p < 4 * k + 4) → p = 4 * k ∨ p = 4 * k + 2 ∨ p = 4 * k + zup (sg k) ∨ p = 4 * k + zuo (sg k) := fun p hp => by omega
  -- through the crossing: p to q, the labels are joined
  have thr : ∀ y p q, (0 ≤ y ∧ y < 4 * n) → ¬ (4 * k ≤ y ∧ y < 4 * k + 4) → (4 * k ≤ p ∧ p < 4 * k + 4) → (4 * k ≤ q ∧ q < 4 * k + 4) → lb y = lb p → ¬ zki sg p = zki sg q → (∀ s, (4 * k ≤ s ∧ s < 4 * k + 4) → lb s = lb q → ¬ zki sg s = zki sg q → lb p = lb q) → ∃ w, (0 ≤ w ∧ w < 4 * n) ∧ ¬ (4 * k ≤ w ∧ w < 4 * k + 4) ∧ lb w = lb q ∧ ¬ zki sg w = zki sg y := fun y p q hy hy2 hp hq he hpq hno => by
    obtain ⟨w, w1, w2, w3, w4⟩ := hend q hq
    have k1 := zki_or sg y
    have k2 := zki_or sg p
    have k3 := zki_or sg q
    have k4 := zki_or sg w
    have k5 := hoth y p hy hy2 hp he
    refine ⟨w, ⟨w1, w2⟩, fun z => ?_, w3, by omega⟩
    have e := hno w z w3 w4
    -- then y's label stands at the crossing twice
    have := hG.2 y q hy.1 hy.2 (by omega) (by omega) (he.trans e) (by omega)
    rw [this] at hy2
    exact hy2 hq
  refine ⟨⟨fun x h1 h2 => ?_, fun x y x1 x2 y1 y2 he hke => ?_⟩, ?_⟩
  · obtain ⟨o1, o2⟩ := hop x h1 h2
    obtain ⟨w, w1, w2, w3, w4⟩ := hG.1 (zop k x) o1.1 o1.2
    have fin : ∀ w, (0 ≤ w ∧ w < 4 * n) → ¬ (4 * k ≤ w ∧ w < 4 * k + 4) → zro (lb (4 * k)) (lb (4 * k + zuo (sg k))) (lb (4 * k + zup (sg k))) (lb (4 * k + 2)) (lb w) = zro (lb (4 * k)) (lb (4 * k + zuo (sg k))) (lb (4 * k + zup (sg k))) (lb (4 * k + 2)) (lb (zop k x)) → ¬ zki sg w = zki sg (zop k x) → ∃ y, 0 ≤ y ∧ y < 4 * (n - 1) ∧ zjs sg lb n k y = zjs sg lb n k x ∧ ¬ zki (zrs sg n k) y = zki (zrs sg n k) x := fun w hw hw2 hr hkk => by
      obtain ⟨y, y1, y2⟩ := hinv w hw.1 hw.2 hw2
      exact ⟨y, y1.1, y1.2, by rw [hro y y1.1 y1.2, hro x h1 h2, y2]; exact hr, by rw [hki y y1.1 y1.2, hki x h1 h2, y2]; exact hkk⟩
    by_cases q : 4 * k ≤ w ∧ w < 4 * k + 4
    · rcases hcase w q with e | e | e | e <;> subst e
      · obtain ⟨z, z1, z2, z3, z4⟩ := thr (zop k x) (4 * k) (4 * k + zuo (sg k)) o1 o2 (by omega) (by omega) w3.symm (by omega) (fun s hs1 hs2 hs3 => by
          rcases hcase s hs1 with e | e | e | e
          · rw [e] at hs2; exact hs2
          · rw [e] at hs3; omega
          · rw [e] at hs2; exact absurd hs2.symm f4
          · rw [e] at hs3; omega)
        exact fin z z1 z2 (by rw [z3, ← w3]; exact r1.1.symm) z4
      · obtain ⟨z, z1, z2, z3, z4⟩ := thr (zop k x) (4 * k + 2) (4 * k + zup (sg k)) o1 o2 (by omega) (by omega) w3.symm (by omega) (fun s hs1 hs2 hs3 => by
          rcases hcase s hs1 with e | e | e | e
          · rw [e] at hs3; omega
          · rw [e] at hs2; exact hs2
          · rw [e] at hs3; omega
          · rw [e] at hs2; exact absurd hs2 f4)
        exact fin z z1 z2 (by rw [z3, ← w3]; exact r1.2) z4
      · obtain ⟨z, z1, z2, z3, z4⟩ := thr (zop k x) (4 * k + zup (sg k)) (4 * k + 2) o1 o2 (by omega) (by omega) w3.symm (by omega) (fun s hs1 hs2 hs3 => by
          rcases hcase s hs1 with e | e | e | e
          · rw [e] at hs2; exact absurd hs2 f1
          · rw [e] at hs3; omega
          · rw [e] at hs2; exact hs2
          · rw [e] at hs3; omega)
        exact fin z z1 z2 (by rw [z3, ← w3]; exact r1.2.symm) z4
      · obtain ⟨z, z1, z2, z3, z4⟩ := thr (zop k x) (4 * k + zuo (sg k)) (4 * k) o1 o2 (by omega) (by omega) w3.symm (by omega) (fun s hs1 hs2 hs3 => by
          rcases hcase s hs1 with e | e | e | e
          · rw [e] at hs3; omega
          · rw [e] at hs2; exact absurd hs2.symm f1
          · rw [e] at hs3; omega
          · rw [e] at hs2; exact hs2)
        exact fin z z1 z2 (by rw [z3, ← w3]; exact r1.1) z4
    · exact fin w ⟨w1, w2⟩ q (by rw [w3]) w4
  · obtain ⟨ox, ox2⟩ := hop x x1 x2
    obtain ⟨oy, oy2⟩ := hop y y1 y2
    rw [hro x x1 x2, hro y y1 y2] at he
    rw [hki x x1 x2, hki y y1 y2] at hke
    rcases zro_eq f1 f2 f3 f4 he with e | ⟨e1, e2⟩ | ⟨e1, e2⟩ | ⟨e1, e2⟩ | ⟨e1, e2⟩
    · exact hopi x y (hG.2 _ _ ox.1 ox.2 oy.1 oy.2 e hke)
    · have a := hoth (zop k x) (4 * k) ox ox2 (by omega) e1
      have b := hoth (zop k y) (4 * k + zuo (sg k)) oy oy2 (by omega) e2
      have c := zki_or sg (zop k x)
      omega
    · have a := hoth (zop k x) (4 * k + zuo (sg k)) ox ox2 (by omega) e1
      have b := hoth (zop k y) (4 * k) oy oy2 (by omega) e2
      have c := zki_or sg (zop k x)
      omega
    · have a := hoth (zop k x) (4 * k + zup (sg k)) ox ox2 (by omega) e1
      have b := hoth (zop k y) (4 * k + 2) oy oy2 (by omega) e2
      have c := zki_or sg (zop k x)
      omega
    · have a := hoth (zop k x) (4 * k + 2) ox ox2 (by omega) e1
      have b := hoth (zop k y) (4 * k + zup (sg k)) oy oy2 (by omega) e2
      have c := zki_or sg (zop k x)
      omega
  · obtain ⟨h, hh⟩ := hH
    refine ⟨fun i => if k ≤ i then h (i + 1) else h i, fun x y x1 x2 y1 y2 he => ?_⟩
    have hx : ∀ x, 0 ≤ x → x < 4 * (n - 1) → (if k ≤ x / 4 then h (x / 4 + 1) else h (x / 4)) + zcr4 (zrs sg n k (x / 4)) x = h (zop k x / 4) + zcr4 (sg (zop k x / 4)) (zop k x) := fun x h1 h2 => by
      rw [hsg x h1 h2]
      have e1 : zcr4 (sg (zop k x / 4)) x = zcr4 (sg (zop k x / 4)) (zop k x) := by unfold zcr4; rw [hm]
      rw [e1]
      congr 1
      unfold zop
      by_cases q : 4 * k ≤ x
      · rw [if_pos (by omega), if_pos q, show (x + 4) / 4 = x / 4 + 1 by omega]
      · rw [if_neg (by omega), if_neg q]
    show (if k ≤ x / 4 then h (x / 4 + 1) else h (x / 4)) + zcr4 (zrs sg n k (x / 4)) x = (if k ≤ y / 4 then h (y / 4 + 1) else h (y / 4)) + zcr4 (zrs sg n k (y / 4)) y
    rw [hx x x1 x2, hx y y1 y2]
    obtain ⟨ox, ox2⟩ := hop x x1 x2
    obtain ⟨oy, oy2⟩ := hop y y1 y2
    rw [hro x x1 x2, hro y y1 y2] at he
    -- at the crossing
    have cr := zcr_4 (sg k) k
    have hA : h (4 * k / 4) + zcr4 (sg (4 * k / 4)) (4 * k) = h ((4 * k + zuo (sg k)) / 4) + zcr4 (sg ((4 * k + zuo (sg k)) / 4)) (4 * k + zuo (sg k)) := by
      unfold zuo
      rcases hs with s | s <;> rw [s] at cr
      · rw [if_pos s, show 4 * k / 4 = k by omega, show (4 * k + 1) / 4 = k by omega, s, cr.1, cr.2.1]; rfl
      · rw [if_neg (by omega), show 4 * k / 4 = k by omega, show (4 * k + 3) / 4 = k by omega, s, cr.1, cr.2.2.2]; rfl
    have hB : h ((4 * k + zup (sg k)) / 4) + zcr4 (sg ((4 * k + zup (sg k)) / 4)) (4 * k + zup (sg k)) = h ((4 * k + 2) / 4) + zcr4 (sg ((4 * k + 2) / 4)) (4 * k + 2) := by
      unfold zup
      rcases hs with s | s <;> rw [s] at cr
      · rw [if_pos s, show (4 * k + 2) / 4 = k by omega, show (4 * k + 3) / 4 = k by omega, s, cr.2.2.1, cr.2.2.2]; rfl
      · rw [if_neg (by omega), show (4 * k + 2) / 4 = k by omega, show (4 * k + 1) / 4 = k by omega, s, cr.2.2.1, cr.2.1]; rfl
    have at1 := fun p (hp : 4 * k ≤ p ∧ p < 4 * k + 4) => hh (zop k x) p ox.1 ox.2 (by omega) (by omega)
    have at2 := fun p (hp : 4 * k ≤ p ∧ p < 4 * k + 4) => hh (zop k y) p oy.1 oy.2 (by omega) (by omega)
    rcases zro_eq f1 f2 f3 f4 he with e | ⟨e1, e2⟩ | ⟨e1, e2⟩ | ⟨e1, e2⟩ | ⟨e1, e2⟩
    · exact hh _ _ ox.1 ox.2 oy.1 oy.2 e
    · rw [at1 _ (by omega) e1, at2 _ (by omega) e2]; exact hA
    · rw [at1 _ (by omega) e1, at2 _ (by omega) e2]; exact hA.symm
    · rw [at1 _ (by omega) e1, at2 _ (by omega) e2]; exact hB
    · rw [at1 _ (by omega) e1, at2 _ (by omega) e2]; exact hB.symm
