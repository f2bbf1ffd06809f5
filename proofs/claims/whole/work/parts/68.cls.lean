/-- the class's least labels are the arcs' -/
theorem zja_ao {sg lb t0 : Int → Int} {n : Int} (hn : 0 ≤ n) (ht : ∀ z, 0 ≤ z → z < 4 * n → t0 z = lb z) : ∀ x, 0 ≤ x → x < 4 * n → zAo lb (4 * n) (lb x) (zja sg t0 (4 * n) n.toNat x) := by
  have key : ∀ k : Nat, (k : Int) ≤ n → (∀ x, 0 ≤ x → x < 4 * n → ∃ y, 0 ≤ y ∧ y < 4 * n ∧ lb y = zja sg t0 (4 * n) k x) ∧ (∀ L, zLv lb (4 * n) L → ∀ x, 0 ≤ x → x < 4 * n → L (zja sg t0 (4 * n) k x) = L (lb x)) ∧ (∀ x y, 0 ≤ x → x < 4 * n → 0 ≤ y → y < 4 * n → lb x = lb y → zja sg t0 (4 * n) k x = zja sg t0 (4 * n) k y) ∧ (∀ x, 0 ≤ x → x < 4 * n → zja sg t0 (4 * n) k x ≤ lb x) ∧ ∀ i : Int, 0 ≤ i → i < (k : Int) → zja sg t0 (4 * n) k (4 * i + 1) = zja sg t0 (4 * n) k (4 * i + 3) := by
    intro k
    induction k with
    | zero =>
      intro _
      refine ⟨fun x h1 h2 => ⟨x, h1, h2, (ht x h1 h2).symm⟩, fun L _ x h1 h2 => by show L (t0 x) = _; rw [ht x h1 h2], fun x y h1 h2 h3 h4 he => by show t0 x = t0 y; rw [ht x h1 h2, ht y h3 h4, he], fun x h1 h2 => by show t0 x ≤ _; rw [ht x h1 h2]; exact Int.le_refl _, fun i h1 h2 => by omega⟩
    | succ k ih =>
      intro hk
      obtain ⟨a1, a2, a3, a4, a5⟩ := ih (by omega)
      -- the two ends of the upper strand
      obtain ⟨u, w, hu, hw, huw⟩ : ∃ u w : Int, (zup (sg (k : Int)) = u ∧ zuo (sg (k : Int)) = w) ∧ ((u = 1 ∧ w = 3) ∨ (u = 3 ∧ w = 1)) ∧ True := by
        unfold zup zuo
        by_cases s : sg (k : Int) = 1
        · exact ⟨3, 1, ⟨if_pos s, if_pos s⟩, Or.inr ⟨rfl, rfl⟩, trivial⟩
        · exact ⟨1, 3, ⟨if_neg s, if_neg s⟩, Or.inl ⟨rfl, rfl⟩, trivial⟩
      have hst : ∀ x, zja sg t0 (4 * n) (k + 1) x = zmp (zja sg t0 (4 * n) k) (4 * n) (zja sg t0 (4 * n) k (4 * k + u)) (zja sg t0 (4 * n) k (4 * k + w)) x := fun x => by
        show zmp (zja sg t0 (4 * n) k) (4 * n) (zja sg t0 (4 * n) k (4 * k + zup (sg k))) (zja sg t0 (4 * n) k (4 * k + zuo (sg k))) x = _
        rw [hu.1, hu.2]
      generalize hA : zja sg t0 (4 * n) k (4 * k + u) = A at hst
      generalize hB : zja sg t0 (4 * n) k (4 * k + w) = B at hst
      have hru : 0 ≤ 4 * (k : Int) + u ∧ 4 * (k : Int) + u < 4 * n := by omega
      have hrw : 0 ≤ 4 * (k : Int) + w ∧ 4 * (k : Int) + w < 4 * n := by omega
      have hv : ∀ x, 0 ≤ x → x < 4 * n → (((zja sg t0 (4 * n) k x = A ∨ zja sg t0 (4 * n) k x = B) ∧ zja sg t0 (4 * n) (k + 1) x = min A B) ∨ (¬ (zja sg t0 (4 * n) k x = A ∨ zja sg t0 (4 * n) k x = B) ∧ zja sg t0 (4 * n) (k + 1) x = zja sg t0 (4 * n) k x)) := fun x h1 h2 => by
        rw [hst x]
        unfold zmp
        by_cases q : zja sg t0 (4 * n) k x = A ∨ zja sg t0 (4 * n) k x = B
        · refine Or.inl ⟨q, ?_⟩
          by_cases q2 : zja sg t0 (4 * n) k x = max A B
          · exact if_pos ⟨h1, h2, q2⟩
          · rw [if_neg (fun z => q2 z.2.2)]; omega
        · exact Or.inr ⟨q, if_neg (fun z => q (by have := z.2.2; omega))⟩
      have hmin : min A B = A ∨ min A B = B := by omega
      have hLAB : ∀ L, zLv lb (4 * n) L → L A = L B := fun L hL => by
        rw [← hA, ← hB, a2 L hL _ hru.1 hru.2, a2 L hL _ hrw.1 hrw.2]
        have e := hL (4 * (k : Int) + w) hrw.1 hrw.2 (by omega)
        rw [show zac (4 * (k : Int) + w) = 4 * k + u by unfold zac; omega] at e
        exact e
      refine ⟨fun x h1 h2 => ?_, fun L hL x h1 h2 => ?_, fun x y h1 h2 h3 h4 he => ?_, fun x h1 h2 => ?_, fun i h1 h2 => ?_⟩
      · rcases hv x h1 h2 with ⟨_, e⟩ | ⟨_, e⟩
        · rw [e]
          rcases hmin with m | m
          · rw [m, ← hA]; exact a1 _ hru.1 hru.2
          · rw [m, ← hB]; exact a1 _ hrw.1 hrw.2
        · rw [e]; exact a1 x h1 h2
      · rcases hv x h1 h2 with ⟨q, e⟩ | ⟨_, e⟩
        · rw [e, ← a2 L hL x h1 h2]
          have := hLAB L hL
          rcases hmin with m | m <;> rcases q with q | q <;> rw [m, q] <;> omega
        · rw [e]; exact a2 L hL x h1 h2
      · have e := a3 x y h1 h2 h3 h4 he
        rcases hv x h1 h2 with ⟨q, e1⟩ | ⟨q, e1⟩ <;> rcases hv y h3 h4 with ⟨p, e2⟩ | ⟨p, e2⟩
        · rw [e1, e2]
        · rw [e] at q; exact absurd q p
        · rw [← e] at p; exact absurd p q
        · rw [e1, e2]; exact e
      · have e := a4 x h1 h2
        rcases hv x h1 h2 with ⟨q, e1⟩ | ⟨q, e1⟩
        · rw [e1]; omega
        · rw [e1]; exact e
      · by_cases q : i = k
        · have e1 := hv (4 * (k : Int) + u) hru.1 hru.2
          have e2 := hv (4 * (k : Int) + w) hrw.1 hrw.2
          rw [hA] at e1
          rw [hB] at e2
          rcases e1 with ⟨_, e1⟩ | ⟨z, _⟩
          · rcases e2 with ⟨_, e2⟩ | ⟨z, _⟩
            · rcases hw with ⟨w1, w2⟩ | ⟨w1, w2⟩
              · rw [q, ← w1, ← w2, e1, e2]
              · rw [q, ← w1, ← w2, e1, e2]
            · exact absurd (Or.inr rfl) z
          · exact absurd (Or.inl rfl) z
        · have e := a5 i h1 (by omega)
          rcases hv (4 * i + 1) (by omega) (by omega) with ⟨q1, e1⟩ | ⟨q1, e1⟩ <;> rcases hv (4 * i + 3) (by omega) (by omega) with ⟨p, e2⟩ | ⟨p, e2⟩
          · rw [e1, e2]
          · rw [e] at q1; exact absurd q1 p
          · rw [← e] at p; exact absurd p q1
          · rw [e1, e2]; exact e
  obtain ⟨a1, a2, a3, a4, a5⟩ := key n.toNat (by omega)
  intro x h1 h2
  generalize zja sg t0 (4 * n) n.toNat = T at *
  obtain ⟨V, hV⟩ := Classical.axiomOfChoice (r := fun (v r : Int) => (r = 0 ∨ r = 1) ∧ (r = 1 ↔ ∃ y, 0 ≤ y ∧ y < 4 * n ∧ lb y = v ∧ T y = T x)) (fun v => by
    by_cases q : ∃ y, 0 ≤ y ∧ y < 4 * n ∧ lb y = v ∧ T y = T x
    · exact ⟨1, Or.inr rfl, ⟨fun _ => q, fun _ => rfl⟩⟩
    · exact ⟨0, Or.inl rfl, ⟨fun z => absurd z (by decide), fun z => absurd z q⟩⟩)
  have hVz : ∀ z, 0 ≤ z → z < 4 * n → (V (lb z) = 1 ↔ T z = T x) := fun z z1 z2 => by
    rw [(hV (lb z)).2]
    constructor
    · rintro ⟨y, y1, y2, y3, y4⟩; rw [← y4]; exact a3 z y z1 z2 y1 y2 y3.symm
    · intro q; exact ⟨z, z1, z2, rfl, q⟩
  refine ⟨a1 x h1 h2, fun L hL => a2 L hL x h1 h2, V, fun z z1 z2 z3 => ?_, (hVz x h1 h2).mpr rfl, fun y y1 y2 y3 => ?_⟩
  · have hac := zac_in (P := 4 * n) (by omega) ⟨z1, z2⟩
    have hT : T (zac z) = T z := by
      have e := a5 (z / 4) (by omega) (by omega)
      rcases (show z % 4 = 1 ∨ z % 4 = 3 by omega) with q | q
      · rw [show zac z = 4 * (z / 4) + 3 by unfold zac; omega, ← e, show 4 * (z / 4) + 1 = z by omega]
      · rw [show zac z = 4 * (z / 4) + 1 by unfold zac; omega, e, show 4 * (z / 4) + 3 = z by omega]
    have i1 := hVz z z1 z2
    have i2 := hVz _ hac.1 hac.2
    rw [hT] at i2
    have j1 := (hV (lb z)).1
    have j2 := (hV (lb (zac z))).1
    have i3 : V (lb (zac z)) = 1 ↔ V (lb z) = 1 := i2.trans i1.symm
    rcases j1 with j1 | j1 <;> rcases j2 with j2 | j2
    · rw [j1, j2]
    · exact absurd (i3.mp j2) (by rw [j1]; decide)
    · exact absurd (i3.mpr j1) (by rw [j2]; decide)
    · rw [j1, j2]
  · rw [← (hVz y y1 y2).mp y3]; exact a4 y y1 y2
theorem zAo_cg {lb lb' : Int → Int} {P y m : Int} (hP : P % 4 = 0) (hl : ∀ x, 0 ≤ x → x < P → lb x = lb' x) (h : zAo lb P y m) : zAo lb' P y m := by
  have hLv : ∀ L, zLv lb' P L → zLv lb P L := fun L hL x h1 h2 h3 => by
    have hac := zac_in hP ⟨h1, h2⟩
    rw [hl x h1 h2, hl _ hac.1 hac.2]; exact hL x h1 h2 h3
  have hLv2 : ∀ L, zLv lb P L → zLv lb' P L := fun L hL x h1 h2 h3 => by
    have hac := zac_in hP ⟨h1, h2⟩
    rw [← hl x h1 h2, ← hl _ hac.1 hac.2]; exact hL x h1 h2 h3
  obtain ⟨⟨x, x1, x2, x3⟩, a2, V, v1, v2, v3⟩ := h
  exact ⟨⟨x, x1, x2, (hl x x1 x2).symm.trans x3⟩, fun L hL => a2 L (hLv L hL), V, hLv2 V v1, v2, fun x h1 h2 h3 => by rw [← hl x h1 h2] at h3 ⊢; exact v3 x h1 h2 h3⟩
/-- two rows, both in order, of the same numbers -/
theorem zSr_eq {f g : Int → Int} {c d : Int} (hc : 0 ≤ c) (hd : 0 ≤ d) (hf : zSr f c) (hg : zSr g d) (h : ∀ v, (∃ j, 0 ≤ j ∧ j < c ∧ f j = v) ↔ ∃ j, 0 ≤ j ∧ j < d ∧ g j = v) : c = d ∧ ∀ j, 0 ≤ j → j < c → f j = g j := by
  have key : ∀ k : Nat, ∀ j : Int, 0 ≤ j → j < k → j < c → j < d → f j = g j := by
    intro k
    induction k with
    | zero => intro j h1 h2; omega
    | succ k ih =>
      intro j h1 h2 h3 h4
      have l1 : g j ≤ f j := by
        obtain ⟨i, i1, i2, i3⟩ := (h (f j)).mp ⟨j, h1, h3, rfl⟩
        by_cases q : i < j
        · have e := ih i i1 (by omega) (by omega) i2
          have := hf i j i1 q h3
          omega
        · by_cases q2 : i = j
          · rw [q2] at i3; omega
          · have := hg j i h1 (by omega) i2; omega
      have l2 : f j ≤ g j := by
        obtain ⟨i, i1, i2, i3⟩ := (h (g j)).mpr ⟨j, h1, h4, rfl⟩
        by_cases q : i < j
        · have e := ih i i1 (by omega) i2 (by omega)
          have := hg i j i1 q h4
          omega
        · by_cases q2 : i = j
          · rw [q2] at i3; omega
          · have := hf j i h1 (by omega) i2; omega
      omega
  have hcd : c = d := by
    by_cases q : c < d
    · obtain ⟨i, i1, i2, i3⟩ := (h (g c)).mpr ⟨c, hc, q, rfl⟩
      have e := key (i.toNat + 1) i i1 (by omega) i2 (by omega)
      have := hg i c i1 i2 q
      omega
    · by_cases q2 : d < c
      · obtain ⟨i, i1, i2, i3⟩ := (h (f d)).mp ⟨d, hd, q2, rfl⟩
        have e := key (i.toNat + 1) i i1 (by omega) (by omega) i2
        have := hf i d i1 i2 q2
        omega
      · omega
  exact ⟨hcd, fun j h1 h2 => key (j.toNat + 1) j h1 (by omega) h2 (by omega)⟩
/-- class and model read the same -/
theorem zRK {S : zSt} {sg lb al on tw av po : Int → Int} {arcs mns : Int} (hn : 0 ≤ S.n ∧ S.n ≤ 12) (hR : zRd S) (hK : zKn S.n S.cir sg lb arcs al on tw mns av po) (hsg : ∀ k, 0 ≤ k → k < S.n → sg k = S.sg k) (hlb : ∀ x, 0 ≤ x → x < 4 * S.n → lb x = S.lb x) (hs : ∀ k, 0 ≤ k → k < S.n → S.sg k = 1 ∨ S.sg k = -1) (hp : ∀ x, 0 ≤ x → x < 4 * S.n → 1 ≤ S.lb x) (hci : 0 ≤ S.cir) :
    arcs = S.cN + S.cir ∧ (∀ j, 0 ≤ j → j < arcs → S.ls0 j = al j) ∧ (∀ x, 0 ≤ x → x < 4 * S.n → zAo lb (4 * S.n) (lb x) (S.at0 x) ∧ 0 ≤ S.N x ∧ S.N x < S.cN ∧ S.ls0 (S.N x) = S.at0 x ∧ zNx lb (4 * S.n) al x (S.N x)) ∧ zFi sg S.N S.n on tw ∧ ∀ k, 0 ≤ k → k < S.n → ∀ a, S.F k a = zeO sg S.N k a ∧ S.G k a = zeT sg S.N k a := by
  obtain ⟨c0, N, k1, k2, k3, k4, k5, -⟩ := hK
  obtain ⟨t0, ht0, hat⟩ := hR.hat
  have hao : ∀ x, 0 ≤ x → x < 4 * S.n → zAo lb (4 * S.n) (lb x) (S.at0 x) := fun x h1 h2 => by
    rw [hat]
    refine zja_ao hn.1 (fun z z1 z2 => ?_) x h1 h2
    rw [ht0 z z1 z2, hlb z z1 z2]
  have hpos : ∀ x, 0 ≤ x → x < 4 * S.n → 1 ≤ S.at0 x := fun x h1 h2 => by
    obtain ⟨⟨y, y1, y2, y3⟩, _⟩ := hao x h1 h2
    rw [← y3, hlb y y1 y2]; exact hp y y1 y2
  have hset := zSr_eq hR.hcN.1 k1.2.2.1 hR.hS k1.1 (fun v => by
    rw [hR.hM v, k1.2.1 v]
    constructor
    · rintro ⟨x, x1, x2, x3⟩
      have := hao x x1 x2
      rw [x3] at this
      exact ⟨this.1, zAo_m this⟩
    · rintro ⟨⟨x, x1, x2, x3⟩, hz⟩
      rw [← x3] at hz
      exact ⟨x, x1, x2, (zAo_un (hao x x1 x2) hz).trans x3⟩)
  have hls : ∀ j, 0 ≤ j → j < S.cN → S.ls0 j = S.lN j := fun j h1 h2 => by rw [hR.hls]; exact if_neg (by omega)
  have hNum : ∀ x, 0 ≤ x → x < 4 * S.n → 0 ≤ S.N x ∧ S.N x < S.cN ∧ S.ls0 (S.N x) = S.at0 x ∧ zNx lb (4 * S.n) al x (S.N x) := fun x h1 h2 => by
    obtain ⟨n1, n2, n3⟩ := hR.hN x h1 h2
    rcases n3 with ⟨m1, m2, m3, m4⟩ | ⟨m1, _⟩
    · have hlt : S.N x < S.cN := Int.not_le.mp fun q => by
        have := hpos x h1 h2
        have e : S.ls0 (S.N x) = 0 := by rw [hR.hls]; exact if_pos ⟨q, n2⟩
        omega
      refine ⟨n1, hlt, m3, ⟨⟨n1, by have := hR.hcN; omega⟩, S.at0 x, hao x h1 h2, ?_, fun j j1 j2 => ?_⟩⟩
      · rw [← hset.2 _ n1 hlt, ← hls _ n1 hlt]; exact m3
      · rw [← hset.2 j j1 (by omega), ← hls j j1 (by omega)]; exact m4 j j1 j2
    · omega
  have hNN : ∀ x, 0 ≤ x → x < 4 * S.n → x % 4 ≠ 3 → S.N x = N x := fun x h1 h2 h3 => zNx_un (hNum x h1 h2).2.2.2 (k4 x h1 h2 h3) rfl
  refine ⟨by rw [k2, hset.1], fun j h1 h2 => ?_, fun x h1 h2 => ⟨hao x h1 h2, hNum x h1 h2⟩, ?_, fun k h1 h2 a => ?_⟩
  · by_cases q : j < S.cN
    · rw [hls j h1 q]; exact hset.2 j h1 q
    · rw [hR.hls, k3 j (by have := hset.1; omega) (by omega)]
      show (if S.cN ≤ j ∧ j < S.cN + S.cir then (0 : Int) else S.lN j) = 0
      exact if_pos ⟨by omega, by have := hset.1; omega⟩
  · refine ⟨fun z z1 z2 => ?_, fun z z1 z2 => ?_⟩
    · rw [k5.1 z z1 z2]
      by_cases q : z / 32 < S.n
      · rw [if_pos q, if_pos q]
        exact (zeO_eq fun y y1 y2 => (hNN y (by omega) (by omega) (by omega)).symm).1
      · rw [if_neg q, if_neg q]
    · rw [k5.2 z z1 z2]
      by_cases q : z / 32 < S.n
      · rw [if_pos q, if_pos q]
        exact (zeO_eq fun y y1 y2 => (hNN y (by omega) (by omega) (by omega)).symm).2
      · rw [if_neg q, if_neg q]
  · rw [hR.hF k h1 h2, hR.hG k h1 h2]
    unfold zrc zrt zeO zeT
    rw [hsg k h1 h2]
    have hov : S.N (4 * k + zup (S.sg k)) = S.N (4 * k + 1) := by
      unfold zup
      split
      · have e1 := (hNum (4 * k + 3) (by omega) (by omega)).2.2.2
        obtain ⟨b1, m, m1, m2, m3⟩ := (hNum (4 * k + 1) (by omega) (by omega)).2.2.2
        refine zNx_un e1 (⟨b1, m, zAo_ov (x := 4 * k + 3) (by rw [show zac (4 * k + 3) = 4 * k + 1 by unfold zac; omega]; exact m1) ⟨by omega, by omega⟩ (by omega), m2, m3⟩ : zNx lb (4 * S.n) al (4 * k + 3) (S.N (4 * k + 1))) rfl
      · rfl
    rw [hov]
    rcases hs k h1 h2 with s | s
    · rw [s]; exact ⟨by simp, by simp⟩
    · rw [s]; exact ⟨by simp, by simp⟩
