theorem zac_in {x P : Int} (hP : P % 4 = 0) (h : 0 ≤ x ∧ x < P) : 0 ≤ zac x ∧ zac x < P := by unfold zac; omega
theorem zac_ac (x : Int) : zac (zac x) = x := by unfold zac; omega
theorem zac_2 (x : Int) : zac x % 2 = x % 2 := by unfold zac; omega
theorem zki_ac (sg : Int → Int) (x : Int) : zki sg (zac x) = 1 - zki sg x := by
  have e1 : zac x / 4 = x / 4 := by unfold zac; omega
  have e2 : zac x % 4 = (x + 2) % 4 := by unfold zac; omega
  have hq := zoq_or (sg (x / 4))
  show (if zoo (sg (zac x / 4)) (zac x) then (1 : Int) else 0) = 1 - (if zoo (sg (x / 4)) x then (1 : Int) else 0)
  rw [e1]
  by_cases h : zoo (sg (x / 4)) x
  · rw [if_pos h, if_neg (by unfold zoo at h ⊢; omega)]; omega
  · rw [if_neg h, if_pos (by unfold zoo at h ⊢; omega)]; omega
/-- L is the same on both sides of each upper strand -/
def zLv (lb : Int → Int) (P : Int) (L : Int → Int) : Prop := ∀ x, 0 ≤ x → x < P → x % 2 = 1 → L (lb (zac x)) = L (lb x)
/-- m is the least label of y's arc -/
def zAo (lb : Int → Int) (P y m : Int) : Prop := (∃ x, 0 ≤ x ∧ x < P ∧ lb x = m) ∧ (∀ L, zLv lb P L → L m = L y) ∧ ∃ V, zLv lb P V ∧ V y = 1 ∧ ∀ x, 0 ≤ x → x < P → V (lb x) = 1 → m ≤ lb x
theorem zAo_un {lb : Int → Int} {P y m m' : Int} (h : zAo lb P y m) (h' : zAo lb P y m') : m = m' := by
  obtain ⟨⟨x, x1, x2, x3⟩, a2, V, v1, v2, v3⟩ := h
  obtain ⟨⟨x', y1, y2, y3⟩, b2, V', w1, w2, w3⟩ := h'
  have e1 := w3 x x1 x2 (by rw [x3, a2 V' w1]; exact w2)
  have e2 := v3 x' y1 y2 (by rw [y3, b2 V v1]; exact v2)
  omega
/-- the labels are places of one world: same label, same kind: same place -/
theorem zGd_u {sg lb : Int → Int} {P x y : Int} (hG : zGd sg lb P) (hx : 0 ≤ x ∧ x < P) (hy : 0 ≤ y ∧ y < P) (hl : lb x = lb y) (hk : zki sg x = zki sg y) : x = y := hG.2 x y hx.1 hx.2 hy.1 hy.2 hl hk
def zBk (sg lb : Int → Int) (P p0 p : Int) (vs : Int → Int) : Prop :=
  (∀ x, vs x = 1 → (0 ≤ x ∧ x < P) ∧ zki sg x = 1) ∧ (vs p = 1 ∧ vs p0 = 1) ∧
  (∀ x, vs x = 1 → x = p0 ∨ ∃ q, vs q = 1 ∧ q ≠ p ∧ q % 2 = 1 ∧ lb (zac q) = lb x) ∧
  (∀ x, vs x = 1 → x ≠ p → x % 2 = 1) ∧ (∀ L, zLv lb P L → L (lb p) = L (lb p0)) ∧ ∀ x, vs x = 0 ∨ vs x = 1
def zCi (sg lb : Int → Int) (P p0 : Int) (vs : Int → Int) : Prop := (∀ x, vs x = 1 → (0 ≤ x ∧ x < P) ∧ zki sg x = 1 ∧ x % 2 = 1) ∧ vs p0 = 1 ∧ ∀ x, vs x = 1 → ∃ q, vs q = 1 ∧ lb (zac q) = lb x
theorem zBk_0 {sg lb : Int → Int} {P p : Int} (hp : 0 ≤ p ∧ p < P) (hk : zki sg p = 1) : zBk sg lb P p p (zu (fun _ => 0) p 1) := by
  have hv : ∀ x, zu (fun _ => (0 : Int)) p 1 x = 1 → x = p := fun x hx => by
    by_cases q : x = p
    · exact q
    · rw [zu_ne _ _ q] at hx; omega
  refine ⟨fun x hx => ?_, ⟨zu_self _ _ _, zu_self _ _ _⟩, fun x hx => Or.inl (hv x hx), fun x hx hn => absurd (hv x hx) hn, fun _ _ => rfl, fun x => ?_⟩
  · rw [hv x hx]; exact ⟨hp, hk⟩
  · by_cases q : x = p
    · right; rw [q]; exact zu_self _ _ _
    · left; exact zu_ne _ _ q
theorem zBk_step {sg lb vs : Int → Int} {P p0 p p' : Int} (hP : P % 4 = 0) (hG : zGd sg lb P) (h : zBk sg lb P p0 p vs) (hodd : p % 2 = 1) (hp' : 0 ≤ p' ∧ p' < P) (hl : lb p' = lb (zac p)) (hk : zki sg p' = 1) (hne : p' ≠ p0) : zBk sg lb P p0 p' (zu vs p' 1) ∧ vs p' = 0 := by
  obtain ⟨a1, a2, a3, a4, a5, a6⟩ := h
  have hpp := a1 p a2.1
  have hn : vs p' ≠ 1 := fun q => by
    rcases a3 p' q with e | ⟨w, w1, w2, w3, w4⟩
    · exact hne e
    · have hw := a1 w w1
      have e1 : zac w = zac p := zGd_u hG (zac_in hP hw.1) (zac_in hP hpp.1) (w4.trans hl) (by rw [zki_ac, zki_ac, hw.2, hpp.2])
      exact w2 (by rw [← zac_ac w, e1, zac_ac])
  have h0 : vs p' = 0 := by have := a6 p'; omega
  have hc : ∀ x, zu vs p' 1 x = 1 → x = p' ∨ vs x = 1 := fun x hx => by
    by_cases q : x = p'
    · exact Or.inl q
    · rw [zu_ne _ _ q] at hx; exact Or.inr hx
  have hm : ∀ x, vs x = 1 → x ≠ p' ∧ zu vs p' 1 x = 1 := fun x hx => by
    have q : x ≠ p' := fun e => by rw [e] at hx; omega
    exact ⟨q, by rw [zu_ne _ _ q]; exact hx⟩
  refine ⟨⟨fun x hx => ?_, ⟨zu_self _ _ _, (hm p0 a2.2).2⟩, fun x hx => ?_, fun x hx hn => ?_, fun L hL => ?_, fun x => ?_⟩, h0⟩
  · rcases hc x hx with q | q
    · rw [q]; exact ⟨hp', hk⟩
    · exact a1 x q
  · rcases hc x hx with q | q
    · exact Or.inr ⟨p, (hm p a2.1).2, (hm p a2.1).1, hodd, by rw [q, hl]⟩
    · rcases a3 x q with e | ⟨w, w1, w2, w3, w4⟩
      · exact Or.inl e
      · exact Or.inr ⟨w, (hm w w1).2, (hm w w1).1, w3, w4⟩
  · rcases hc x hx with q | q
    · exact absurd q hn
    · by_cases e : x = p
      · rw [e]; exact hodd
      · exact a4 x q e
  · rw [hl, hL p hpp.1.1 hpp.1.2 hodd]; exact a5 L hL
  · by_cases q : x = p'
    · right; rw [q]; exact zu_self _ _ _
    · rw [zu_ne _ _ q]; exact a6 x
theorem zBk_circle {sg lb vs : Int → Int} {P p0 p : Int} (h : zBk sg lb P p0 p vs) (hodd : p % 2 = 1) (hl : lb p0 = lb (zac p)) : zCi sg lb P p0 vs := by
  obtain ⟨a1, a2, a3, a4, a5, a6⟩ := h
  refine ⟨fun x hx => ⟨(a1 x hx).1, (a1 x hx).2, ?_⟩, a2.2, fun x hx => ?_⟩
  · by_cases e : x = p
    · rw [e]; exact hodd
    · exact a4 x hx e
  · rcases a3 x hx with e | ⟨w, w1, w2, w3, w4⟩
    · exact ⟨p, a2.1, by rw [e, hl]⟩
    · exact ⟨w, w1, w4⟩
/-- the way back: ends under, or has gone all round -/
def zBe (sg lb : Int → Int) (P p0 p : Int) (vs : Int → Int) : Prop := (p % 2 = 0 ∧ zBk sg lb P p0 p vs) ∨ (p = p0 ∧ zCi sg lb P p0 vs)
def zFw (sg lb : Int → Int) (P r0 r : Int) (vs : Int → Int) (le : Int) : Prop :=
  (∀ x, vs x = 1 → (0 ≤ x ∧ x < P) ∧ zki sg x = 0) ∧ (vs r = 1 ∧ vs r0 = 1) ∧
  (∀ x, vs x = 1 → x = r0 ∨ ∃ q, vs q = 1 ∧ q ≠ r ∧ q % 2 = 1 ∧ lb (zac q) = lb x) ∧
  (∀ x, vs x = 1 → x ≠ r → x % 2 = 1 ∧ ∃ w, vs w = 1 ∧ lb (zac x) = lb w) ∧ (∀ L, zLv lb P L → ∀ x, vs x = 1 → L (lb x) = L (lb r0)) ∧ (∀ x, vs x = 0 ∨ vs x = 1) ∧
  (∀ x, vs x = 1 → le ≤ lb x) ∧ ∃ x, vs x = 1 ∧ lb x = le
theorem zFw_0 {sg lb : Int → Int} {P p : Int} (hp : 0 ≤ p ∧ p < P) (hk : zki sg p = 0) : zFw sg lb P p p (zu (fun _ => 0) p 1) (lb p) := by
  have hv : ∀ x, zu (fun _ => (0 : Int)) p 1 x = 1 → x = p := fun x hx => by
    by_cases q : x = p
    · exact q
    · rw [zu_ne _ _ q] at hx; omega
  refine ⟨fun x hx => ?_, ⟨zu_self _ _ _, zu_self _ _ _⟩, fun x hx => Or.inl (hv x hx), fun x hx hn => absurd (hv x hx) hn, fun L _ x hx => by rw [hv x hx], fun x => ?_, fun x hx => by rw [hv x hx]; exact Int.le_refl _, p, zu_self _ _ _, rfl⟩
  · rw [hv x hx]; exact ⟨hp, hk⟩
  · by_cases q : x = p
    · right; rw [q]; exact zu_self _ _ _
    · left; exact zu_ne _ _ q
theorem zFw_step {sg lb vs : Int → Int} {P r0 r r' le le' : Int} (hP : P % 4 = 0) (hG : zGd sg lb P) (h : zFw sg lb P r0 r vs le) (hodd : r % 2 = 1) (hp' : 0 ≤ r' ∧ r' < P) (hl : lb r' = lb (zac r)) (hk : zki sg r' = 0) (hne : r' ≠ r0) (hle : (le' = le ∧ le ≤ lb r') ∨ (le' = lb r' ∧ lb r' < le)) : zFw sg lb P r0 r' (zu vs r' 1) le' ∧ vs r' = 0 := by
  obtain ⟨a1, a2, a3, a4, a5, a6, a7, xe, xe1, xe2⟩ := h
  have hpp := a1 r a2.1
  have hn : vs r' ≠ 1 := fun q => by
    rcases a3 r' q with e | ⟨w, w1, w2, w3, w4⟩
    · exact hne e
    · have hw := a1 w w1
      have e1 : zac w = zac r := zGd_u hG (zac_in hP hw.1) (zac_in hP hpp.1) (w4.trans hl) (by rw [zki_ac, zki_ac, hw.2, hpp.2])
      exact w2 (by rw [← zac_ac w, e1, zac_ac])
  have h0 : vs r' = 0 := by have := a6 r'; omega
  have hc : ∀ x, zu vs r' 1 x = 1 → x = r' ∨ vs x = 1 := fun x hx => by
    by_cases q : x = r'
    · exact Or.inl q
    · rw [zu_ne _ _ q] at hx; exact Or.inr hx
  have hm : ∀ x, vs x = 1 → x ≠ r' ∧ zu vs r' 1 x = 1 := fun x hx => by
    have q : x ≠ r' := fun e => by rw [e] at hx; omega
    exact ⟨q, by rw [zu_ne _ _ q]; exact hx⟩
  refine ⟨⟨fun x hx => ?_, ⟨zu_self _ _ _, (hm r0 a2.2).2⟩, fun x hx => ?_, fun x hx hn => ?_, fun L hL x hx => ?_, fun x => ?_, fun x hx => ?_, ?_⟩, h0⟩
  · rcases hc x hx with q | q
    · rw [q]; exact ⟨hp', hk⟩
    · exact a1 x q
  · rcases hc x hx with q | q
    · exact Or.inr ⟨r, (hm r a2.1).2, (hm r a2.1).1, hodd, by rw [q, hl]⟩
    · rcases a3 x q with e | ⟨w, w1, w2, w3, w4⟩
      · exact Or.inl e
      · exact Or.inr ⟨w, (hm w w1).2, (hm w w1).1, w3, w4⟩
  · rcases hc x hx with q | q
    · exact absurd q hn
    · by_cases e : x = r
      · rw [e]; exact ⟨hodd, r', zu_self _ _ _, hl.symm⟩
      · obtain ⟨b1, w, b2, b3⟩ := a4 x q e
        exact ⟨b1, w, (hm w b2).2, b3⟩
  · rcases hc x hx with q | q
    · rw [q, hl, hL r hpp.1.1 hpp.1.2 hodd]; exact a5 L hL r a2.1
    · exact a5 L hL x q
  · by_cases q : x = r'
    · right; rw [q]; exact zu_self _ _ _
    · rw [zu_ne _ _ q]; exact a6 x
  · rcases hc x hx with q | q
    · rw [q]; omega
    · have := a7 x q; omega
  · rcases hle with e | e
    · exact ⟨xe, (hm xe xe1).2, by omega⟩
    · exact ⟨r', zu_self _ _ _, e.1.symm⟩
/-- all that is gone through forward lies on the circle -/
def zFc (lb vs ws : Int → Int) : Prop := ∀ x, vs x = 1 → ∃ y, ws y = 1 ∧ lb y = lb x
theorem zFc_odd {sg lb ws vs : Int → Int} {P p0 x : Int} (hP : P % 4 = 0) (hG : zGd sg lb P) (hC : zCi sg lb P p0 ws) (hF : zFc lb vs ws) (hx : vs x = 1) (hr : 0 ≤ x ∧ x < P) (hk : zki sg x = 0) : x % 2 = 1 ∧ ∃ y, ws y = 1 ∧ lb y = lb (zac x) := by
  obtain ⟨y, y1, y2⟩ := hF x hx
  obtain ⟨q, q1, q2⟩ := hC.2.2 y y1
  have hq := hC.1 q q1
  have e : zac q = x := zGd_u hG (zac_in hP hq.1) hr (q2.trans y2) (by rw [zki_ac, hq.2.1, hk]; rfl)
  refine ⟨by rw [← e, zac_2]; exact hq.2.2, q, q1, by rw [← e, zac_ac]⟩
theorem zAo_of {sg lb bs vs : Int → Int} {P p0 p r0 r le y : Int} (hP : P % 4 = 0) (hG : zGd sg lb P) (hy : lb p0 = y) (hB : zBe sg lb P p0 p bs) (hFc : p = p0 → zCi sg lb P p0 bs → zFc lb vs bs) (hF : zFw sg lb P r0 r vs le) (hr0 : lb r0 = lb p) (hpk : zki sg p = 1) (hpr : 0 ≤ p ∧ p < P) (hend : r % 2 = 0 ∨ lb (zac r) = lb r0) : zAo lb P y le := by
  obtain ⟨a1, a2, a3, a4, a5, a6, a7, xe, xe1, xe2⟩ := hF
  have hLy : ∀ L, zLv lb P L → L (lb p) = L y := fun L hL => by
    rcases hB with ⟨b1, b2⟩ | ⟨b1, b2⟩
    · rw [← hy]; exact b2.2.2.2.2.1 L hL
    · rw [b1, hy]
  have hrr := a1 r a2.1
  -- the labels gone through
  obtain ⟨V, hV⟩ := Classical.axiomOfChoice (r := fun (v r : Int) => (r = 0 ∨ r = 1) ∧ (r = 1 ↔ ∃ x, vs x = 1 ∧ lb x = v)) (fun v => by
    by_cases q : ∃ x, vs x = 1 ∧ lb x = v
    · exact ⟨1, Or.inr rfl, ⟨fun _ => q, fun _ => rfl⟩⟩
    · exact ⟨0, Or.inl rfl, ⟨fun z => absurd z (by decide), fun z => absurd z q⟩⟩)
  have hV1 : ∀ v, V v = 1 ↔ ∃ x, vs x = 1 ∧ lb x = v := fun v => (hV v).2
  have hV0 : ∀ v, V v = 0 ∨ V v = 1 := fun v => (hV v).1
  -- u goes in, above
  have key : ∀ u, 0 ≤ u → u < P → u % 2 = 1 → zki sg u = 0 → (V (lb u) = 1 ↔ V (lb (zac u)) = 1) := fun u u1 u2 u3 u4 => by
    have hac := zac_in hP ⟨u1, u2⟩
    constructor
    · intro q
      obtain ⟨z, z1, z2⟩ := (hV1 _).mp q
      have hz := a1 z z1
      have e : z = u := zGd_u hG hz.1 ⟨u1, u2⟩ z2 (by rw [hz.2, u4])
      rw [e] at z1
      by_cases er : u = r
      · rcases hend with q2 | q2
        · omega
        · exact (hV1 _).mpr ⟨r0, a2.2, by rw [er, q2]⟩
      · obtain ⟨_, w, w1, w2⟩ := a4 u z1 er
        exact (hV1 _).mpr ⟨w, w1, w2.symm⟩
    · intro q
      obtain ⟨z, z1, z2⟩ := (hV1 _).mp q
      rcases a3 z z1 with e | ⟨q3, q4, q5, q6, q7⟩
      · -- back to the first
        have e3 : zac u = p := zGd_u hG hac hpr (by rw [← z2, e, hr0]) (by rw [zki_ac, u4, hpk]; rfl)
        rcases hB with ⟨b1, b2⟩ | ⟨b1, b2⟩
        · have := zac_2 u; omega
        · have ho := zFc_odd hP hG b2 (hFc b1 b2) a2.1 hrr.1 hrr.2
          rcases hend with q2 | q2
          · omega
          · have e4 : zac r = zac u := zGd_u hG (zac_in hP hrr.1) hac (by rw [q2, ← z2, e]) (by rw [zki_ac, zki_ac, u4, hrr.2])
            have e5 : r = u := by rw [← zac_ac r, e4, zac_ac]
            exact (hV1 _).mpr ⟨r, a2.1, by rw [e5]⟩
      · have hq := a1 q3 q4
        have e4 : zac q3 = zac u := zGd_u hG (zac_in hP hq.1) hac (q7.trans z2) (by rw [zki_ac, zki_ac, u4, hq.2])
        have e5 : q3 = u := by rw [← zac_ac q3, e4, zac_ac]
        exact (hV1 _).mpr ⟨q3, q4, by rw [e5]⟩
  have hVL : zLv lb P V := fun x x1 x2 x3 => by
    have hx := zac_in hP ⟨x1, x2⟩
    have i1 : V (lb (zac x)) = 1 ↔ V (lb x) = 1 := by
      rcases zki_or sg x with k | k
      · exact (key x x1 x2 x3 k).symm
      · have := key (zac x) hx.1 hx.2 (by rw [zac_2]; exact x3) (by rw [zki_ac, k]; rfl)
        rw [zac_ac] at this
        exact this
    have j1 := hV0 (lb (zac x))
    have j2 := hV0 (lb x)
    omega
  refine ⟨⟨xe, (a1 xe xe1).1.1, (a1 xe xe1).1.2, xe2⟩, fun L hL => ?_, V, hVL, ?_, fun x x1 x2 x3 => ?_⟩
  · rw [← xe2, a5 L hL xe xe1, hr0]; exact hLy L hL
  · rw [← hLy V hVL, ← hr0]; exact (hV1 _).mpr ⟨r0, a2.2, rfl⟩
  · obtain ⟨z, z1, z2⟩ := (hV1 _).mp x3
    rw [← z2]; exact a7 z z1
/-- how many are not marked -/
def znv (vs : Int → Int) : Int := zsum (fun i => if vs (i : Int) = 0 then 1 else 0) 48
theorem znv_nn (fo : Int → Int) : 0 ≤ znv fo := by
  have h1 : zsum (fun _ => 0) 48 ≤ zsum (fun i => if fo (i : Int) = 0 then 1 else 0) 48 := zsum_le (fun i hi => by split <;> omega)
  rw [zsum_zero (fun _ _ => rfl)] at h1
  exact h1
theorem znv_lt {fo : Int → Int} {k : Int} (hk : 0 ≤ k ∧ k < 48) (hn : fo k = 0) : znv (zu fo k 1) < znv fo := by
  unfold znv
  have h1 : zsum (fun i => if zu fo k 1 (i : Int) = 0 then (1 : Int) else 0) 48 = zsum (fun i => if i = k.toNat then 0 else if fo (i : Int) = 0 then 1 else 0) 48 := zsum_congr (fun i _ => by
    by_cases q : i = k.toNat
    · rw [if_pos q, show (i : Int) = k by omega, zu_self, if_neg (by decide)]
    · rw [if_neg q, zu_ne _ _ (by omega)])
  rw [h1, zsum_up (f := fun i => if fo (i : Int) = 0 then 1 else 0) (by omega), show ((k.toNat : Nat) : Int) = k by omega, if_pos hn]
  omega
/-- the model's object, and what of it is to be seen -/
def zMR (pS pL sg lb oS oL rw fo al : Int → Int) : Prop := ∀ j, inI (pS j) ∧ inI (pL j) ∧ inI (sg j) ∧ inI (lb j) ∧ inI (oS j) ∧ inI (oL j) ∧ inI (rw j) ∧ inI (fo j) ∧ inI (al j)
def zMK (K : Nat → ClassId) (M : zq_M) (o : Nat) (bd : Nat → Nat) (put : Int) (pS : Int → Int) (pL : Int → Int) (nn : Int) (cir : Int) (sg : Int → Int) (lb : Int → Int) (kn : Int) (arcs : Int) (al : Int → Int) (on : Int → Int) (tw : Int → Int) (mns : Int) (av : Int → Int) (po : Int → Int) : Prop := ∃ (th wr oN oC lbs fcs : Int) (oS oL rw fr pi fo sm le gd : Int → Int), M o = some (.inr (9, [.int (iI th), .int (iI put), .int (iI wr), .ref (bd 0), .ref (bd 1), .int (iI nn), .int (iI cir), .int (iI oN), .int (iI oC), .ref (bd 2), .ref (bd 3), .ref (bd 4), .ref (bd 5), .int (iI lbs), .ref (bd 6), .ref (bd 7), .ref (bd 8), .int (iI fcs), .ref (bd 9), .int (iI arcs), .ref (bd 10), .ref (bd 11), .ref (bd 12), .ref (bd 13), .int (iI mns), .ref (bd 14), .ref (bd 15), .ref (bd 16), .int (iI kn), .ref (bd 17)])) ∧ (∀ i j, i < 18 → j < 18 → bd i = bd j → i = j) ∧ M (bd 0) = some (cI (K 0) 12 pS) ∧ M (bd 1) = some (cI (K 0) 48 pL) ∧ M (bd 2) = some (cI (K 0) 12 sg) ∧ M (bd 3) = some (cI (K 0) 48 lb) ∧ M (bd 4) = some (cI (K 0) 12 oS) ∧ M (bd 5) = some (cI (K 0) 48 oL) ∧ M (bd 6) = some (cI (K 0) 48 rw) ∧ M (bd 7) = some (cI (K 0) 48 fr) ∧ M (bd 8) = some (cI (K 0) 12 pi) ∧ M (bd 9) = some (cI (K 0) 48 fo) ∧ M (bd 10) = some (cI (K 0) 40 al) ∧ M (bd 11) = some (cI (K 0) 384 on) ∧ M (bd 12) = some (cI (K 0) 384 tw) ∧ M (bd 13) = some (cJ (K 1) 114688 sm) ∧ M (bd 14) = some (cJ (K 1) 2100 av) ∧ M (bd 15) = some (cJ (K 1) 14 po) ∧ M (bd 16) = some (cJ (K 1) 28 le) ∧ M (bd 17) = some (cI (K 0) 384 gd) ∧ zMR pS pL sg lb oS oL rw fo al
/-- place x, arc number r -/
def zNx (lb : Int → Int) (P : Int) (al : Int → Int) (x r : Int) : Prop := (0 ≤ r ∧ r < 40) ∧ ∃ m, zAo lb P (lb x) m ∧ al r = m ∧ ∀ j, 0 ≤ j → j < r → ¬ al j = m
/-- the least labels of the arcs, in order -/
def zAl (lb : Int → Int) (P c : Int) (al : Int → Int) : Prop := zSr al c ∧ (∀ v, (∃ j, 0 ≤ j ∧ j < c ∧ al j = v) ↔ (∃ x, 0 ≤ x ∧ x < P ∧ lb x = v) ∧ zAo lb P v v) ∧ 0 ≤ c ∧ c ≤ 24
theorem zAo_m {lb : Int → Int} {P y m : Int} (h : zAo lb P y m) : zAo lb P m m := by
  obtain ⟨a1, a2, V, v1, v2, v3⟩ := h
  exact ⟨a1, fun _ _ => rfl, V, v1, (a2 V v1).trans v2, v3⟩
theorem zAl_ex {lb al : Int → Int} {P c y m : Int} (h : zAl lb P c al) (hm : zAo lb P y m) : ∃ j, 0 ≤ j ∧ j < c ∧ al j = m := (h.2.1 m).mpr ⟨hm.1, zAo_m hm⟩
theorem zNx_lt {lb al : Int → Int} {P c x r : Int} (h : zAl lb P c al) (hr : zNx lb P al x r) : 0 ≤ r ∧ r < c := by
  obtain ⟨h1, m, m1, m2, m3⟩ := hr
  obtain ⟨j, j1, j2, j3⟩ := zAl_ex h m1
  refine ⟨h1.1, Int.not_le.mp fun q => m3 j j1 (by omega) j3⟩
def zAs (lb f : Int → Int) (P i c : Int) (g : Int → Int) : Prop := zSr g c ∧ (∀ v, (∃ j, 0 ≤ j ∧ j < c ∧ g j = v) ↔ ∃ z, 0 ≤ z ∧ z < i ∧ f z = v ∧ zAo lb P v v) ∧ (0 ≤ c ∧ c ≤ i) ∧ ∀ j, inI (g j)
theorem zAs_no {lb f g : Int → Int} {P i c m : Int} (h : zAs lb f P i c g) (hi : 0 ≤ i) (hm : zAo lb P (f i) m) (hne : ¬ m = f i) : zAs lb f P (i + 1) c g := by
  refine ⟨h.1, fun v => ?_, by have := h.2.2.1; omega, h.2.2.2⟩
  rw [h.2.1 v]
  constructor
  · rintro ⟨z, z1, z2, z3⟩; exact ⟨z, z1, by omega, z3⟩
  · rintro ⟨z, z1, z2, z3, z4⟩
    by_cases q : z = i
    · rw [q] at z3; rw [← z3] at z4; exact absurd (zAo_un hm z4) hne
    · exact ⟨z, z1, by omega, z3, z4⟩
theorem zAs_yes {lb f g : Int → Int} {P i c n : Int} (h : zAs lb f P i c g) (hi : 0 ≤ i ∧ i < n) (hf : zSr f n) (hm : zAo lb P (f i) (f i)) (hin : inI (f i)) : zAs lb f P (i + 1) (c + 1) (zu g c (f i)) := by
  have hc := h.2.2.1
  have hlt : ∀ j, 0 ≤ j → j < c → g j < f i := fun j h1 h2 => by
    obtain ⟨z, z1, z2, z3, _⟩ := (h.2.1 (g j)).mp ⟨j, h1, h2, rfl⟩
    rw [← z3]; exact hf z i z1 z2 hi.2
  refine ⟨fun a b h1 h2 h3 => ?_, fun v => ⟨?_, ?_⟩, by omega, zu_in h.2.2.2 hin⟩
  · rw [zu_ne _ _ (show a ≠ c by omega)]
    by_cases q : b = c
    · rw [q, zu_self]; exact hlt a h1 (by omega)
    · rw [zu_ne _ _ q]; exact h.1 a b h1 h2 (by omega)
  · rintro ⟨j, j1, j2, j3⟩
    by_cases q : j = c
    · rw [q, zu_self] at j3; exact ⟨i, hi.1, by omega, j3, by rw [← j3]; exact hm⟩
    · rw [zu_ne _ _ q] at j3
      obtain ⟨z, z1, z2, z3, z4⟩ := (h.2.1 v).mp ⟨j, j1, by omega, j3⟩
      exact ⟨z, z1, by omega, z3, z4⟩
  · rintro ⟨z, z1, z2, z3, z4⟩
    by_cases q : z = i
    · exact ⟨c, hc.1, by omega, by rw [zu_self, ← z3, q]⟩
    · obtain ⟨j, j1, j2, j3⟩ := (h.2.1 v).mpr ⟨z, z1, by omega, z3, z4⟩
      exact ⟨j, j1, by omega, by rw [zu_ne _ _ (by omega)]; exact j3⟩
theorem zAs_end {lb f g g' : Int → Int} {P n c : Int} (h : zAs lb f P n c g) (hL : zLs lb P f n) (hn : n ≤ 24) (he : ∀ z, 0 ≤ z → z < c → g' z = g z) : zAl lb P c g' := by
  refine ⟨fun a b h1 h2 h3 => ?_, fun v => ?_, h.2.2.1.1, by have := h.2.2.1.2; omega⟩
  · rw [he a h1 (by omega), he b (by omega) h3]; exact h.1 a b h1 h2 h3
  · have e1 : (∃ j, 0 ≤ j ∧ j < c ∧ g' j = v) ↔ ∃ j, 0 ≤ j ∧ j < c ∧ g j = v := by
      constructor
      · rintro ⟨j, j1, j2, j3⟩; exact ⟨j, j1, j2, by rw [← he j j1 j2]; exact j3⟩
      · rintro ⟨j, j1, j2, j3⟩; exact ⟨j, j1, j2, by rw [he j j1 j2]; exact j3⟩
    rw [e1, h.2.1 v, ← hL.2.1 v]
    constructor
    · rintro ⟨z, z1, z2, z3, z4⟩; exact ⟨⟨z, z1, z2, z3⟩, z4⟩
    · rintro ⟨⟨z, z1, z2, z3⟩, z4⟩; exact ⟨z, z1, z2, z3, z4⟩
theorem zup_r {f g : Int → Int} {c i v : Int} (h : ∀ z, g z = if c ≤ z ∧ z < c + i then v else f z) (hi : 0 ≤ i) : ∀ z, zu g (c + i) v z = if c ≤ z ∧ z < c + (i + 1) then v else f z := fun z => by
  by_cases q : z = c + i
  · subst q; rw [zu_self, if_pos (by omega)]
  · rw [zu_ne _ _ q, h]
    by_cases q2 : c ≤ z ∧ z < c + i
    · rw [if_pos q2, if_pos (by omega)]
    · rw [if_neg q2, if_neg (by omega)]
/-- the rows of the model's matrix -/
def zeO (sg N : Int → Int) (k a : Int) : Int := (if a = (if 0 < sg k then N (4 * k + 2) else N (4 * k)) then -1 else 0) + (if a = N (4 * k + 1) then 1 else 0)
def zeT (sg N : Int → Int) (k a : Int) : Int := (if a = (if 0 < sg k then N (4 * k) else N (4 * k + 2)) then 1 else 0) + (if a = N (4 * k + 1) then -1 else 0)
theorem zeO_bd (sg N : Int → Int) (k a : Int) : -1 ≤ zeO sg N k a ∧ zeO sg N k a ≤ 1 := by
  have h : ∀ (p q : Prop) [Decidable p] [Decidable q], -1 ≤ (if p then (-1 : Int) else 0) + (if q then 1 else 0) ∧ (if p then (-1 : Int) else 0) + (if q then 1 else 0) ≤ 1 := fun p q _ _ => by split <;> split <;> omega
  exact h _ _
theorem zeT_bd (sg N : Int → Int) (k a : Int) : -1 ≤ zeT sg N k a ∧ zeT sg N k a ≤ 1 := by
  have h : ∀ (p q : Prop) [Decidable p] [Decidable q], -1 ≤ (if p then (1 : Int) else 0) + (if q then -1 else 0) ∧ (if p then (1 : Int) else 0) + (if q then -1 else 0) ≤ 1 := fun p q _ _ => by split <;> split <;> omega
  exact h _ _
abbrev zaD (f : Int → Int) (j v : Int) : Int → Int := zu f j (f j + v)
theorem zaD_at (f : Int → Int) (j v z : Int) : zaD f j v z = f z + if z = j then v else 0 := by
  by_cases q : z = j
  · subst q; show zu f z (f z + v) z = _; rw [zu_self, if_pos rfl]
  · show zu f j (f j + v) z = _; rw [zu_ne _ _ q, if_neg q]; omega
theorem zaD3 {g : Int → Int} {k A B C u v w z : Int} (hz : 0 ≤ z) (hk : z / 32 = k) (hA : 0 ≤ A ∧ A < 32) (hB : 0 ≤ B ∧ B < 32) (hC : 0 ≤ C ∧ C < 32) : zaD (zaD (zaD g (32 * k + A) u) (32 * k + B) v) (32 * k + C) w z = g z + (if z % 32 = A then u else 0) + (if z % 32 = B then v else 0) + if z % 32 = C then w else 0 := by
  rw [zaD_at, zaD_at, zaD_at]
  have e : ∀ X : Int, 0 ≤ X ∧ X < 32 → ((z = 32 * k + X) ↔ z % 32 = X) := fun X hX => by omega
  simp only [e A hA, e B hB, e C hC]
theorem zaD3_ne {g : Int → Int} {k A B C u v w z : Int} (hz : 0 ≤ z) (hk : ¬ z / 32 = k) (hA : 0 ≤ A ∧ A < 32) (hB : 0 ≤ B ∧ B < 32) (hC : 0 ≤ C ∧ C < 32) : zaD (zaD (zaD g (32 * k + A) u) (32 * k + B) v) (32 * k + C) w z = g z := by
  rw [zaD_at, zaD_at, zaD_at, if_neg (by omega), if_neg (by omega), if_neg (by omega)]
  omega
/-- the rows below k are filled -/
def zFi (sg N : Int → Int) (k : Int) (on tw : Int → Int) : Prop := (∀ z, 0 ≤ z → z < 384 → on z = if z / 32 < k then zeO sg N (z / 32) (z % 32) else 0) ∧ ∀ z, 0 ≤ z → z < 384 → tw z = if z / 32 < k then zeT sg N (z / 32) (z % 32) else 0
abbrev zN3 (N : Int → Int) (k a b c : Int) : Int → Int := zu (zu (zu N (4 * k) a) (4 * k + 2) b) (4 * k + 1) c
theorem zN3_0 (N : Int → Int) (k a b c : Int) : zN3 N k a b c (4 * k) = a ∧ zN3 N k a b c (4 * k + 2) = b ∧ zN3 N k a b c (4 * k + 1) = c ∧ ∀ z, z < 4 * k → zN3 N k a b c z = N z := by
  refine ⟨?_, ?_, zu_self _ _ _, fun z hz => ?_⟩
  · show zu _ _ _ _ = _; rw [zu_ne _ _ (by omega), zu_ne _ _ (by omega), zu_self]
  · show zu _ _ _ _ = _; rw [zu_ne _ _ (by omega), zu_self]
  · show zu _ _ _ _ = _; rw [zu_ne _ _ (by omega), zu_ne _ _ (by omega), zu_ne _ _ (by omega)]
theorem zeO_eq {sg N N' : Int → Int} {k a : Int} (h : ∀ z, 4 * k ≤ z → z < 4 * k + 3 → N z = N' z) : zeO sg N k a = zeO sg N' k a ∧ zeT sg N k a = zeT sg N' k a := by
  unfold zeO zeT
  rw [h (4 * k) (by omega) (by omega), h (4 * k + 1) (by omega) (by omega), h (4 * k + 2) (by omega) (by omega)]
  exact ⟨rfl, rfl⟩
theorem zFi_step {sg N on tw : Int → Int} {k a b c A B : Int} (h : zFi sg N k on tw) (hk : 0 ≤ k) (ha : 0 ≤ a ∧ a < 32) (hb : 0 ≤ b ∧ b < 32) (hc : 0 ≤ c ∧ c < 32) (hAB : (0 < sg k ∧ A = a ∧ B = b) ∨ (¬ 0 < sg k ∧ A = b ∧ B = a)) : zFi sg (zN3 N k a b c) (k + 1) (zaD (zaD (zaD on (32 * k + A) 0) (32 * k + B) (-1)) (32 * k + c) 1) (zaD (zaD (zaD tw (32 * k + A) 1) (32 * k + B) 0) (32 * k + c) (-1)) := by
  have hA : 0 ≤ A ∧ A < 32 := by omega
  have hB : 0 ≤ B ∧ B < 32 := by omega
  have h3 := zN3_0 N k a b c
  refine ⟨fun z h1 h2 => ?_, fun z h1 h2 => ?_⟩
  · by_cases q : z / 32 = k
    · rw [zaD3 h1 q hA hB hc, h.1 z h1 h2, if_neg (show ¬ z / 32 < k by omega), if_pos (show z / 32 < k + 1 by omega), q]
      unfold zeO
      rw [h3.1, h3.2.1, h3.2.2.1]
      rcases hAB with ⟨e1, e2, e3⟩ | ⟨e1, e2, e3⟩
      · rw [if_pos e1, e3]; split <;> split <;> split <;> omega
      · rw [if_neg e1, e3]; split <;> split <;> split <;> omega
    · rw [zaD3_ne h1 q hA hB hc, h.1 z h1 h2]
      by_cases q2 : z / 32 < k
      · rw [if_pos q2, if_pos (by omega)]
        exact (zeO_eq (fun y y1 y2 => (h3.2.2.2 y (by omega)).symm)).1
      · rw [if_neg q2, if_neg (by omega)]
  · by_cases q : z / 32 = k
    · rw [zaD3 h1 q hA hB hc, h.2 z h1 h2, if_neg (show ¬ z / 32 < k by omega), if_pos (show z / 32 < k + 1 by omega), q]
      unfold zeT
      rw [h3.1, h3.2.1, h3.2.2.1]
      rcases hAB with ⟨e1, e2, e3⟩ | ⟨e1, e2, e3⟩
      · rw [if_pos e1, e2]; split <;> split <;> split <;> omega
      · rw [if_neg e1, e2]; split <;> split <;> split <;> omega
    · rw [zaD3_ne h1 q hA hB hc, h.2 z h1 h2]
      by_cases q2 : z / 32 < k
      · rw [if_pos q2, if_pos (by omega)]
        exact (zeO_eq (fun y y1 y2 => (h3.2.2.2 y (by omega)).symm)).2
      · rw [if_neg q2, if_neg (by omega)]
theorem zGd_e {sg lb : Int → Int} {P y ou : Int} (hG : zGd sg lb P) (h : ∃ x, 0 ≤ x ∧ x < P ∧ lb x = y) (hou : ou = 0 ∨ ou = 1 := by decide) : ∃ z, 0 ≤ z ∧ z < P ∧ lb z = y ∧ zki sg z = ou := by
  obtain ⟨x, x1, x2, x3⟩ := h
  by_cases k : zki sg x = ou
  · exact ⟨x, x1, x2, x3, k⟩
  · obtain ⟨y, y1, y2, y3, y4⟩ := hG.1 x x1 x2
    have k1 := zki_or sg x
    have k2 := zki_or sg y
    exact ⟨y, y1, y2, y3.trans x3, by omega⟩
