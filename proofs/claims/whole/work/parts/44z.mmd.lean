theorem zEc_of {lb g : Int → Int} {P : Int} (h : ∀ a, 0 ≤ a → a < P → ∀ b, 0 ≤ b → b < P → lb a = lb b → ¬ g (a / 4) < g (b / 4)) : zEc lb P g := fun a b h1 h2 h3 h4 h5 => by
  have := h a h1 h2 b h3 h4 h5
  have := h b h3 h4 a h1 h2 h5.symm
  omega
theorem zPl_un {P : Int} {sg lb : Int → Int} {y ou r r' : Int} (h : zPl P sg lb y ou r) (h' : zPl P sg lb y ou r') : r = r' := by
  have e1 := zPl_lt h
  have e2 := zPl_lt h'
  by_cases q : r < r'
  · have e3 := e2.2 (by omega)
    exact absurd ⟨e3.2.1, e3.2.2⟩ (h.2 r' q (by omega) e3.1)
  · by_cases q2 : r' < r
    · have e3 := e1.2 (by omega)
      exact absurd ⟨e3.2.1, e3.2.2⟩ (h'.2 r q2 (by omega) e3.1)
    · omega
/-- 1: at place x a strand goes out; 0: in -/
abbrev zki (sg : Int → Int) (x : Int) : Int := if zoo (sg (x / 4)) x then 1 else 0
theorem zki_or (sg : Int → Int) (x : Int) : zki sg x = 0 ∨ zki sg x = 1 := by
  show (if zoo (sg (x / 4)) x then (1 : Int) else 0) = 0 ∨ (if zoo (sg (x / 4)) x then (1 : Int) else 0) = 1
  split <;> omega
/-- each label stands twice, where it goes out and where it goes in -/
def zGd (sg lb : Int → Int) (P : Int) : Prop := (∀ x, 0 ≤ x → x < P → ∃ y, 0 ≤ y ∧ y < P ∧ lb y = lb x ∧ ¬ zki sg y = zki sg x) ∧ ∀ x y, 0 ≤ x → x < P → 0 ≤ y → y < P → lb x = lb y → zki sg x = zki sg y → x = y
theorem zGd_pl {sg lb : Int → Int} {P y ou r z : Int} (hG : zGd sg lb P) (h : zPl P sg lb y ou r) (hz : 0 ≤ z ∧ z < P) (h1 : lb z = y) (h2 : zki sg z = ou) : r = z := by
  have e0 := zPl_ex h ⟨z, hz.1, hz.2, h1, h2⟩
  have e1 := (zPl_lt h).2 e0
  exact hG.2 r z e0 e1.1 hz.1 hz.2 (e1.2.1.trans h1.symm) (e1.2.2.trans h2.symm)
/-- places and numbers of darts; ta: the next dart round the face -/
def zIx (sg lb : Int → Int) (P : Int) (f : Int → Int) (c : Int) (ix dv ta : Int → Int) : Prop := (∀ z, 0 ≤ z → z < P → (0 ≤ ix z ∧ ix z < 2 * c) ∧ f (ix z / 2) = lb z ∧ ix z % 2 = zki sg z ∧ dv (ix z) = z) ∧ (∀ j, 0 ≤ j → j < 2 * c → (0 ≤ dv j ∧ dv j < P) ∧ ix (dv j) = j) ∧ (∀ z, 0 ≤ z → z < P → (0 ≤ ta z ∧ ta z < P) ∧ lb (ta z) = lb (ztp z) ∧ ¬ zki sg (ta z) = zki sg (ztp z)) ∧ ∀ z w, 0 ≤ z → z < P → 0 ≤ w → w < P → ta z = ta w → z = w
theorem ztp_in {z P : Int} (hP : P % 4 = 0) (h : 0 ≤ z ∧ z < P) : 0 ≤ ztp z ∧ ztp z < P := by unfold ztp; omega
theorem zSr_inj {f : Int → Int} {c i j : Int} (h : zSr f c) (hi : 0 ≤ i ∧ i < c) (hj : 0 ≤ j ∧ j < c) (he : f i = f j) : i = j := by
  by_cases q : i < j
  · have := h i j hi.1 q hj.2; omega
  · by_cases q2 : j < i
    · have := h j i hj.1 q2 hi.2; omega
    · omega
theorem zIx_ex {sg lb f : Int → Int} {P c : Int} (hP : P % 4 = 0) (hL : zLs lb P f c) (hG : zGd sg lb P) : ∃ ix dv ta, zIx sg lb P f c ix dv ta := by
  have a1 : ∀ z, ∃ j, 0 ≤ z → z < P → (0 ≤ j ∧ j < 2 * c) ∧ f (j / 2) = lb z ∧ j % 2 = zki sg z := fun z => by
    by_cases q : 0 ≤ z ∧ z < P
    · obtain ⟨i, i1, i2, i3⟩ := (hL.2.1 (lb z)).mpr ⟨z, q.1, q.2, rfl⟩
      have hk := zki_or sg z
      exact ⟨2 * i + zki sg z, fun _ _ => ⟨⟨by omega, by omega⟩, by rw [show (2 * i + zki sg z) / 2 = i by omega]; exact i3, by omega⟩⟩
    · exact ⟨0, fun h1 h2 => absurd ⟨h1, h2⟩ q⟩
  have a2 : ∀ j, ∃ z, 0 ≤ j → j < 2 * c → (0 ≤ z ∧ z < P) ∧ lb z = f (j / 2) ∧ zki sg z = j % 2 := fun j => by
    by_cases q : 0 ≤ j ∧ j < 2 * c
    · obtain ⟨x, x1, x2, x3⟩ := (hL.2.1 (f (j / 2))).mp ⟨j / 2, by omega, by omega, rfl⟩
      by_cases k : zki sg x = j % 2
      · exact ⟨x, fun _ _ => ⟨⟨x1, x2⟩, x3, k⟩⟩
      · obtain ⟨y, y1, y2, y3, y4⟩ := hG.1 x x1 x2
        have k1 := zki_or sg x
        have k2 := zki_or sg y
        exact ⟨y, fun _ _ => ⟨⟨y1, y2⟩, y3.trans x3, by omega⟩⟩
    · exact ⟨0, fun h1 h2 => absurd ⟨h1, h2⟩ q⟩
  have a3 : ∀ z, ∃ w, 0 ≤ z → z < P → (0 ≤ w ∧ w < P) ∧ lb w = lb (ztp z) ∧ ¬ zki sg w = zki sg (ztp z) := fun z => by
    by_cases q : 0 ≤ z ∧ z < P
    · have t := ztp_in hP q
      obtain ⟨y, y1, y2, y3, y4⟩ := hG.1 (ztp z) t.1 t.2
      exact ⟨y, fun _ _ => ⟨⟨y1, y2⟩, y3, y4⟩⟩
    · exact ⟨0, fun h1 h2 => absurd ⟨h1, h2⟩ q⟩
  obtain ⟨ix, b1⟩ := Classical.axiomOfChoice a1
  obtain ⟨dv, b2⟩ := Classical.axiomOfChoice a2
  obtain ⟨ta, b3⟩ := Classical.axiomOfChoice a3
  refine ⟨ix, dv, ta, fun z h1 h2 => ?_, fun j h1 h2 => ?_, b3, fun z w h1 h2 h3 h4 h5 => ?_⟩
  · have c1 := b1 z h1 h2
    have c2 := b2 (ix z) c1.1.1 c1.1.2
    exact ⟨c1.1, c1.2.1, c1.2.2, hG.2 _ _ c2.1.1 c2.1.2 h1 h2 (c2.2.1.trans c1.2.1) (c2.2.2.trans c1.2.2)⟩
  · have c2 := b2 j h1 h2
    have c1 := b1 (dv j) c2.1.1 c2.1.2
    have e1 : ix (dv j) / 2 = j / 2 := zSr_inj hL.1 ⟨by omega, by omega⟩ ⟨by omega, by omega⟩ (c1.2.1.trans c2.2.1)
    have e2 : ix (dv j) % 2 = j % 2 := c1.2.2.trans c2.2.2
    exact ⟨c2.1, by omega⟩
  · have d1 := b3 z h1 h2
    have d2 := b3 w h3 h4
    have t1 := ztp_in hP ⟨h1, h2⟩
    have t2 := ztp_in hP ⟨h3, h4⟩
    rw [← h5] at d2
    have k1 := zki_or sg (ta z)
    have k2 := zki_or sg (ztp z)
    have k3 := zki_or sg (ztp w)
    have e := hG.2 (ztp z) (ztp w) t1.1 t1.2 t2.1 t2.2 (d1.2.1.symm.trans d2.2.1) (by omega)
    unfold ztp at e
    omega
theorem zIx_inj {sg lb f ix dv ta : Int → Int} {P c z w : Int} (h : zIx sg lb P f c ix dv ta) (hz : 0 ≤ z ∧ z < P) (hw : 0 ≤ w ∧ w < P) (he : ix z = ix w) : z = w := by
  have e1 := (h.1 z hz.1 hz.2).2.2.2
  have e2 := (h.1 w hw.1 hw.2).2.2.2
  rw [he] at e1
  exact e1.symm.trans e2
/-- F faces have been gone round, and all darts below j0 lie on them -/
def zFo (P c : Int) (ix ta fo : Int → Int) (F j0 : Int) : Prop :=
  (∀ j, 0 ≤ j → j < 2 * c → fo j = -1 ∨ (0 ≤ fo j ∧ fo j < F)) ∧
  (∀ z, 0 ≤ z → z < P → 0 ≤ fo (ix z) → fo (ix (ta z)) = fo (ix z)) ∧
  (∀ w, 0 ≤ w → w < P → 0 ≤ fo (ix w) → ∃ z, 0 ≤ z ∧ z < P ∧ ta z = w ∧ fo (ix z) = fo (ix w)) ∧
  (∀ L : Int → Int, (∀ z, 0 ≤ z → z < P → L (ta z) = L z) → ∀ z w, 0 ≤ z → z < P → 0 ≤ w → w < P → 0 ≤ fo (ix z) → fo (ix z) = fo (ix w) → L z = L w) ∧
  (∀ j, 0 ≤ j → j < j0 → 0 ≤ fo j) ∧
  (∀ j, 0 ≤ j → j < 2 * c → ∀ e, 0 ≤ e → e < fo j → ∃ i, 0 ≤ i ∧ i < j ∧ fo i = e) ∧
  (∀ e, 0 ≤ e → e < F → ∃ i, 0 ≤ i ∧ i < j0 ∧ fo i = e) ∧ (0 ≤ F ∧ F ≤ j0) ∧ ∀ j, inI (fo j)
/-- on the way round face F: from z0 to z, last at pv -/
def zWs (P c : Int) (ix ta fo : Int → Int) (F j0 z0 z pv : Int) : Prop :=
  (∀ j, 0 ≤ j → j < 2 * c → fo j = -1 ∨ (0 ≤ fo j ∧ fo j ≤ F)) ∧
  (∀ y, 0 ≤ y → y < P → 0 ≤ fo (ix y) → fo (ix y) < F → fo (ix (ta y)) = fo (ix y)) ∧
  (∀ y, 0 ≤ y → y < P → fo (ix y) = F → ta y = z ∨ fo (ix (ta y)) = F) ∧
  (∀ w, 0 ≤ w → w < P → 0 ≤ fo (ix w) → fo (ix w) < F → ∃ y, 0 ≤ y ∧ y < P ∧ ta y = w ∧ fo (ix y) = fo (ix w)) ∧
  (∀ w, 0 ≤ w → w < P → fo (ix w) = F → w = z0 ∨ ∃ y, 0 ≤ y ∧ y < P ∧ ta y = w ∧ fo (ix y) = F ∧ ¬ y = pv) ∧
  (∀ L : Int → Int, (∀ z, 0 ≤ z → z < P → L (ta z) = L z) → ∀ y w, 0 ≤ y → y < P → 0 ≤ w → w < P → 0 ≤ fo (ix y) → fo (ix y) < F → fo (ix y) = fo (ix w) → L y = L w) ∧
  (∀ L : Int → Int, (∀ z, 0 ≤ z → z < P → L (ta z) = L z) → (∀ y, 0 ≤ y → y < P → fo (ix y) = F → L y = L z0) ∧ L z = L z0) ∧
  (∀ j, 0 ≤ j → j < j0 → 0 ≤ fo j ∧ fo j < F) ∧
  (∀ j, 0 ≤ j → j < 2 * c → ∀ e, 0 ≤ e → e < fo j → ∃ i, 0 ≤ i ∧ i < j ∧ fo i = e) ∧
  (∀ e, 0 ≤ e → e < F → ∃ i, 0 ≤ i ∧ i < j0 ∧ fo i = e) ∧ (0 ≤ F ∧ F ≤ j0) ∧ (0 ≤ z ∧ z < P) ∧ (0 ≤ z0 ∧ z0 < P) ∧ ix z0 = j0 ∧
  ((z = z0 ∧ (∀ y, 0 ≤ y → y < P → ¬ fo (ix y) = F) ∧ fo j0 = -1) ∨ ((0 ≤ pv ∧ pv < P) ∧ fo (ix pv) = F ∧ ta pv = z ∧ fo (ix z0) = F)) ∧ ∀ j, inI (fo j)
theorem zFo_0 {P c : Int} {ix ta fo : Int → Int} {sg lb f dv : Int → Int} (hI : zIx sg lb P f c ix dv ta) (h : ∀ j, 0 ≤ j → j < 2 * c → fo j = -1) (hi : ∀ j, inI (fo j)) : zFo P c ix ta fo 0 0 := by
  have hz : ∀ z, 0 ≤ z → z < P → fo (ix z) = -1 := fun z h1 h2 => h _ (hI.1 z h1 h2).1.1 (hI.1 z h1 h2).1.2
  exact ⟨fun j h1 h2 => Or.inl (h j h1 h2), fun z h1 h2 h3 => by have := hz z h1 h2; omega, fun z h1 h2 h3 => by have := hz z h1 h2; omega, fun L _ z w h1 h2 _ _ h3 => by have := hz z h1 h2; omega, fun j h1 h2 => by omega, fun j h1 h2 e h3 h4 => by have := h j h1 h2; omega, fun e h1 h2 => by omega, ⟨by omega, by omega⟩, hi⟩
theorem zFo_skip {P c F j0 : Int} {ix ta fo : Int → Int} (h : zFo P c ix ta fo F j0) (hj : 0 ≤ fo j0) : zFo P c ix ta fo F (j0 + 1) := by
  obtain ⟨a1, a2, a3, a4, a5, a6, a7, a8, a9⟩ := h
  refine ⟨a1, a2, a3, a4, fun j h1 h2 => ?_, a6, fun e h1 h2 => ?_, by omega, a9⟩
  · by_cases q : j = j0
    · rw [q]; exact hj
    · exact a5 j h1 (by omega)
  · obtain ⟨i, i1, i2, i3⟩ := a7 e h1 h2
    exact ⟨i, i1, by omega, i3⟩
theorem zWs_start {P c F j0 : Int} {ix ta fo sg lb f dv : Int → Int} (hI : zIx sg lb P f c ix dv ta) (h : zFo P c ix ta fo F j0) (hj : 0 ≤ j0 ∧ j0 < 2 * c) (hn : fo j0 < 0) : zWs P c ix ta fo F j0 (dv j0) (dv j0) 0 := by
  obtain ⟨a1, a2, a3, a4, a5, a6, a7, a8, a9⟩ := h
  have hF : ∀ y, 0 ≤ y → y < P → ¬ fo (ix y) = F := fun y h1 h2 h3 => by
    have := a1 (ix y) (hI.1 y h1 h2).1.1 (hI.1 y h1 h2).1.2
    omega
  have hd := hI.2.1 j0 hj.1 hj.2
  refine ⟨fun j h1 h2 => ?_, fun y h1 h2 h3 _ => a2 y h1 h2 h3, fun y h1 h2 h3 => absurd h3 (hF y h1 h2), fun w h1 h2 h3 _ => a3 w h1 h2 h3, fun y h1 h2 h3 => absurd h3 (hF y h1 h2), fun L hL y w h1 h2 h3 h4 h5 _ h6 => a4 L hL y w h1 h2 h3 h4 h5 h6, fun L hL => ⟨fun y h1 h2 h3 => absurd h3 (hF y h1 h2), rfl⟩, fun j h1 h2 => ?_, a6, a7, a8, hd.1, hd.1, hd.2, Or.inl ⟨rfl, hF, ?_⟩, a9⟩
  · have := a1 j h1 h2; omega
  · have e1 := a1 j h1 (by omega)
    have e2 := a5 j h1 h2
    omega
  · have := a1 j0 hj.1 hj.2; omega
theorem zWs_step {P c F j0 z0 z pv : Int} {ix ta fo sg lb f dv : Int → Int} (hI : zIx sg lb P f c ix dv ta) (h : zWs P c ix ta fo F j0 z0 z pv) (hn : fo (ix z) < 0) (hc : c ≤ 48) : zWs P c ix ta (zu fo (ix z) F) F j0 z0 (ta z) z := by
  obtain ⟨a1, a2, a3, a4, a5, a6, a7, a8, a9, a10, a11, a12, a13, a14, a15, a16⟩ := h
  have hx := (hI.1 z a12.1 a12.2).1
  have hx0 := (hI.1 z0 a13.1 a13.2).1
  have hm : fo (ix z) = -1 := by have := a1 _ hx.1 hx.2; omega
  have up : ∀ y, 0 ≤ y → y < P → y ≠ z → zu fo (ix z) F (ix y) = fo (ix y) := fun y h1 h2 h3 => zu_ne _ _ (fun e => h3 (zIx_inj hI ⟨h1, h2⟩ a12 e))
  have us : zu fo (ix z) F (ix z) = F := zu_self _ _ _
  have hta := fun y h1 h2 => (hI.2.2.1 y h1 h2).1
  have hcase : ∀ y, 0 ≤ y → y < P → (y = z ∧ zu fo (ix z) F (ix y) = F) ∨ (y ≠ z ∧ zu fo (ix z) F (ix y) = fo (ix y)) := fun y h1 h2 => by
    by_cases q : y = z
    · exact Or.inl ⟨q, by rw [q]; exact us⟩
    · exact Or.inr ⟨q, up y h1 h2 q⟩
  have hge : j0 ≤ ix z := Int.not_lt.mp fun q => by have := a8 (ix z) hx.1 q; omega
  refine ⟨fun j h1 h2 => ?_, fun y h1 h2 h3 h4 => ?_, fun y h1 h2 h3 => ?_, fun w h1 h2 h3 h4 => ?_, fun w h1 h2 h3 => ?_, fun L hL y w h1 h2 h3 h4 h5 h6 h7 => ?_, fun L hL => ⟨fun y h1 h2 h3 => ?_, ?_⟩, fun j h1 h2 => ?_, fun j h1 h2 e h3 h4 => ?_, fun e h1 h2 => ?_, a11, hta z a12.1 a12.2, a13, a14, Or.inr ⟨a12, us, rfl, ?_⟩, zu_in a16 ⟨by omega, by omega⟩⟩
  · by_cases q : j = ix z
    · rw [q, us]; omega
    · rw [zu_ne _ _ q]; exact a1 j h1 h2
  · rcases hcase y h1 h2 with ⟨q, e⟩ | ⟨q, e⟩
    · omega
    · rw [e] at h3 h4 ⊢
      have e2 := a2 y h1 h2 h3 h4
      have t := hta y h1 h2
      rw [up _ t.1 t.2 (fun w => by rw [w] at e2; omega)]
      exact e2
  · rcases hcase y h1 h2 with ⟨q, e⟩ | ⟨q, e⟩
    · exact Or.inl (by rw [q])
    · rw [e] at h3
      have t := hta y h1 h2
      rcases a3 y h1 h2 h3 with e2 | e2
      · right; rw [e2]; exact us
      · right
        rw [up _ t.1 t.2 (fun w => by rw [w] at e2; omega)]
        exact e2
  · rcases hcase w h1 h2 with ⟨q, e⟩ | ⟨q, e⟩
    · omega
    · rw [e] at h3 h4
      obtain ⟨y, y1, y2, y3, y4⟩ := a4 w h1 h2 h3 h4
      refine ⟨y, y1, y2, y3, ?_⟩
      rw [e, up y y1 y2 (fun w => by rw [w] at y4; omega)]
      exact y4
  · rcases hcase w h1 h2 with ⟨q, e⟩ | ⟨q, e⟩
    · rw [q]
      rcases a15 with ⟨b1, b2, b3⟩ | ⟨b0, b1, b2, b3⟩
      · exact Or.inl b1
      · have hne : pv ≠ z := fun w => by rw [w] at b1; omega
        exact Or.inr ⟨pv, b0.1, b0.2, b2, (up pv b0.1 b0.2 hne).trans b1, hne⟩
    · rw [e] at h3
      rcases a5 w h1 h2 h3 with e2 | ⟨y, y1, y2, y3, y4, y5⟩
      · exact Or.inl e2
      · have hne : y ≠ z := fun w => by rw [w] at y4; omega
        exact Or.inr ⟨y, y1, y2, y3, (up y y1 y2 hne).trans y4, hne⟩
  · rcases hcase y h1 h2 with ⟨q, e⟩ | ⟨q, e⟩
    · omega
    · rcases hcase w h3 h4 with ⟨q2, e2⟩ | ⟨q2, e2⟩
      · omega
      · rw [e] at h5 h6 h7
        rw [e2] at h7
        exact a6 L hL y w h1 h2 h3 h4 h5 h6 h7
  · rcases hcase y h1 h2 with ⟨q, e⟩ | ⟨q, e⟩
    · rw [q]; exact (a7 L hL).2
    · rw [e] at h3; exact (a7 L hL).1 y h1 h2 h3
  · rw [hL z a12.1 a12.2]; exact (a7 L hL).2
  · rw [zu_ne _ _ (by omega)]; exact a8 j h1 h2
  · by_cases q : j = ix z
    · rw [q, us] at h4
      obtain ⟨i, i1, i2, i3⟩ := a10 e h3 h4
      exact ⟨i, i1, by omega, by rw [zu_ne _ _ (by omega)]; exact i3⟩
    · rw [zu_ne _ _ q] at h4
      obtain ⟨i, i1, i2, i3⟩ := a9 j h1 h2 e h3 h4
      refine ⟨i, i1, i2, ?_⟩
      rw [zu_ne _ _ (fun w => by rw [w] at i3; omega)]
      exact i3
  · obtain ⟨i, i1, i2, i3⟩ := a10 e h1 h2
    exact ⟨i, i1, i2, by rw [zu_ne _ _ (by omega)]; exact i3⟩
  · rcases a15 with ⟨b1, b2, b3⟩ | ⟨b0, b1, b2, b3⟩
    · rw [← b1]; exact us
    · rw [up z0 a13.1 a13.2 (fun w => by rw [w] at b3; omega)]
      exact b3
theorem zWs_end {P c F j0 z0 z pv : Int} {ix ta fo sg lb f dv : Int → Int} (hI : zIx sg lb P f c ix dv ta) (h : zWs P c ix ta fo F j0 z0 z pv) (hn : ¬ fo (ix z) < 0) : zFo P c ix ta fo (F + 1) (j0 + 1) := by
  obtain ⟨a1, a2, a3, a4, a5, a6, a7, a8, a9, a10, a11, a12, a13, a14, a15, a16⟩ := h
  have hx := (hI.1 z a12.1 a12.2).1
  rcases a15 with ⟨b1, b2, b3⟩ | ⟨b0, b1, b2, b3⟩
  · rw [b1, a14] at hn; omega
  have hinj := hI.2.2.2
  have hF : fo (ix z) = F := by
    have e1 := a1 _ hx.1 hx.2
    by_cases q : fo (ix z) < F
    · obtain ⟨y, y1, y2, y3, y4⟩ := a4 z a12.1 a12.2 (by omega) q
      have e2 := hinj y pv y1 y2 b0.1 b0.2 (y3.trans b2.symm)
      rw [e2] at y4
      omega
    · omega
  have hz0 : z = z0 := by
    rcases a5 z a12.1 a12.2 hF with e | ⟨y, y1, y2, y3, y4, y5⟩
    · exact e
    · exact absurd (hinj y pv y1 y2 b0.1 b0.2 (y3.trans b2.symm)) y5
  refine ⟨fun j h1 h2 => ?_, fun y h1 h2 h3 => ?_, fun w h1 h2 h3 => ?_, fun L hL y w h1 h2 h3 h4 h5 h6 => ?_, fun j h1 h2 => ?_, a9, fun e h1 h2 => ?_, by omega, a16⟩
  · have := a1 j h1 h2; omega
  · by_cases q : fo (ix y) < F
    · exact a2 y h1 h2 h3 q
    · have e1 := a1 _ (hI.1 y h1 h2).1.1 (hI.1 y h1 h2).1.2
      have e2 : fo (ix y) = F := by omega
      rcases a3 y h1 h2 e2 with e3 | e3
      · rw [e3, hF, e2]
      · rw [e3, e2]
  · by_cases q : fo (ix w) < F
    · exact a4 w h1 h2 h3 q
    · have e1 := a1 _ (hI.1 w h1 h2).1.1 (hI.1 w h1 h2).1.2
      have e2 : fo (ix w) = F := by omega
      rcases a5 w h1 h2 e2 with e3 | ⟨y, y1, y2, y3, y4, y5⟩
      · exact ⟨pv, b0.1, b0.2, b2.trans (hz0.trans e3.symm), by rw [b1, e2]⟩
      · exact ⟨y, y1, y2, y3, by rw [y4, e2]⟩
  · by_cases q : fo (ix y) < F
    · exact a6 L hL y w h1 h2 h3 h4 h5 q h6
    · have e1 := a1 _ (hI.1 y h1 h2).1.1 (hI.1 y h1 h2).1.2
      have e2 : fo (ix y) = F := by omega
      rw [(a7 L hL).1 y h1 h2 e2, (a7 L hL).1 w h3 h4 (h6.symm.trans e2)]
  · by_cases q : j = j0
    · rw [q, ← a14, b3]; omega
    · exact (a8 j h1 (by omega)).1
  · by_cases q : e = F
    · exact ⟨j0, by omega, by omega, by rw [← a14, b3, q]⟩
    · obtain ⟨i, i1, i2, i3⟩ := a10 e h1 (by omega)
      exact ⟨i, i1, by omega, i3⟩
/-- how many have no face yet -/
def znf (fo : Int → Int) : Int := zsum (fun i => if fo (i : Int) < 0 then 1 else 0) 48
theorem znf_nn (fo : Int → Int) : 0 ≤ znf fo := by
  have h1 : zsum (fun _ => 0) 48 ≤ zsum (fun i => if fo (i : Int) < 0 then 1 else 0) 48 := zsum_le (fun i hi => by split <;> omega)
  rw [zsum_zero (fun _ _ => rfl)] at h1
  exact h1
theorem znf_lt {fo : Int → Int} {k F : Int} (hk : 0 ≤ k ∧ k < 48) (hn : fo k < 0) (hF : 0 ≤ F) : znf (zu fo k F) < znf fo := by
  unfold znf
  have h1 : zsum (fun i => if zu fo k F (i : Int) < 0 then (1 : Int) else 0) 48 = zsum (fun i => if i = k.toNat then 0 else if fo (i : Int) < 0 then 1 else 0) 48 := zsum_congr (fun i _ => by
    by_cases q : i = k.toNat
    · rw [if_pos q, show (i : Int) = k by omega, zu_self, if_neg (by omega)]
    · rw [if_neg q, zu_ne _ _ (by omega)])
  rw [h1, zsum_up (f := fun i => if fo (i : Int) < 0 then 1 else 0) (by omega), show ((k.toNat : Nat) : Int) = k by omega, if_pos hn]
  omega
theorem zup_id {f g : Int → Int} {i : Int} (h : ∀ z, g z = if 0 ≤ z ∧ z < i then z else f z) (hi : 0 ≤ i) : ∀ z, zu g i i z = if 0 ≤ z ∧ z < i + 1 then z else f z := fun z => by
  by_cases q : z = i
  · subst q; rw [zu_self, if_pos (by omega)]
  · rw [zu_ne _ _ q, h]
    by_cases q2 : 0 ≤ z ∧ z < i
    · rw [if_pos q2, if_pos (by omega)]
    · rw [if_neg q2, if_neg (by omega)]
theorem zup_c {f g : Int → Int} {i v : Int} (h : ∀ z, g z = if 0 ≤ z ∧ z < i then v else f z) (hi : 0 ≤ i) : ∀ z, zu g i v z = if 0 ≤ z ∧ z < i + 1 then v else f z := fun z => by
  by_cases q : z = i
  · subst q; rw [zu_self, if_pos (by omega)]
  · rw [zu_ne _ _ q, h]
    by_cases q2 : 0 ≤ z ∧ z < i
    · rw [if_pos q2, if_pos (by omega)]
    · rw [if_neg q2, if_neg (by omega)]
theorem zLs_24 {sg lb f ix dv ta : Int → Int} {nn c : Int} (hG : zGd sg lb (4 * nn)) (hnn : 0 ≤ nn ∧ nn ≤ 12) (hL : zLs lb (4 * nn) f c) (hI : zIx sg lb (4 * nn) f c ix dv ta) : c ≤ 24 := by
  have h1 := hL.2.2.1
  have h := zsum_inj (N := (2 * c).toNat) (n := (4 * nn).toNat) (f := fun _ => 1) (q := fun _ => 1) (g := fun i => (dv (i : Int)).toNat) (fun _ _ => Or.inr rfl) (fun x hx _ => by
    have e := (hI.2.1 (x : Int) (by omega) (by omega)).1
    exact ⟨by show (dv (x : Int)).toNat < _; omega, Int.le_refl _⟩) (fun _ _ => by decide) (fun x y hx hy _ _ he => by
    have e1 := hI.2.1 (x : Int) (by omega) (by omega)
    have e2 := hI.2.1 (y : Int) (by omega) (by omega)
    have he : (dv (x : Int)).toNat = (dv (y : Int)).toNat := he
    have e3 : dv (x : Int) = dv (y : Int) := by omega
    have e4 := e1.2
    rw [e3, e2.2] at e4
    omega)
  have hone : ∀ n : Nat, zsum (fun _ => 1) n = n := fun n => by
    induction n with
    | zero => rfl
    | succ n ih => show zsum (fun _ => 1) n + 1 = _; rw [ih]; omega
  rw [hone, hone] at h
  omega
