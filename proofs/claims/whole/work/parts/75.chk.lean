theorem zPo_cg {lb lb' : Int → Int} {P x y : Int} (hl : ∀ x, 0 ≤ x → x < P → lb' x = lb x) (hx : 0 ≤ x ∧ x < P) (h : zPo lb P x y) : zPo lb' P x y := by
  obtain ⟨y1, y2, y3, y4, y5⟩ := h
  exact ⟨y1, y2, y3, by rw [hl y y1 y2, hl x hx.1 hx.2]; exact y4, fun z z1 z2 z3 z4 => y5 z z1 z2 z3 (by rw [hl z z1 z2, hl x hx.1 hx.2] at z4; exact z4)⟩
theorem zGd_cg {sg lb sg' lb' : Int → Int} {n : Int} (hl : ∀ x, 0 ≤ x → x < 4 * n → lb' x = lb x) (hg : ∀ k, 0 ≤ k → k < n → sg' k = sg k) (h : zGd sg' lb' (4 * n)) : zGd sg lb (4 * n) := by
  have hk : ∀ x, 0 ≤ x → x < 4 * n → zki sg' x = zki sg x := fun x h1 h2 => zki_cg hg ⟨h1, h2⟩
  refine ⟨fun x h1 h2 => ?_, fun x y x1 x2 y1 y2 he hke => ?_⟩
  · obtain ⟨y, y1, y2, y3, y4⟩ := h.1 x h1 h2
    rw [hl y y1 y2, hl x h1 h2] at y3
    rw [hk y y1 y2, hk x h1 h2] at y4
    exact ⟨y, y1, y2, y3, y4⟩
  · refine h.2 x y x1 x2 y1 y2 ?_ ?_
    · rw [hl x x1 x2, hl y y1 y2]; exact he
    · rw [hk x x1 x2, hk y y1 y2]; exact hke
theorem zHt_cg {sg lb sg' lb' : Int → Int} {n : Int} (hl : ∀ x, 0 ≤ x → x < 4 * n → lb' x = lb x) (hg : ∀ k, 0 ≤ k → k < n → sg' k = sg k) (h : zHt sg' lb' n) : zHt sg lb n := by
  obtain ⟨h, hh⟩ := h
  refine ⟨h, fun x y x1 x2 y1 y2 he => ?_⟩
  have e := hh x y x1 x2 y1 y2 (by rw [hl x x1 x2, hl y y1 y2]; exact he)
  rw [hg (x / 4) (by omega) (by omega), hg (y / 4) (by omega) (by omega)] at e
  exact e
/-- class and model judge a diagram alike; a good one has heights -/
theorem zchk {sg lb sg' lb' : Int → Int} {n r r' : Int} (hn : 0 ≤ n ∧ n ≤ 12) (hl : ∀ x, 0 ≤ x → x < 4 * n → lb' x = lb x) (hg : ∀ k, 0 ≤ k → k < n → sg' k = sg k) (hs : ∀ k, 0 ≤ k → k < n → sg k = 1 ∨ sg k = -1) (hB : zFB n sg lb r) (hT : zFt sg' lb' n r') : r = r' ∧ (r = 0 → zGd sg lb (4 * n) ∧ zHt sg lb n) := by
  have hpr := zGl_pr (sg := sg) (sg' := sg') hl
  rcases hB with ⟨r1, x, x1, x2, x3⟩ | ⟨pf, sn0, b1, b2, b3, b4⟩
  · have h0 : ¬ zGl sg' lb' (4 * n) 0 := fun z => x3 (hpr.mp z x x1 x2)
    rcases hT with ⟨e, _⟩ | ⟨_, z, _⟩ | ⟨z, _⟩
    · exact ⟨by omega, fun z => by omega⟩
    · exact absurd z h0
    · exact absurd z h0
  · have h0 : zGl sg' lb' (4 * n) 0 := hpr.mpr fun x x1 x2 => ⟨pf x, b1 x x1 x2⟩
    have hed := zGl_ed hl hg hs b1
    rcases hT with ⟨_, z⟩ | ⟨e, _, z⟩ | ⟨_, h1, g, c, f, ix, dv, ta, fo, F, hM, hr⟩
    · exact absurd h0 z
    · rcases b4 with ⟨e2, _⟩ | ⟨w, _⟩
      · exact ⟨by omega, fun z => by omega⟩
      · exact absurd (hed.mpr w) z
    · rcases b4 with ⟨_, w⟩ | ⟨_, w⟩
      · exact absurd (hed.mp h1) w
      · have hGd := zGd_of h0 h1
        have hp' : zPr lb' (4 * n) pf := fun x x1 x2 => zPo_cg hl ⟨x1, x2⟩ (b1 x x1 x2)
        obtain ⟨rr, s1, ph, s2, s3, s4, s5⟩ := zsph hn hGd hp' b2 b3 hM
        have hre : r = r' := by
          rcases w with ⟨w1, w2⟩ | ⟨w1, w2⟩ <;> rcases hr with ⟨q1, q2⟩ | ⟨q1, q2⟩
          · omega
          · exact absurd (s4.mp w2) q2
          · exact absurd (s4.mpr q2) w2
          · omega
        refine ⟨hre, fun h0 => ⟨zGd_cg hl hg hGd, zHt_cg hl hg ?_⟩⟩
        rcases w with ⟨_, w2⟩ | ⟨w1, _⟩
        · refine zheight hn.1 hGd s1 s2 s5 fun k hk => ?_
          rw [← s3 k hk]
          exact w2 (k : Int) (by omega) (by omega)
        · omega
/-- a crossing changed -/
theorem zch_eq {sg lb lb' : Int → Int} {n k bg : Int} (hl : ∀ x, 0 ≤ x → x < 4 * n → lb' x = lb x) (hk : 0 ≤ k ∧ k < n) (hs : sg k = 1 ∨ sg k = -1) (hbg : bg = if 0 < sg k then 3 else 1) : ∀ x, 0 ≤ x → x < 4 * n → zch lb' k bg x = zsw sg lb k x := fun x h1 h2 => by
  have hup : zup (sg k) = bg := by
    unfold zup
    rw [hbg]
    rcases hs with s | s <;> rw [s] <;> rfl
  have hb : bg = 1 ∨ bg = 3 := by rw [hbg]; split; exact Or.inr rfl; exact Or.inl rfl
  unfold zch
  show _ = zw4 lb k (lb (4 * k + zup (sg k) % 4)) (lb (4 * k + (zup (sg k) + 1) % 4)) (lb (4 * k + (zup (sg k) + 2) % 4)) (lb (4 * k + (zup (sg k) + 3) % 4)) x
  rw [hup]
  unfold zw4
  by_cases q : 4 * k ≤ x ∧ x < 4 * k + 4
  · rw [if_pos q, hl _ (by omega) (by omega)]
    rcases (show x = 4 * k ∨ x = 4 * k + 1 ∨ x = 4 * k + 2 ∨ x = 4 * k + 3 by omega) with e | e | e | e <;> subst e
    · rw [zu_ne _ _ (by omega), zu_ne _ _ (by omega), zu_ne _ _ (by omega), zu_self, show bg + (4 * k - 4 * k) = bg by omega]
    · rw [zu_ne _ _ (by omega), zu_ne _ _ (by omega), zu_self, show bg + (4 * k + 1 - 4 * k) = bg + 1 by omega]
    · rw [zu_ne _ _ (by omega), zu_self, show bg + (4 * k + 2 - 4 * k) = bg + 2 by omega]
    · rw [zu_self, show bg + (4 * k + 3 - 4 * k) = bg + 3 by omega]
  · rw [if_neg q, zu_ne _ _ (by omega), zu_ne _ _ (by omega), zu_ne _ _ (by omega), zu_ne _ _ (by omega)]
    exact hl x h1 h2
/-- the place that a place was -/
def zcw (k bg x : Int) : Int := if 4 * k ≤ x ∧ x < 4 * k + 4 then 4 * k + (bg + (x - 4 * k)) % 4 else x
theorem zcw_ch (lb : Int → Int) (k bg x : Int) : zch lb k bg x = lb (zcw k bg x) := by
  unfold zch zcw; split <;> rfl
theorem zcw_in {k bg x n : Int} (hk : 0 ≤ k ∧ k < n) (h : 0 ≤ x ∧ x < 4 * n) : (0 ≤ zcw k bg x ∧ zcw k bg x < 4 * n) ∧ zcw k bg x / 4 = x / 4 := by unfold zcw; split <;> omega
theorem zcw_inj {k bg x y : Int} (h : zcw k bg x = zcw k bg y) : x = y := by unfold zcw at h; (repeat' split at h) <;> omega
theorem zcw_sur {k bg y n : Int} (hk : 0 ≤ k ∧ k < n) (h : 0 ≤ y ∧ y < 4 * n) : ∃ x, (0 ≤ x ∧ x < 4 * n) ∧ zcw k bg x = y := by
  by_cases q : 4 * k ≤ y ∧ y < 4 * k + 4
  · refine ⟨4 * k + (y - 4 * k - bg) % 4, by omega, ?_⟩
    unfold zcw; rw [if_pos (by omega)]; omega
  · exact ⟨y, h, by unfold zcw; rw [if_neg q]⟩
theorem zki_m (sg : Int → Int) (x : Int) : zki sg x = if 0 < sg (x / 4) then (if x % 4 = 1 ∨ x % 4 = 2 then 1 else 0) else (if x % 4 = 2 ∨ x % 4 = 3 then 1 else 0) := by
  have hq := zoq_or (sg (x / 4))
  show (if zoo (sg (x / 4)) x then (1 : Int) else 0) = _
  by_cases s : 0 < sg (x / 4)
  · rw [if_pos s]
    by_cases q : x % 4 = 1 ∨ x % 4 = 2
    · rw [if_pos q, if_pos (by unfold zoo; omega)]
    · rw [if_neg q, if_neg (by unfold zoo; omega)]
  · rw [if_neg s]
    by_cases q : x % 4 = 2 ∨ x % 4 = 3
    · rw [if_pos q, if_pos (by unfold zoo; omega)]
    · rw [if_neg q, if_neg (by unfold zoo; omega)]
/-- kinds and faces stay -/
theorem zcw_ki {sg : Int → Int} {k bg x n : Int} (hk : 0 ≤ k ∧ k < n) (hs : sg k = 1 ∨ sg k = -1) (hbg : bg = if 0 < sg k then 3 else 1) (h : 0 ≤ x ∧ x < 4 * n) : zki (zu sg k (-sg k)) x = zki sg (zcw k bg x) ∧ zcr4 (zu sg k (-sg k) (x / 4)) x = zcr4 (sg (zcw k bg x / 4)) (zcw k bg x) := by
  have hd := (zcw_in (bg := bg) hk h).2
  by_cases q : x / 4 = k
  · have hm : zcw k bg x % 4 = (bg + x % 4) % 4 := by unfold zcw; rw [if_pos (by omega)]; omega
    rw [zki_m, zki_m, hd, hm]
    unfold zcr4
    rw [hm, q, zu_self]
    have m : x % 4 = 0 ∨ x % 4 = 1 ∨ x % 4 = 2 ∨ x % 4 = 3 := by omega
    generalize x % 4 = y at m
    rcases hs with s | s <;> rw [s] at hbg ⊢
    · have hb : bg = 3 := by rw [hbg]; rfl
      subst hb
      rcases m with m | m | m | m <;> subst m <;> decide
    · have hb : bg = 1 := by rw [hbg]; rfl
      subst hb
      rcases m with m | m | m | m <;> subst m <;> decide
  · have hw : zcw k bg x = x := by unfold zcw; rw [if_neg (by omega)]
    rw [hw]
    refine ⟨?_, by rw [zu_ne _ _ q]⟩
    show (if zoo (zu sg k (-sg k) (x / 4)) x then (1 : Int) else 0) = if zoo (sg (x / 4)) x then 1 else 0
    rw [zu_ne _ _ q]
theorem zchange {sg lb : Int → Int} {n k bg : Int} (hk : 0 ≤ k ∧ k < n) (hs : sg k = 1 ∨ sg k = -1) (hbg : bg = if 0 < sg k then 3 else 1) (hG : zGd sg lb (4 * n)) (hH : zHt sg lb n) : zGd (zu sg k (-sg k)) (zch lb k bg) (4 * n) ∧ zHt (zu sg k (-sg k)) (zch lb k bg) n := by
  have hki := fun x h => (zcw_ki (x := x) hk hs hbg h).1
  have hcr := fun x h => (zcw_ki (x := x) hk hs hbg h).2
  refine ⟨⟨fun x h1 h2 => ?_, fun x y x1 x2 y1 y2 he hke => ?_⟩, ?_⟩
  · have w := zcw_in (bg := bg) hk ⟨h1, h2⟩
    obtain ⟨y, y1, y2, y3, y4⟩ := hG.1 (zcw k bg x) w.1.1 w.1.2
    obtain ⟨z, z1, z2⟩ := zcw_sur (bg := bg) hk ⟨y1, y2⟩
    refine ⟨z, z1.1, z1.2, by rw [zcw_ch, zcw_ch, z2]; exact y3, ?_⟩
    rw [hki z z1, hki x ⟨h1, h2⟩, z2]; exact y4
  · have wx := zcw_in (bg := bg) hk ⟨x1, x2⟩
    have wy := zcw_in (bg := bg) hk ⟨y1, y2⟩
    rw [zcw_ch, zcw_ch] at he
    rw [hki x ⟨x1, x2⟩, hki y ⟨y1, y2⟩] at hke
    exact zcw_inj (hG.2 _ _ wx.1.1 wx.1.2 wy.1.1 wy.1.2 he hke)
  · obtain ⟨h, hh⟩ := hH
    refine ⟨h, fun x y x1 x2 y1 y2 he => ?_⟩
    have wx := zcw_in (bg := bg) hk ⟨x1, x2⟩
    have wy := zcw_in (bg := bg) hk ⟨y1, y2⟩
    rw [zcw_ch, zcw_ch] at he
    have e := hh _ _ wx.1.1 wx.1.2 wy.1.1 wy.1.2 he
    rw [hcr x ⟨x1, x2⟩, hcr y ⟨y1, y2⟩, ← wx.2, ← wy.2]
    exact e
