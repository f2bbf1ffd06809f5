theorem zFB_gd {sg lb : Int → Int} {n : Int} (hs : ∀ k, 0 ≤ k → k < n → sg k = 1 ∨ sg k = -1) (h : zFB n sg lb 0) : zGd sg lb (4 * n) := by
  rcases h with ⟨e, _⟩ | ⟨pf, sn0, b1, _, _, ⟨e, _⟩ | ⟨w, _⟩⟩
  · omega
  · omega
  · have hk : ∀ x, 0 ≤ x → x < 4 * n → ¬ zki sg x = zki sg (pf x) := fun x h1 h2 => by
      have hpx := b1 x h1 h2
      have e := w x h1 h2
      rw [zgi_ki hs ⟨h1, h2⟩, zgi_ki hs ⟨hpx.1, hpx.2.1⟩] at e
      omega
    refine ⟨fun x h1 h2 => ?_, fun x y x1 x2 y1 y2 he hke => Classical.byContradiction fun q => ?_⟩
    · have hpx := b1 x h1 h2
      exact ⟨pf x, hpx.1, hpx.2.1, hpx.2.2.2.1, fun z => hk x h1 h2 z.symm⟩
    · have e := (b1 x x1 x2).2.2.2.2 y y1 y2 (fun z => q z.symm) he.symm
      rw [e] at hke
      exact hk x x1 x2 hke
/-- the class's rows, out of what it has read -/
theorem zRd_rows {S : zSt} (hn : 0 ≤ S.n ∧ S.n ≤ 12) (hR : zRd S) (hs : ∀ k, 0 ≤ k → k < S.n → S.sg k = 1 ∨ S.sg k = -1) : zRows S.sg S.N S.n S.F S.G := fun k h1 h2 a => by
  obtain ⟨t0, ht0, hat⟩ := hR.hat
  have hao : ∀ x, 0 ≤ x → x < 4 * S.n → zAo S.lb (4 * S.n) (S.lb x) (S.at0 x) := fun x h1 h2 => by rw [hat]; exact zja_ao hn.1 ht0 x h1 h2
  have hat2 : S.at0 (4 * k + 3) = S.at0 (4 * k + 1) := by
    have a1 := hao (4 * k + 3) (by omega) (by omega)
    have a2 := hao (4 * k + 1) (by omega) (by omega)
    exact zAo_un a1 (zAo_ov (x := 4 * k + 3) (by rw [show zac (4 * k + 3) = 4 * k + 1 by unfold zac; omega]; exact a2) ⟨by omega, by omega⟩ (by omega))
  have hNe : S.N (4 * k + 3) = S.N (4 * k + 1) := by
    obtain ⟨n1, n2, n3⟩ := hR.hN (4 * k + 3) (by omega) (by omega)
    obtain ⟨m1, m2, m3⟩ := hR.hN (4 * k + 1) (by omega) (by omega)
    rw [hat2] at n3
    rcases n3 with ⟨a1, a2, a3, a4⟩ | ⟨a1, _⟩ <;> rcases m3 with ⟨b1, b2, b3, b4⟩ | ⟨b1, _⟩
    · by_cases q : S.N (4 * k + 3) < S.N (4 * k + 1)
      · exact absurd a3 (b4 _ a1 q)
      · by_cases q2 : S.N (4 * k + 1) < S.N (4 * k + 3)
        · exact absurd b3 (a4 _ b1 q2)
        · omega
    · omega
    · omega
    · omega
  have hov : S.N (4 * k + zup (S.sg k)) = S.N (4 * k + 1) := by
    unfold zup
    split
    · exact hNe
    · rfl
  rw [hR.hF k h1 h2, hR.hG k h1 h2]
  unfold zrc zrt zeO zeT
  rw [hov]
  rcases hs k h1 h2 with s | s
  · rw [s]; exact ⟨by simp, by simp⟩
  · rw [s]; exact ⟨by simp, by simp⟩
/-- what class and model have in common -/
def zRl (S : zSt) (put : Int) (pS pL : Int → Int) (nn cir : Int) (sg lb : Int → Int) (kn arcs : Int) (al on tw : Int → Int) (mns : Int) (av po : Int → Int) : Prop := (0 ≤ put ∧ put ≤ 12) ∧ S.pn = put ∧ (∀ k, 0 ≤ k → k < put → pS k = S.psg k ∧ (S.psg k = 1 ∨ S.psg k = -1)) ∧ (∀ z, 0 ≤ z → z < 4 * put → pL z = S.plb z ∧ 1 ≤ S.plb z ∧ S.plb z ≤ 9999) ∧ (0 ≤ nn ∧ nn ≤ 12) ∧ S.n = nn ∧ S.cir = cir ∧ (0 ≤ cir ∧ cir ≤ 9) ∧ (∀ k, 0 ≤ k → k < nn → sg k = S.sg k ∧ (S.sg k = 1 ∨ S.sg k = -1)) ∧ (∀ x, 0 ≤ x → x < 4 * nn → lb x = S.lb x ∧ 1 ≤ S.lb x ∧ S.lb x ≤ 9999) ∧ (∀ j, inI (S.lb j)) ∧ zGd S.sg S.lb (4 * nn) ∧ zHt S.sg S.lb nn ∧ (kn = 0 ∨ (kn = 1 ∧ zKn nn cir sg lb arcs al on tw mns av po))
theorem zRl_bs {S S' : zSt} {put nn cir kn arcs mns kn' arcs' mns' : Int} {pS pL sg lb al on tw av po al' on' tw' av' po' : Int → Int} (h : zRl S put pS pL nn cir sg lb kn arcs al on tw mns av po) (hB : zBs S' S.pn S.psg S.plb S.n S.sg S.lb S.cir) (hK : kn' = 0 ∨ (kn' = 1 ∧ zKn nn cir sg lb arcs' al' on' tw' mns' av' po')) : zRl S' put pS pL nn cir sg lb kn' arcs' al' on' tw' mns' av' po' := by
  obtain ⟨e1, e2, e3, e4, e5, e6, e7⟩ := hB
  unfold zRl at h ⊢
  rw [e1, e2, e3, e4, e5, e6, e7]
  obtain ⟨a1, a2, a3, a4, a5, a6, a7, a8, a9, a10, a11, a12, a13, _⟩ := h
  exact ⟨a1, a2, a3, a4, a5, a6, a7, a8, a9, a10, a11, a12, a13, hK⟩
theorem zMK_k {K : Nat → ClassId} {M M1 : zq_M} {o : Nat} {bd : Nat → Nat} {put nn cir kn arcs mns : Int} {pS pL sg lb al on tw av po : Int → Int} (h : zMK K M o bd put pS pL nn cir sg lb kn arcs al on tw mns av po) (h0 : M1 o = M o) (hb : ∀ i, i < 18 → M1 (bd i) = M (bd i)) : zMK K M1 o bd put pS pL nn cir sg lb kn arcs al on tw mns av po := by
  obtain ⟨th, wr, oN, oC, lbs, fcs, oS, oL, rw1, fr, pi, fo, sm, le, gd, g0, g1, c0, c1, c2, c3, c4, c5, c6, c7, c8, c9, c10, c11, c12, c13, c14, c15, c16, c17, hr⟩ := h
  exact ⟨th, wr, oN, oC, lbs, fcs, oS, oL, rw1, fr, pi, fo, sm, le, gd, h0.trans g0, g1, (hb 0 (by decide)).trans c0, (hb 1 (by decide)).trans c1, (hb 2 (by decide)).trans c2, (hb 3 (by decide)).trans c3, (hb 4 (by decide)).trans c4, (hb 5 (by decide)).trans c5, (hb 6 (by decide)).trans c6, (hb 7 (by decide)).trans c7, (hb 8 (by decide)).trans c8, (hb 9 (by decide)).trans c9, (hb 10 (by decide)).trans c10, (hb 11 (by decide)).trans c11, (hb 12 (by decide)).trans c12, (hb 13 (by decide)).trans c13, (hb 14 (by decide)).trans c14, (hb 15 (by decide)).trans c15, (hb 16 (by decide)).trans c16, (hb 17 (by decide)).trans c17, hr⟩
theorem zCS_k {K : Nat → ClassId} {M M1 : zq_M} {own : Nat → Nat} {ad : zAd} {S : zSt} (h : zCS K M own ad S) (hk : ∀ q, own q ≤ 8 → M1 q = M q) : zCS K M1 own ad S := by
  have k : ∀ j, j ≤ 8 → ∀ q, own q = j → M1 q = M q := fun j hj q hq => hk q (by omega)
  obtain ⟨p0, cc0, c4⟩ := h.w.c4
  obtain ⟨rw0, co0, c5⟩ := h.w.c5
  exact ⟨⟨h.w.ox, (k 0 (by decide) _ h.w.ox).trans h.w.hx, h.w.c1.keep (k 1 (by decide)), h.w.c2.keep (k 2 (by decide)), h.w.c3.keep (k 3 (by decide)), ⟨p0, cc0, c4.keep (k 4 (by decide))⟩, ⟨rw0, co0, c5.keep (k 5 (by decide))⟩, h.w.c6.keep (k 6 (by decide)), h.w.c7.keep (k 7 (by decide)), h.w.c8.keep (k 8 (by decide)), h.w.hci, h.w.hlr⟩, h.c4.keep (k 4 (by decide)), h.c5.keep (k 5 (by decide)), h.hrd, h.hk0, h.hkn, h.hn0, h.hnf⟩
/-- the law's invariant -/
def zLI (K : Nat → ClassId) (M : zq_M) (own : Nat → Nat) (x o : Nat) (bd : Nat → Nat) : Prop := ∃ (ad : zAd) (S : zSt) (put : Int) (pS pL : Int → Int) (nn cir : Int) (sg lb : Int → Int) (kn arcs : Int) (al on tw : Int → Int) (mns : Int) (av po : Int → Int), ad.x = x ∧ zCS K M own ad S ∧ zMK K M o bd put pS pL nn cir sg lb kn arcs al on tw mns av po ∧ zRl S put pS pL nn cir sg lb kn arcs al on tw mns av po
abbrev zOw (own : Nat → Nat) (o : Nat) (bd : Nat → Nat) : Prop := own o = 9 ∧ ∀ i, i < 18 → own (bd i) = 9
/-- behind the class's call the model stands; behind the model's call the class stands -/
theorem zMK_c {K : Nat → ClassId} {M M1 : zq_M} {own : Nat → Nat} {o : Nat} {bd : Nat → Nat} {put nn cir kn arcs mns : Int} {pS pL sg lb al on tw av po : Int → Int} (hO : zOw own o bd) (h : zMK K M o bd put pS pL nn cir sg lb kn arcs al on tw mns av po) (hf : ∀ q, 9 ≤ own q → M1 q = M q) : zMK K M1 o bd put pS pL nn cir sg lb kn arcs al on tw mns av po := zMK_k h (hf o (by rw [hO.1]; decide)) (fun i hi => hf _ (by rw [hO.2 i hi]; decide))
theorem zCS_m {K : Nat → ClassId} {M M1 : zq_M} {own : Nat → Nat} {ad : zAd} {S : zSt} {o : Nat} {bd : Nat → Nat} (hO : zOw own o bd) (h : zCS K M own ad S) (hf : ∀ q, q ≠ o → (∀ i, i < 18 → q ≠ bd i) → M1 q = M q) : zCS K M1 own ad S := zCS_k h fun q hq => hf q (fun z => by rw [z, hO.1] at hq; omega) (fun i hi z => by rw [z, hO.2 i hi] at hq; omega)
/-- what the readers want -/
theorem zRl_m {S : zSt} {put nn cir kn arcs mns : Int} {pS pL sg lb al on tw av po : Int → Int} (h : zRl S put pS pL nn cir sg lb kn arcs al on tw mns av po) (hi : ∀ j, inI (lb j)) : zGd sg lb (4 * nn) ∧ zMth nn cir sg lb ∧ ∀ k, 0 ≤ k → k < nn → sg k = 1 ∨ sg k = -1 := by
  obtain ⟨a1, a2, a3, a4, a5, a6, a7, a8, a9, a10, a11, a12, a13, _⟩ := h
  have hl : ∀ x, 0 ≤ x → x < 4 * nn → S.lb x = lb x := fun x h1 h2 => (a10 x h1 h2).1.symm
  have hg : ∀ k, 0 ≤ k → k < nn → S.sg k = sg k := fun k h1 h2 => (a9 k h1 h2).1.symm
  have hG := zGd_cg hl hg a12
  have hs : ∀ k, 0 ≤ k → k < nn → sg k = 1 ∨ sg k = -1 := fun k h1 h2 => by rw [(a9 k h1 h2).1]; exact (a9 k h1 h2).2
  exact ⟨hG, zMth_of a5 a8 hi hG (zHt_cg hl hg a13) hs, hs⟩
theorem zRl_c {K : Nat → ClassId} {M : zq_M} {own : Nat → Nat} {ad : zAd} {S : zSt} {put nn cir kn arcs mns : Int} {pS pL sg lb al on tw av po : Int → Int} (hS : zCS K M own ad S) (h : zRl S put pS pL nn cir sg lb kn arcs al on tw mns av po) : zRows S.sg S.N S.n S.F S.G ∧ zHok S.F S.G S.n (S.cN + S.cir) ∧ ∀ lr lc res, zTk S.F S.G S.n (S.cN + S.cir) lr lc res → ∀ j, -9223372036854775807 ≤ res j ∧ res j < 9223372036854775808 := by
  obtain ⟨a1, a2, a3, a4, a5, a6, a7, a8, a9, a10, a11, a12, a13, _⟩ := h
  rw [← a6] at a5 a9
  have hR := zRd_rows a5 hS.hrd (fun k h1 h2 => (a9 k h1 h2).2)
  exact ⟨hR, zHok_of a5 hR, fun lr lc res hT => (zTk_bd a5 hR hT).2⟩
/-- both have read: arcs, rows, minors -/
theorem zRl_k {K : Nat → ClassId} {M : zq_M} {own : Nat → Nat} {ad : zAd} {S : zSt} {put nn cir kn arcs mns arcs1 mns1 : Int} {pS pL sg lb al on tw av po al1 on1 tw1 av1 po1 : Int → Int} (hS : zCS K M own ad S) (h : zRl S put pS pL nn cir sg lb kn arcs al on tw mns av po) (hK : zKn nn cir sg lb arcs1 al1 on1 tw1 mns1 av1 po1) (hi : ∀ j, inI (lb j)) :
    arcs1 = S.cN + S.cir ∧ (∀ j, 0 ≤ j → j < arcs1 → S.ls0 j = al1 j) ∧ (∀ x, 0 ≤ x → x < 4 * nn → zAo lb (4 * nn) (lb x) (S.at0 x) ∧ 0 ≤ S.N x ∧ S.N x < S.cN ∧ S.ls0 (S.N x) = S.at0 x ∧ zNx lb (4 * nn) al1 x (S.N x)) ∧ zFi sg S.N nn on1 tw1 ∧ zRows sg S.N nn S.F S.G ∧ zMn nn arcs1 on1 tw1 mns1 av1 ∧ zPp mns1 av1 po1 ∧ zQq mns1 av1 ∧ (nn ≤ arcs1 ∧ arcs1 ≤ 32) := by
  have hm := zRl_m h hi
  obtain ⟨a1, a2, a3, a4, a5, a6, a7, a8, a9, a10, a11, a12, a13, _⟩ := h
  obtain ⟨c0, N, k1, k2, k3, k4, k5, k6, k7, k8, _⟩ := id hK
  have hM3 := hm.2.1 c0 al1 N on1 tw1 k1 k4 k5
  subst a6
  subst a7
  obtain ⟨r1, r2, r3, r4, r5⟩ := zRK a5 hS.hrd hK (fun k h1 h2 => (a9 k h1 h2).1) (fun x h1 h2 => (a10 x h1 h2).1) (fun k h1 h2 => (a9 k h1 h2).2) (fun x h1 h2 => (a10 x h1 h2).2.1) a8.1
  exact ⟨r1, r2, r3, r4, r5, k6, k7, k8, by have := hM3.1; omega, by have := hM3.2.1; omega⟩
