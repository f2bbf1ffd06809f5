section ZLAW
variable {K : Nat → ClassId} {M M1 M2 : zq_M} {own : Nat → Nat} {ad : zAd} {S : zSt} {o : Nat} {bd : Nat → Nat} {put nn cir kn arcs mns : Int} {pS pL sg lb al on tw av po : Int → Int} {v : Option Value}
theorem zMK_hi (h : zMK K M o bd put pS pL nn cir sg lb kn arcs al on tw mns av po) : (∀ j, inI (pL j)) ∧ ∀ j, inI (lb j) := by
  obtain ⟨th, wr, oN, oC, lbs, fcs, oS, oL, rw1, fr, pi, fo, sm, le, gd, g0, g1, c0, c1, c2, c3, c4, c5, c6, c7, c8, c9, c10, c11, c12, c13, c14, c15, c16, c17, hr⟩ := h
  exact ⟨fun j => (hr j).2.1, fun j => (hr j).2.2.2.1⟩
theorem zBs_rf (S : zSt) : zBs S S.pn S.psg S.plb S.n S.sg S.lb S.cir := ⟨rfl, rfl, rfl, rfl, rfl, rfl, rfl⟩
/-- a reader of the class: what is seen from outside stays -/
abbrev zKp (K : Nat → ClassId) (own : Nat → Nat) (ad : zAd) (S : zSt) (M M1 : zq_M) : Prop := ∃ (ad' : zAd) (S' : zSt), zCS K M1 own ad' S' ∧ zBs S' S.pn S.psg S.plb S.n S.sg S.lb S.cir ∧ ad'.x = ad.x ∧ ∀ q, 9 ≤ own q → M1 q = M q
theorem zKp_rf (hS : zCS K M own ad S) : zKp K own ad S M M := ⟨ad, S, hS, zBs_rf S, rfl, fun _ _ => rfl⟩
theorem zKp.f (h : zKp K own ad S M M1) : ∀ q, 9 ≤ own q → M1 q = M q := by
  obtain ⟨_, _, _, _, _, f⟩ := h
  exact f
theorem zrd_end {arcs1 mns1 : Int} {al1 on1 tw1 av1 po1 : Int → Int} (hO : zOw own o bd) (hk : zKp K own ad S M M1) (hR : zRl S put pS pL nn cir sg lb kn arcs al on tw mns av po) (hKn : zKn nn cir sg lb arcs1 al1 on1 tw1 mns1 av1 po1) (hM2 : zMK K M2 o bd put pS pL nn cir sg lb 1 arcs1 al1 on1 tw1 mns1 av1 po1) (f2 : ∀ q, q ≠ o → (∀ i, i < 18 → q ≠ bd i) → M2 q = M1 q) : zLI K M2 own ad.x o bd := by
  obtain ⟨ad', S', hS', hB, hx, _⟩ := hk
  exact ⟨ad', S', put, pS, pL, nn, cir, sg, lb, 1, arcs1, al1, on1, tw1, mns1, av1, po1, hx, zCS_m hO hS' f2, hM2, zRl_bs hR hB (Or.inr ⟨rfl, hKn⟩)⟩
theorem zon_eq {N on1 tw1 : Int → Int} {F G : Int → Int → Int} {arcs1 k a : Int} (k4 : zFi sg N nn on1 tw1) (k5 : zRows sg N nn F G) (hnn : 0 ≤ nn ∧ nn ≤ 12) (har : arcs1 ≤ 32) (hk : 0 ≤ k ∧ k < nn) (ha : 0 ≤ a ∧ a < arcs1) : on1 (32 * k + a) = F k a ∧ tw1 (32 * k + a) = G k a := by
  have h5 := k5 k hk.1 hk.2 a
  rw [k4.1 _ (by omega) (by omega), k4.2 _ (by omega) (by omega), h5.1, h5.2, show (32 * k + a) / 32 = k by omega, show (32 * k + a) % 32 = a by omega, if_pos hk.2, if_pos hk.2]
  exact ⟨rfl, rfl⟩
theorem zs_arc (hO : zOw own o bd) (hS : zCS K M own ad S) (hM : zMK K M o bd put pS pL nn cir sg lb kn arcs al on tw mns av po) (hR : zRl S put pS pL nn cir sg lb kn arcs al on tw mns av po) {x : Int} (h1 : P_AM_arc K M own ad S x v M1) : ∃ r, v = some (.int (iI r)) ∧ zMK K M1 o bd put pS pL nn cir sg lb kn arcs al on tw mns av po ∧ ∀ v2 M2, P_MM_arc K M1 o bd put pS pL nn cir sg lb kn arcs al on tw mns av po x v2 M2 → v2 = some (.int (iI r)) ∧ zLI K M2 own ad.x o bd := by
  obtain ⟨a1, a2, a3, a4, a5, a6, a7, a8, a9, a10, a11, a12, a13, a14⟩ := id hR
  obtain ⟨r, rfl, hc, rfl⟩ := h1
  refine ⟨r, rfl, hM, fun v2 M2 h2 => ?_⟩
  obtain ⟨r2, rfl, arcs1, al1, on1, tw1, mns1, av1, po1, hKn, hM2, f2, hr⟩ := h2
  refine ⟨?_, zrd_end hO (zKp_rf hS) hR hKn hM2 f2⟩
  obtain ⟨k1, k2, k3, k4, k5, k6, k7, k8, k9⟩ := zRl_k hS hR hKn (zMK_hi hM).2
  have hal := hS.hrd.hal
  rcases hc with ⟨y, y1, y2, y3, hN⟩ | ⟨e, hno⟩
  · rw [hal y y1 y2] at y3
    rw [a6] at y2
    have hy := a10 y y1 y2
    have hly : lb y = x := by rw [hy.1]; exact y3
    obtain ⟨z1, z2, z3, z4, z5⟩ := k3 y y1 y2
    rcases hr with ⟨_, hq⟩ | ⟨_, m, m1, m2, m3, m4⟩
    · rcases hq with hq | hq
      · have := hy.2.1
        omega
      · exact absurd ⟨y, y1, y2, hly⟩ hq
    · have em : m = S.at0 y := by rw [hly] at z1; exact zAo_un m1 z1
      rcases hN with ⟨n1, n2, n3, n4⟩ | ⟨_, n4⟩
      · rw [← k1] at n2
        have e1 : al1 r = m := by rw [← k2 r n1 n2, n3, em]
        have hrr : r = r2 := by
          by_cases q : r < r2
          · exact absurd e1 (m4 r n1 q)
          · by_cases q2 : r2 < r
            · exact absurd (by rw [k2 r2 m2.1 (by omega), m3, em]) (n4 r2 m2.1 q2)
            · omega
        rw [hrr]
      · exact absurd z4 (n4 _ z2 (by omega))
  · rcases hr with ⟨e2, _⟩ | ⟨⟨_, z, z1, z2, z3⟩, _⟩
    · rw [e, e2]
    · have hz := a10 z z1 z2
      exact absurd (by rw [hal z z1 (by rw [a6]; exact z2), ← hz.1]; exact z3) (hno z z1 (by rw [a6]; exact z2))
theorem zs_least (hO : zOw own o bd) (hS : zCS K M own ad S) (hM : zMK K M o bd put pS pL nn cir sg lb kn arcs al on tw mns av po) (hR : zRl S put pS pL nn cir sg lb kn arcs al on tw mns av po) {x : Int} (h1 : P_AM_least K M own ad S x v M1) : ∃ r, v = some (.int (iI r)) ∧ zMK K M1 o bd put pS pL nn cir sg lb kn arcs al on tw mns av po ∧ ∀ v2 M2, P_MM_least K M1 o bd put pS pL nn cir sg lb kn arcs al on tw mns av po x v2 M2 → v2 = some (.int (iI r)) ∧ zLI K M2 own ad.x o bd := by
  obtain ⟨a1, a2, a3, a4, a5, a6, a7, a8, a9, a10, a11, a12, a13, a14⟩ := id hR
  obtain ⟨rfl, rfl⟩ := h1
  refine ⟨_, rfl, hM, fun v2 M2 h2 => ?_⟩
  obtain ⟨r2, rfl, arcs1, al1, on1, tw1, mns1, av1, po1, hKn, hM2, f2, rfl⟩ := h2
  refine ⟨?_, zrd_end hO (zKp_rf hS) hR hKn hM2 f2⟩
  obtain ⟨k1, k2, k3, k4, k5, k6, k7, k8, k9⟩ := zRl_k hS hR hKn (zMK_hi hM).2
  have e : (if 0 ≤ x ∧ x < arcs1 then al1 x else -1) = (if 0 ≤ x ∧ x < S.cN + S.cir then S.ls0 x else -1) := by
    rw [← k1]
    by_cases q : 0 ≤ x ∧ x < arcs1
    · rw [if_pos q, if_pos q, k2 x q.1 q.2]
    · rw [if_neg q, if_neg q]
  rw [e]
theorem zs_entry (hO : zOw own o bd) (hS : zCS K M own ad S) (hM : zMK K M o bd put pS pL nn cir sg lb kn arcs al on tw mns av po) (hR : zRl S put pS pL nn cir sg lb kn arcs al on tw mns av po) {k a e0 : Int} (h1 : P_AM_entry K M own ad S k a e0 v M1) : ∃ r, v = some (.int (iI r)) ∧ zMK K M1 o bd put pS pL nn cir sg lb kn arcs al on tw mns av po ∧ ∀ v2 M2, P_MM_entry K M1 o bd put pS pL nn cir sg lb kn arcs al on tw mns av po k a e0 v2 M2 → v2 = some (.int (iI r)) ∧ zLI K M2 own ad.x o bd := by
  obtain ⟨a1, a2, a3, a4, a5, a6, a7, a8, a9, a10, a11, a12, a13, a14⟩ := id hR
  obtain ⟨rfl, rfl⟩ := h1
  refine ⟨_, rfl, hM, fun v2 M2 h2 => ?_⟩
  obtain ⟨r2, rfl, arcs1, al1, on1, tw1, mns1, av1, po1, hKn, hM2, f2, rfl⟩ := h2
  refine ⟨?_, zrd_end hO (zKp_rf hS) hR hKn hM2 f2⟩
  obtain ⟨k1, k2, k3, k4, k5, k6, k7, k8, k9⟩ := zRl_k hS hR hKn (zMK_hi hM).2
  have e : (if (0 ≤ k ∧ k < nn) ∧ 0 ≤ a ∧ a < arcs1 then (if e0 = 0 then on1 (32 * k + a) else if e0 = 1 then tw1 (32 * k + a) else 0) else 0) = (if e0 = 0 then zat S.F S.n (S.cN + S.cir) k a else if e0 = 1 then zat S.G S.n (S.cN + S.cir) k a else 0) := by
    unfold zat
    rw [← k1, a6]
    by_cases q : (0 ≤ k ∧ k < nn) ∧ 0 ≤ a ∧ a < arcs1
    · have q' : 0 ≤ k ∧ k < nn ∧ 0 ≤ a ∧ a < arcs1 := ⟨q.1.1, q.1.2, q.2.1, q.2.2⟩
      rw [if_pos q, if_pos q', if_pos q', (zon_eq k4 k5 a5 k9.2 q.1 q.2).1, (zon_eq k4 k5 a5 k9.2 q.1 q.2).2]
    · have q' : ¬ (0 ≤ k ∧ k < nn ∧ 0 ≤ a ∧ a < arcs1) := fun w => q ⟨⟨w.1, w.2.1⟩, w.2.2.1, w.2.2.2⟩
      rw [if_neg q, if_neg q', if_neg q']
      by_cases w : e0 = 0
      · rw [if_pos w]
      · rw [if_neg w]
        by_cases w2 : e0 = 1
        · rw [if_pos w2]
        · rw [if_neg w2]
  rw [e]
theorem zmin13 {N on1 tw1 av1 : Int → Int} {cc mns1 k a : Int} (hn : 0 ≤ nn ∧ nn ≤ 12) (hFi : zFi sg N nn on1 tw1) (hMn : zMn nn cc on1 tw1 mns1 av1) (ha : 0 ≤ a ∧ a < cc) (hk : -1 ≤ k ∧ k < nn) (hm : ¬ mns1 = 0) (hc : cc = nn + 1 ↔ k = -1) : av1 (14 * (if cc = nn + 1 then a else cc * k + a) + 13) = 0 := by
  rcases hMn with ⟨_, m2⟩ | ⟨m0, m1, m2, m3⟩ | ⟨m0, m1, m2, m3⟩
  · exact absurd m2 hm
  · have hk1 := hc.mp m1
    rw [if_pos m1]
    have z := m3 (-1) a 13 (Int.le_refl _) ha.1 ha.2 (by decide) (by decide) (Or.inl (by omega))
    rw [show (-1 : Int) - -1 = 0 by omega, Int.mul_zero, Int.zero_add] at z
    rw [z, zav_mP (av := av1) hn hFi m0.2 ha (by rw [zdn_eq, if_neg (by omega)]; omega) ⟨by omega, by omega⟩ 13]
    exact (zmP_12 (by omega)).2 13 (by decide)
  · have hk1 : ¬ k = -1 := fun q => by have := hc.mpr q; omega
    rw [if_neg (by omega)]
    have z := m3 k a 13 (by omega) ha.1 ha.2 (by decide) (by decide) (Or.inl hk.2)
    rw [Int.sub_zero] at z
    rw [z, zav_mP (av := av1) hn hFi (by omega) ha (by rw [zdn_eq, if_pos (by omega)]; omega) ⟨by omega, hk.2⟩ 13]
    exact (zmP_12 (by omega)).2 13 (by decide)
theorem zs_minor (hO : zOw own o bd) (hS : zCS K M own ad S) (hM : zMK K M o bd put pS pL nn cir sg lb kn arcs al on tw mns av po) (hR : zRl S put pS pL nn cir sg lb kn arcs al on tw mns av po) {k a e0 : Int} (h1 : P_AM_minor K M own ad S k a e0 v M1) : ∃ r, v = some (.long (iL r)) ∧ zMK K M1 o bd put pS pL nn cir sg lb kn arcs al on tw mns av po ∧ ∀ v2 M2, P_MM_minor K M1 o bd put pS pL nn cir sg lb kn arcs al on tw mns av po k a e0 v2 M2 → v2 = some (.long (iL r)) ∧ zLI K M2 own ad.x o bd := by
  obtain ⟨a1, a2, a3, a4, a5, a6, a7, a8, a9, a10, a11, a12, a13, a14⟩ := id hR
  obtain ⟨r, rfl, hc⟩ := h1
  have hkp : zKp K own ad S M M1 := by
    rcases hc with ⟨_, _, e⟩ | ⟨_, res, ad', S', _, _, b1, b2, b3, b4⟩
    · rw [e]; exact zKp_rf hS
    · exact ⟨ad', S', b1, b2, b3, b4⟩
  refine ⟨r, rfl, zMK_c hO hM hkp.f, fun v2 M2 h2 => ?_⟩
  obtain ⟨r2, rfl, arcs1, al1, on1, tw1, mns1, av1, po1, hKn, hM2, f2, hr⟩ := h2
  refine ⟨?_, zrd_end hO hkp hR hKn hM2 f2⟩
  obtain ⟨k1, k2, k3, k4, k5, k6, k7, k8, k9⟩ := zRl_k hS hR hKn (zMK_hi hM).2
  rcases hc with ⟨he, e, _⟩ | ⟨he, res, _, _, e, hT, _⟩
  · rcases hr with ⟨_, e2⟩ | ⟨⟨q1, q2, q3, q4, q5⟩, e2⟩
    · rw [e, e2]
    · have e13 : e0 = 13 := by omega
      rw [e13, zmin13 a5 k4 k6 q1 q3 q4 q5] at e2
      rw [e, e2]
  · rw [← k1, a6] at hT
    have z := zmin_eq (k := k) (a := a) a5 k5 k4 k9.1 k6 hT ⟨he.1, by omega⟩
    rcases hr with ⟨hq, e2⟩ | ⟨hq, e2⟩
    · rw [if_neg (fun w => hq ⟨w.1, ⟨he.1, by omega⟩, w.2⟩)] at z
      rw [e, e2, z]
    · rw [if_pos ⟨hq.1, hq.2.2⟩] at z
      rw [e, e2, z]
theorem zs_alexander (hO : zOw own o bd) (hS : zCS K M own ad S) (hM : zMK K M o bd put pS pL nn cir sg lb kn arcs al on tw mns av po) (hR : zRl S put pS pL nn cir sg lb kn arcs al on tw mns av po) {e0 : Int} (h1 : P_AM_alexander K M own ad S e0 v M1) : ∃ r, v = some (.long (iL r)) ∧ zMK K M1 o bd put pS pL nn cir sg lb kn arcs al on tw mns av po ∧ ∀ v2 M2, P_MM_alexander K M1 o bd put pS pL nn cir sg lb kn arcs al on tw mns av po e0 v2 M2 → v2 = some (.long (iL r)) ∧ zLI K M2 own ad.x o bd := by
  obtain ⟨a1, a2, a3, a4, a5, a6, a7, a8, a9, a10, a11, a12, a13, a14⟩ := id hR
  obtain ⟨r, rfl, fn1, ad', S', rfl, hNF, b1, b2, b3, b4⟩ := h1
  refine ⟨_, rfl, zMK_c hO hM b4, fun v2 M2 h2 => ?_⟩
  obtain ⟨r2, rfl, arcs1, al1, on1, tw1, mns1, av1, po1, hKn, hM2, f2, rfl⟩ := h2
  refine ⟨?_, zrd_end hO ⟨ad', S', b1, b2, b3, b4⟩ hR hKn hM2 f2⟩
  obtain ⟨k1, k2, k3, k4, k5, k6, k7, k8, k9⟩ := zRl_k hS hR hKn (zMK_hi hM).2
  rw [← k1, a6] at hNF
  obtain ⟨z1, z2⟩ := znf_eq a5 k5 k4 k9.1 k6 k7 k8 hNF
  have e : (if 0 ≤ e0 ∧ e0 < 14 then po1 e0 else 0) = fn1 e0 := by
    by_cases q : 0 ≤ e0 ∧ e0 < 14
    · rw [if_pos q]; exact z1 _ q.1 q.2
    · rw [if_neg q]
      by_cases q2 : e0 < 0
      · exact (z2.1 _ q2).symm
      · exact (z2.2 _ (by omega)).symm
  rw [e]
theorem zs_many (hO : zOw own o bd) (hS : zCS K M own ad S) (hM : zMK K M o bd put pS pL nn cir sg lb kn arcs al on tw mns av po) (hR : zRl S put pS pL nn cir sg lb kn arcs al on tw mns av po) {x : Int} (h1 : P_AM_many K M own ad S x v M1) : ∃ r, v = some (.long (iL r)) ∧ zMK K M1 o bd put pS pL nn cir sg lb kn arcs al on tw mns av po ∧ ∀ v2 M2, P_MM_many K M1 o bd put pS pL nn cir sg lb kn arcs al on tw mns av po x v2 M2 → v2 = some (.long (iL r)) ∧ zLI K M2 own ad.x o bd := by
  obtain ⟨a1, a2, a3, a4, a5, a6, a7, a8, a9, a10, a11, a12, a13, a14⟩ := id hR
  obtain ⟨r, rfl, hc⟩ := h1
  have hkp : zKp K own ad S M M1 := by
    rcases hc with ⟨_, _, e⟩ | ⟨_, _, e⟩ | ⟨_, _, e⟩ | ⟨_, fn1, dn1, ad', S', _, _, _, b1, b2, b3, b4⟩ | ⟨_, _, e⟩ | ⟨_, _, e⟩
    · rw [e]; exact zKp_rf hS
    · rw [e]; exact zKp_rf hS
    · rw [e]; exact zKp_rf hS
    · exact ⟨ad', S', b1, b2, b3, b4⟩
    · rw [e]; exact zKp_rf hS
    · rw [e]; exact zKp_rf hS
  refine ⟨r, rfl, zMK_c hO hM hkp.f, fun v2 M2 h2 => ?_⟩
  obtain ⟨r2, rfl, arcs1, al1, on1, tw1, mns1, av1, po1, hKn, hM2, f2, hr⟩ := h2
  refine ⟨?_, zrd_end hO hkp hR hKn hM2 f2⟩
  obtain ⟨k1, k2, k3, k4, k5, k6, k7, k8, k9⟩ := zRl_k hS hR hKn (zMK_hi hM).2
  suffices hrr : r2 = r by rw [hrr]
  rcases hc with ⟨e1, e2, _⟩ | ⟨e1, e2, _⟩ | ⟨e1, e2, _⟩ | ⟨e1, fn1, dn1, _, _, hNF, hD, h3, _⟩ | ⟨e1, e2, _⟩ | ⟨e1, e2, _⟩
  ·
    rcases hr with ⟨q1, q2⟩ | ⟨q1, q2⟩ | ⟨q1, q2⟩ | ⟨q1, q2⟩ | ⟨q1, q2⟩ | ⟨q1, q2⟩ | ⟨q1, q2⟩ | ⟨q1, q2⟩ <;> first | omega | (clear q2; omega)
  ·
    rcases hr with ⟨q1, q2⟩ | ⟨q1, q2⟩ | ⟨q1, q2⟩ | ⟨q1, q2⟩ | ⟨q1, q2⟩ | ⟨q1, q2⟩ | ⟨q1, q2⟩ | ⟨q1, q2⟩ <;> first | omega | (clear q2; omega)
  ·
    rcases hr with ⟨q1, q2⟩ | ⟨q1, q2⟩ | ⟨q1, q2⟩ | ⟨q1, q2⟩ | ⟨q1, q2⟩ | ⟨q1, q2⟩ | ⟨q1, q2⟩ | ⟨q1, q2⟩ <;> first | omega | (clear q2; omega)
  · rw [← k1, a6] at hNF
    obtain ⟨z1, z2⟩ := znf_eq a5 k5 k4 k9.1 k6 k7 k8 hNF
    rcases h3 with ⟨g1, g2⟩ | ⟨g1, g2⟩ | ⟨g1, g2⟩
    · rcases hr with ⟨q1, q2⟩ | ⟨q1, q2⟩ | ⟨q1, q2⟩ | ⟨q1, q2⟩ | ⟨q1, q2⟩ | ⟨q1, q2⟩ | ⟨q1, q2⟩ | ⟨q1, q2⟩
      · exfalso; first | omega | (clear q2; omega)
      · exfalso; first | omega | (clear q2; omega)
      · exfalso; first | omega | (clear q2; omega)
      · rw [g2]; exact (zdeg_eq z1 z2 hD q2).symm
      · exfalso; first | omega | (clear q2; omega)
      · exfalso; first | omega | (clear q2; omega)
      · exfalso; first | omega | (clear q2; omega)
      · exfalso; first | omega | (clear q2; omega)
    · rcases hr with ⟨q1, q2⟩ | ⟨q1, q2⟩ | ⟨q1, q2⟩ | ⟨q1, q2⟩ | ⟨q1, q2⟩ | ⟨q1, q2⟩ | ⟨q1, q2⟩ | ⟨q1, q2⟩
      · exfalso; first | omega | (clear q2; omega)
      · exfalso; first | omega | (clear q2; omega)
      · exfalso; first | omega | (clear q2; omega)
      · exfalso; first | omega | (clear q2; omega)
      · rw [g2, q2]; exact (zval_eq z1 z2 hD 1).symm
      · exfalso; first | omega | (clear q2; omega)
      · exfalso; first | omega | (clear q2; omega)
      · exfalso; first | omega | (clear q2; omega)
    · rcases hr with ⟨q1, q2⟩ | ⟨q1, q2⟩ | ⟨q1, q2⟩ | ⟨q1, q2⟩ | ⟨q1, q2⟩ | ⟨q1, q2⟩ | ⟨q1, q2⟩ | ⟨q1, q2⟩
      · exfalso; first | omega | (clear q2; omega)
      · exfalso; first | omega | (clear q2; omega)
      · exfalso; first | omega | (clear q2; omega)
      · exfalso; first | omega | (clear q2; omega)
      · exfalso; first | omega | (clear q2; omega)
      · rw [g2, q2]; exact (zval_eq z1 z2 hD (-1)).symm
      · exfalso; first | omega | (clear q2; omega)
      · exfalso; first | omega | (clear q2; omega)
  ·
    rcases hr with ⟨q1, q2⟩ | ⟨q1, q2⟩ | ⟨q1, q2⟩ | ⟨q1, q2⟩ | ⟨q1, q2⟩ | ⟨q1, q2⟩ | ⟨q1, q2⟩ | ⟨q1, q2⟩ <;> first | omega | (clear q2; omega)
  ·
    rcases hr with ⟨q1, q2⟩ | ⟨q1, q2⟩ | ⟨q1, q2⟩ | ⟨q1, q2⟩ | ⟨q1, q2⟩ | ⟨q1, q2⟩ | ⟨q1, q2⟩ | ⟨q1, q2⟩ <;> first | omega | (clear q2; omega)
theorem zs_rank (hO : zOw own o bd) (hS : zCS K M own ad S) (hM : zMK K M o bd put pS pL nn cir sg lb kn arcs al on tw mns av po) (hR : zRl S put pS pL nn cir sg lb kn arcs al on tw mns av po) {t pp : Int} (h1 : P_AM_rank K M own ad S t pp v M1) : ∃ r, v = some (.int (iI r)) ∧ zMK K M1 o bd put pS pL nn cir sg lb kn arcs al on tw mns av po ∧ ∀ v2 M2, P_MM_rank K M1 o bd put pS pL nn cir sg lb kn arcs al on tw mns av po t pp v2 M2 → v2 = some (.int (iI r)) ∧ zLI K M2 own ad.x o bd := by
  obtain ⟨a1, a2, a3, a4, a5, a6, a7, a8, a9, a10, a11, a12, a13, a14⟩ := id hR
  obtain ⟨r, rfl, hc⟩ := h1
  rcases hc with ⟨p1, rfl, rfl⟩ | ⟨p1, fd, Fz, F1, ad', S', rfl, hE, b1, b2, b3, b4⟩
  · refine ⟨_, rfl, hM, fun v2 M2 h2 => ?_⟩
    obtain ⟨r2, rfl, ⟨_, rfl, rfl⟩ | ⟨p2, _⟩⟩ := h2
    · exact ⟨rfl, ⟨ad, S, put, pS, pL, nn, cir, sg, lb, kn, arcs, al, on, tw, mns, av, po, rfl, hS, hM, hR⟩⟩
    · exact absurd p2 p1
  · refine ⟨_, rfl, zMK_c hO hM b4, fun v2 M2 h2 => ?_⟩
    obtain ⟨r2, rfl, ⟨p2, _⟩ | ⟨_, arcs1, al1, on1, tw1, mns1, av1, po1, hKn, hM2, f2, G, hEm⟩⟩ := h2
    · exact absurd p1 p2
    · refine ⟨?_, zrd_end hO ⟨ad', S', b1, b2, b3, b4⟩ hR hKn hM2 f2⟩
      obtain ⟨k1, k2, k3, k4, k5, k6, k7, k8, k9⟩ := zRl_k hS hR hKn (zMK_hi hM).2
      rw [← k1, a6] at hE
      have h0 : ∀ i j, 0 ≤ i → i < nn → 0 ≤ j → j < arcs1 → (fun i j => (on1 (32 * i + j) + tw1 (32 * i + j) * (t % pp)) % pp) i j = (fun a b => if 0 ≤ a ∧ a < nn ∧ 0 ≤ b ∧ b < arcs1 then zent S.F S.G (t % pp) pp a b else Fz a b) i j ∧ 0 ≤ (fun a b => if 0 ≤ a ∧ a < nn ∧ 0 ≤ b ∧ b < arcs1 then zent S.F S.G (t % pp) pp a b else Fz a b) i j ∧ (fun a b => if 0 ≤ a ∧ a < nn ∧ 0 ≤ b ∧ b < arcs1 then zent S.F S.G (t % pp) pp a b else Fz a b) i j < pp := fun i j i1 i2 j1 j2 => by
        show (on1 (32 * i + j) + tw1 (32 * i + j) * (t % pp)) % pp = (if 0 ≤ i ∧ i < nn ∧ 0 ≤ j ∧ j < arcs1 then zent S.F S.G (t % pp) pp i j else Fz i j) ∧ 0 ≤ (if 0 ≤ i ∧ i < nn ∧ 0 ≤ j ∧ j < arcs1 then zent S.F S.G (t % pp) pp i j else Fz i j) ∧ (if 0 ≤ i ∧ i < nn ∧ 0 ≤ j ∧ j < arcs1 then zent S.F S.G (t % pp) pp i j else Fz i j) < pp
        have he := zon_eq k4 k5 a5 k9.2 ⟨i1, i2⟩ ⟨j1, j2⟩
        rw [if_pos ⟨i1, i2, j1, j2⟩, he.1, he.2]
        exact ⟨rfl, zemr p1.1⟩
      have z := zEl_Em p1 (by omega) h0 arcs1.toNat (by omega) hE hEm
      rw [z.1]
theorem zw4_cs (k l0 l1 l2 l3 z : Int) : (∃ w, (w = l0 ∨ w = l1 ∨ w = l2 ∨ w = l3) ∧ ∀ f : Int → Int, zw4 f k l0 l1 l2 l3 z = w) ∨ (¬ (4 * k ≤ z ∧ z < 4 * k + 4) ∧ ∀ f : Int → Int, zw4 f k l0 l1 l2 l3 z = f z) := by
  have key : ∀ f : Int → Int, zw4 f k l0 l1 l2 l3 z = if z = 4 * k + 3 then l3 else if z = 4 * k + 2 then l2 else if z = 4 * k + 1 then l1 else if z = 4 * k then l0 else f z := fun f => rfl
  by_cases q3 : z = 4 * k + 3
  · exact Or.inl ⟨l3, Or.inr (Or.inr (Or.inr rfl)), fun f => by rw [key, if_pos q3]⟩
  · by_cases q2 : z = 4 * k + 2
    · exact Or.inl ⟨l2, Or.inr (Or.inr (Or.inl rfl)), fun f => by rw [key, if_neg q3, if_pos q2]⟩
    · by_cases q1 : z = 4 * k + 1
      · exact Or.inl ⟨l1, Or.inr (Or.inl rfl), fun f => by rw [key, if_neg q3, if_neg q2, if_pos q1]⟩
      · by_cases q0 : z = 4 * k
        · exact Or.inl ⟨l0, Or.inl rfl, fun f => by rw [key, if_neg q3, if_neg q2, if_neg q1, if_pos q0]⟩
        · exact Or.inr ⟨by omega, fun f => by rw [key, if_neg q3, if_neg q2, if_neg q1, if_neg q0]⟩
theorem zs_crossing (hO : zOw own o bd) (hS : zCS K M own ad S) (hM : zMK K M o bd put pS pL nn cir sg lb kn arcs al on tw mns av po) (hR : zRl S put pS pL nn cir sg lb kn arcs al on tw mns av po) {s0 l0 l1 l2 l3 : Int} (h1 : P_AM_crossing K M own ad S s0 l0 l1 l2 l3 v M1) : ∃ r, v = some (.int (iI r)) ∧ zMK K M1 o bd put pS pL nn cir sg lb kn arcs al on tw mns av po ∧ ∀ v2 M2, P_MM_crossing K M1 o bd put pS pL nn cir sg lb kn arcs al on tw mns av po s0 l0 l1 l2 l3 v2 M2 → v2 = some (.int (iI r)) ∧ zLI K M2 own ad.x o bd := by
  obtain ⟨a1, a2, a3, a4, a5, a6, a7, a8, a9, a10, a11, a12, a13, a14⟩ := id hR
  obtain ⟨r, rfl, hc⟩ := h1
  rcases hc with ⟨c1, rfl, rfl⟩ | ⟨c1, c2, rfl, rfl⟩ | ⟨c1, c2, rfl, S', b1, b2, b3⟩
  · refine ⟨_, rfl, hM, fun v2 M2 h2 => ?_⟩
    obtain ⟨r2, rfl, ⟨_, rfl, rfl⟩ | ⟨d1, _⟩⟩ := h2
    · exact ⟨rfl, ⟨ad, S, put, pS, pL, nn, cir, sg, lb, kn, arcs, al, on, tw, mns, av, po, rfl, hS, hM, hR⟩⟩
    · exact absurd d1 c1
  · refine ⟨_, rfl, hM, fun v2 M2 h2 => ?_⟩
    obtain ⟨r2, rfl, ⟨_, rfl, rfl⟩ | ⟨d1, d2, _⟩⟩ := h2
    · exact ⟨rfl, ⟨ad, S, put, pS, pL, nn, cir, sg, lb, kn, arcs, al, on, tw, mns, av, po, rfl, hS, hM, hR⟩⟩
    · exfalso; omega
  · refine ⟨_, rfl, zMK_c hO hM b3, fun v2 M2 h2 => ?_⟩
    obtain ⟨r2, rfl, ⟨d1, _, _⟩ | ⟨d1, d2, rfl, hM2, f2⟩⟩ := h2
    · exact absurd ⟨c1, by omega⟩ d1
    · refine ⟨by rw [a2], ad, S', put + 1, zu pS put s0, zw4 pL put l0 l1 l2 l3, nn, cir, sg, lb, kn, arcs, al, on, tw, mns, av, po, rfl, zCS_m hO b1 f2, hM2, ?_⟩
      obtain ⟨e1, e2, e3, e4, e5, e6, e7⟩ := b2
      unfold zRl
      rw [e1, e2, e3, e4, e5, e6, e7, a2]
      refine ⟨⟨by omega, by omega⟩, rfl, fun k h1 h2 => ?_, fun z h1 h2 => ?_, a5, a6, a7, a8, a9, a10, a11, a12, a13, a14⟩
      · by_cases q : k = put
        · rw [q, zu_self, zu_self]; exact ⟨rfl, c1.1⟩
        · rw [zu_ne _ _ q, zu_ne _ _ q]; exact a3 k h1 (by omega)
      · rcases zw4_cs put l0 l1 l2 l3 z with ⟨w, hw, hf⟩ | ⟨hz, hf⟩
        · rw [hf, hf]
          refine ⟨rfl, ?_⟩
          rcases hw with q | q | q | q <;> rw [q]
          · exact c1.2.1
          · exact c1.2.2.1
          · exact c1.2.2.2.1
          · exact c1.2.2.2.2
        · rw [hf, hf]; exact a4 z h1 (by omega)
theorem zs_check (hO : zOw own o bd) (hS : zCS K M own ad S) (hM : zMK K M o bd put pS pL nn cir sg lb kn arcs al on tw mns av po) (hR : zRl S put pS pL nn cir sg lb kn arcs al on tw mns av po) {ci : Int} (h1 : P_AM_check K M own ad S ci v M1) : ∃ r, v = some (.int (iI r)) ∧ zMK K M1 o bd put pS pL nn cir sg lb kn arcs al on tw mns av po ∧ ∀ v2 M2, P_MM_check K M1 o bd put pS pL nn cir sg lb kn arcs al on tw mns av po ci v2 M2 → v2 = some (.int (iI r)) ∧ zLI K M2 own ad.x o bd := by
  obtain ⟨a1, a2, a3, a4, a5, a6, a7, a8, a9, a10, a11, a12, a13, a14⟩ := id hR
  obtain ⟨r, rfl, hc⟩ := h1
  rcases hc with ⟨c1, rfl, rfl⟩ | ⟨c1, hB, hc, b3⟩
  · refine ⟨_, rfl, hM, fun v2 M2 h2 => ?_⟩
    obtain ⟨r2, rfl, ⟨_, rfl, rfl⟩ | ⟨d1, _⟩⟩ := h2
    · exact ⟨rfl, ⟨ad, S, put, pS, pL, nn, cir, sg, lb, kn, arcs, al, on, tw, mns, av, po, rfl, hS, hM, hR⟩⟩
    · exfalso; omega
  · refine ⟨_, rfl, zMK_c hO hM b3, fun v2 M2 h2 => ?_⟩
    obtain ⟨r2, rfl, ⟨d1, _, _⟩ | ⟨_, hT, hd, f2⟩⟩ := h2
    · exfalso; omega
    · rw [a2] at hB
      have cl : ∀ x, 0 ≤ x → x < 4 * put → zcp pL lb (4 * put) x = S.plb x := fun x h1 h2 => by
        unfold zcp
        rw [if_pos ⟨h1, h2⟩]
        exact (a4 x h1 h2).1
      have cg : ∀ k, 0 ≤ k → k < put → zcp pS sg put k = S.psg k := fun k h1 h2 => by
        unfold zcp
        rw [if_pos ⟨h1, h2⟩]
        exact (a3 k h1 h2).1
      obtain ⟨rfl, hz⟩ := zchk a1 cl cg (fun k h1 h2 => (a3 k h1 h2).2) hB hT
      refine ⟨rfl, ?_⟩
      rcases hc with ⟨r0, S', b1, e1, e2, e3, e4, e5, e6, e7⟩ | ⟨r0, S', b1, e1, e2, e3, e4, e5, e6, e7⟩
      · rcases hd with ⟨_, sg', lb', g1, g2, hM2⟩ | ⟨q, _⟩
        · refine ⟨ad, S', 0, pS, pL, nn, cir, sg', lb', 0, arcs, al, on, tw, mns, av, po, rfl, zCS_m hO b1 f2, hM2, ?_⟩
          unfold zRl
          rw [e1, e2, e3, e4, e5, e6, e7]
          exact ⟨⟨by omega, by omega⟩, rfl, fun k h1 h2 => by omega, fun z h1 h2 => by omega, a5, a6, a7, a8, fun k h1 h2 => by rw [g1 k h1 (by omega)]; exact a9 k h1 h2, fun x h1 h2 => by rw [g2 x h1 (by omega)]; exact a10 x h1 h2, a11, a12, a13, Or.inl rfl⟩
        · exact absurd q r0
      · rcases hd with ⟨q, _⟩ | ⟨_, hM2⟩
        · exact absurd r0 q
        · refine ⟨ad, S', 0, pS, pL, put, ci, zcp pS sg put, zcp pL lb (4 * put), 0, arcs, al, on, tw, mns, av, po, rfl, zCS_m hO b1 f2, hM2, ?_⟩
          unfold zRl
          rw [e1, e2, e3, e4, e5, e6, e7]
          exact ⟨⟨by omega, by omega⟩, rfl, fun k h1 h2 => by omega, fun z h1 h2 => by omega, a1, a2, rfl, c1, fun k h1 h2 => ⟨cg k h1 h2, (a3 k h1 h2).2⟩, fun x h1 h2 => ⟨cl x h1 h2, (a4 x h1 h2).2⟩, hS.w.c1.hC.2.2.2, (hz r0).1, (hz r0).2, Or.inl rfl⟩
theorem zs_change (hO : zOw own o bd) (hS : zCS K M own ad S) (hM : zMK K M o bd put pS pL nn cir sg lb kn arcs al on tw mns av po) (hR : zRl S put pS pL nn cir sg lb kn arcs al on tw mns av po) {k : Int} (h1 : P_AM_change K M own ad S k v M1) : ∃ r, v = some (.int (iI r)) ∧ zMK K M1 o bd put pS pL nn cir sg lb kn arcs al on tw mns av po ∧ ∀ v2 M2, P_MM_change K M1 o bd put pS pL nn cir sg lb kn arcs al on tw mns av po k v2 M2 → v2 = some (.int (iI r)) ∧ zLI K M2 own ad.x o bd := by
  obtain ⟨a1, a2, a3, a4, a5, a6, a7, a8, a9, a10, a11, a12, a13, a14⟩ := id hR
  obtain ⟨r, rfl, hc⟩ := h1
  rcases hc with ⟨c1, rfl, rfl⟩ | ⟨c1, rfl, S', b1, b2, b3⟩
  · refine ⟨_, rfl, hM, fun v2 M2 h2 => ?_⟩
    obtain ⟨r2, rfl, ⟨_, rfl, rfl⟩ | ⟨d1, _⟩⟩ := h2
    · exact ⟨rfl, ⟨ad, S, put, pS, pL, nn, cir, sg, lb, kn, arcs, al, on, tw, mns, av, po, rfl, hS, hM, hR⟩⟩
    · exfalso; omega
  · refine ⟨_, rfl, zMK_c hO hM b3, fun v2 M2 h2 => ?_⟩
    obtain ⟨r2, rfl, ⟨d1, _, _⟩ | ⟨d1, rfl, bg, hbg, hM2, f2⟩⟩ := h2
    · exfalso; omega
    · refine ⟨rfl, ad, S', put, pS, pL, nn, cir, zu sg k (-sg k), zch lb k bg, 0, arcs, al, on, tw, mns, av, po, rfl, zCS_m hO b1 f2, hM2, ?_⟩
      have hi := b1.w.c2.hC.2.2.2
      obtain ⟨e1, e2, e3, e4, e5, e6, e7⟩ := b2
      have hk9 := a9 k d1.1 d1.2
      rw [hk9.1] at hbg
      have hl : ∀ x, 0 ≤ x → x < 4 * nn → lb x = S.lb x := fun x h1 h2 => (a10 x h1 h2).1
      have hc1 := zch_eq hl d1 hk9.2 hbg
      have hc2 := zch_eq (lb' := S.lb) (lb := S.lb) (fun _ _ _ => rfl) d1 hk9.2 hbg
      obtain ⟨hG, hH⟩ := zchange d1 hk9.2 hbg a12 a13
      have hb2 : bg = 1 ∨ bg = 3 := by rw [hbg]; split; exact Or.inr rfl; exact Or.inl rfl
      unfold zRl
      rw [e6] at hi
      rw [e1, e2, e3, e4, e5, e6, e7]
      refine ⟨a1, a2, a3, a4, a5, a6, a7, a8, fun j h1 h2 => ?_, fun x h1 h2 => ?_, hi, zGd_cg hc2 (fun _ _ _ => rfl) hG, zHt_cg hc2 (fun _ _ _ => rfl) hH, Or.inl rfl⟩
      · by_cases q : j = k
        · rw [q, zu_self, zu_self, hk9.1]
          refine ⟨rfl, ?_⟩
          rcases hk9.2 with w | w <;> rw [w]
          · exact Or.inr rfl
          · exact Or.inl rfl
        · rw [zu_ne _ _ q, zu_ne _ _ q]; exact a9 j h1 h2
      · refine ⟨hc1 x h1 h2, ?_⟩
        rw [← hc1 x h1 h2]
        unfold zch
        split
        · have h9 := a10 (4 * k + (bg + (x - 4 * k)) % 4) (by omega) (by omega)
          rw [h9.1]; exact h9.2
        · rw [(a10 x h1 h2).1]; exact (a10 x h1 h2).2
theorem zs_smooth (hO : zOw own o bd) (hS : zCS K M own ad S) (hM : zMK K M o bd put pS pL nn cir sg lb kn arcs al on tw mns av po) (hR : zRl S put pS pL nn cir sg lb kn arcs al on tw mns av po) {k : Int} (h1 : P_AM_smooth K M own ad S k v M1) : ∃ r, v = some (.int (iI r)) ∧ zMK K M1 o bd put pS pL nn cir sg lb kn arcs al on tw mns av po ∧ ∀ v2 M2, P_MM_smooth K M1 o bd put pS pL nn cir sg lb kn arcs al on tw mns av po k v2 M2 → v2 = some (.int (iI r)) ∧ zLI K M2 own ad.x o bd := by
  obtain ⟨a1, a2, a3, a4, a5, a6, a7, a8, a9, a10, a11, a12, a13, a14⟩ := id hR
  obtain ⟨r, rfl, hc⟩ := h1
  have hbg : ∀ (_ : 0 ≤ k ∧ k < nn), (if 0 < sg k then (3 : Int) else 1) = zup (S.sg k) ∧ (zup (S.sg k) + 2) % 4 = zuo (S.sg k) ∧ lb (4 * k) = S.lb (4 * k) ∧ lb (4 * k + 2) = S.lb (4 * k + 2) ∧ lb (4 * k + zuo (S.sg k)) = S.lb (4 * k + zuo (S.sg k)) ∧ lb (4 * k + zup (S.sg k)) = S.lb (4 * k + zup (S.sg k)) ∧ zmy (S.lb (4 * k)) (S.lb (4 * k + zuo (S.sg k))) (S.lb (4 * k + zup (S.sg k))) (S.lb (4 * k + 2)) = zcl S.sg S.lb k := fun hk => by
    have h9 := a9 k hk.1 hk.2
    obtain ⟨_, f1, f2, f3, f4, f5⟩ := zfour hk h9.2 a12 a13
    have hz : (if 0 < sg k then (3 : Int) else 1) = zup (S.sg k) ∧ (zup (S.sg k) + 2) % 4 = zuo (S.sg k) := by
      rw [h9.1]
      unfold zup zuo
      rcases h9.2 with w | w <;> rw [w] <;> exact ⟨rfl, rfl⟩
    refine ⟨hz.1, hz.2, (a10 _ (by omega) (by omega)).1, (a10 _ (by omega) (by omega)).1, (a10 _ (by omega) (by omega)).1, (a10 _ (by omega) (by omega)).1, ?_⟩
    unfold zmy zcl
    (repeat' split) <;> omega
  rcases hc with ⟨c1, rfl, rfl⟩ | ⟨c1, rfl, S', b1, b2, b3⟩
  · refine ⟨_, rfl, hM, fun v2 M2 h2 => ?_⟩
    obtain ⟨r2, rfl, ⟨_, rfl, rfl⟩ | ⟨d1, _⟩⟩ := h2
    · exact ⟨rfl, ⟨ad, S, put, pS, pL, nn, cir, sg, lb, kn, arcs, al, on, tw, mns, av, po, rfl, hS, hM, hR⟩⟩
    · exfalso
      obtain ⟨g1, g2, g3, g4, g5, g6, g7⟩ := hbg d1.1
      rw [g1, g2, g3, g4, g5, g6, g7] at d1
      exact c1 ⟨⟨d1.1.1, by rw [a6]; exact d1.1.2⟩, by rw [a7]; exact d1.2⟩
  · have hk : 0 ≤ k ∧ k < nn := ⟨c1.1.1, by rw [← a6]; exact c1.1.2⟩
    obtain ⟨g1, g2, g3, g4, g5, g6, g7⟩ := hbg hk
    refine ⟨_, rfl, zMK_c hO hM b3, fun v2 M2 h2 => ?_⟩
    obtain ⟨r2, rfl, ⟨d1, _, _⟩ | ⟨d1, rfl, cir', lb', bg, hb, hSm, hM2, f2⟩⟩ := h2
    · exfalso
      rw [g1, g2, g3, g4, g5, g6, g7] at d1
      exact d1 ⟨hk, by rw [← a7]; exact c1.2⟩
    · rw [g1] at hb
      rw [hb, g2, g3, g4, g5, g6] at hSm
      have h9 := a9 k hk.1 hk.2
      have hl : ∀ x, 0 ≤ x → x < 4 * nn → lb x = S.lb x := fun x h1 h2 => (a10 x h1 h2).1
      obtain ⟨s1, s2, _⟩ := zSmo_eq a5.2 hk h9.2 a12 a13 hl hSm
      have hro := zjs_ro a5.2 hk h9.2 a12 a13
      obtain ⟨hG, hH⟩ := zsmooth a5.2 hk h9.2 a12 a13
      have hcl := zcl_in S.sg S.lb k
      have hi := b1.w.c2.hC.2.2.2
      have hv : zup (S.sg k) = 1 ∨ zup (S.sg k) = 3 := by unfold zup; split; exact Or.inr rfl; exact Or.inl rfl
      have hv2 : zuo (S.sg k) = 1 ∨ zuo (S.sg k) = 3 := by unfold zuo; split; exact Or.inl rfl; exact Or.inr rfl
      obtain ⟨e1, e2, e3, e4, e5, e6, e7⟩ := b2
      refine ⟨rfl, ad, S', put, pS, pL, nn - 1, cir', zot sg k (nn - 1) 1, lb', 0, arcs, al, on, tw, mns, av, po, rfl, zCS_m hO b1 f2, hM2, ?_⟩
      unfold zRl
      rw [e6] at hi
      rw [e1, e2, e3, e4, e5, e6, e7]
      rw [a6] at hi ⊢
      refine ⟨a1, a2, a3, a4, ⟨by omega, by omega⟩, rfl, by rw [s1, a7], ⟨by omega, by have := c1.2; omega⟩, fun j h1 h2 => ?_, fun x h1 h2 => ?_, hi, hG, hH, Or.inl rfl⟩
      · unfold zot zrs
        by_cases q : k ≤ j ∧ j < nn - 1
        · rw [if_pos q, if_pos q]; exact a9 _ (by omega) (by omega)
        · rw [if_neg q, if_neg q]; exact a9 _ h1 (by omega)
      · refine ⟨s2 x h1 h2, ?_⟩
        rw [hro x h1 h2]
        have i1 := (a10 (4 * k) (by omega) (by omega)).2
        have i2 := (a10 (4 * k + zuo (S.sg k)) (by omega) (by omega)).2
        have i3 := (a10 (4 * k + zup (S.sg k)) (by omega) (by omega)).2
        have i4 := (a10 (4 * k + 2) (by omega) (by omega)).2
        have i5 := (a10 (zop k x) (by unfold zop; split <;> omega) (by unfold zop; split <;> omega)).2
        generalize S.lb (4 * k) = li at *
        generalize S.lb (4 * k + zuo (S.sg k)) = uo at *
        generalize S.lb (4 * k + zup (S.sg k)) = up at *
        generalize S.lb (4 * k + 2) = lo at *
        generalize S.lb (zop k x) = w at *
        unfold zro
        (repeat' split) <;> omega
end ZLAW
