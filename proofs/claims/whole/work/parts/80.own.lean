theorem zCS_own {K : Nat → ClassId} {M : zq_M} {own own' : Nat → Nat} {ad : zAd} {S : zSt} (h : zCS K M own ad S) (hk : ∀ q, own q ≤ 8 → own' q = own q) : zCS K M own' ad S := by
  have k : ∀ {j q : Nat}, own q = j → j ≤ 8 → own' q = j := fun hq hj => (hk _ (by omega)).trans hq
  have k1 : ∀ {j a b c : Nat} {cnt : Int} {sg lb : Int → Int}, j ≤ 8 → zc1 K M own j a b c cnt sg lb → zc1 K M own' j a b c cnt sg lb := fun hj h => ⟨k h.1 hj, k h.2.1 hj, k h.2.2.1 hj, h.2.2.2⟩
  have k4 : ∀ {a b c d : Nat} {p0 cc : Int} {al at0 ls0 : Int → Int}, zc4 K M own a b c d p0 cc al at0 ls0 → zc4 K M own' a b c d p0 cc al at0 ls0 := fun h => ⟨k h.1 (by decide), k h.2.1 (by decide), k h.2.2.1 (by decide), k h.2.2.2.1 (by decide), h.2.2.2.2⟩
  have k5 : ∀ {a b c : Nat} {ra rb : Int → Nat} {rw0 co0 : Int} {F G : Int → Int → Int}, zc5 K M own a b c ra rb rw0 co0 F G → zc5 K M own' a b c ra rb rw0 co0 F G := fun h => ⟨k h.1 (by decide), k h.2.1 (by decide), k h.2.2.1 (by decide), fun i h1 h2 => k (h.2.2.2.1 i h1 h2) (by decide), fun i h1 h2 => k (h.2.2.2.2.1 i h1 h2) (by decide), h.2.2.2.2.2⟩
  obtain ⟨⟨w1, w2, w3, w4, w5, ⟨p0, cc0, w6⟩, ⟨rw0, co0, w7⟩, w8, w9, w10, w11⟩, h2, h3, h4⟩ := h
  exact ⟨⟨k w1 (by decide), w2, k1 (by decide) w3, k1 (by decide) w4, ⟨k w5.1 (by decide), k w5.2.1 (by decide), k w5.2.2.1 (by decide), k w5.2.2.2.1 (by decide), k w5.2.2.2.2.1 (by decide), w5.2.2.2.2.2⟩, ⟨p0, cc0, k4 w6⟩, ⟨rw0, co0, k5 w7⟩, ⟨k w8.1 (by decide), k w8.2.1 (by decide), k w8.2.2.1 (by decide), k w8.2.2.2.1 (by decide), k w8.2.2.2.2.1 (by decide), k w8.2.2.2.2.2.1 (by decide), k w8.2.2.2.2.2.2.1 (by decide), k w8.2.2.2.2.2.2.2.1 (by decide), k w8.2.2.2.2.2.2.2.2.1 (by decide), fun i h1 h2 => ⟨k (w8.2.2.2.2.2.2.2.2.2.1 i h1 h2).1 (by decide), k (w8.2.2.2.2.2.2.2.2.2.1 i h1 h2).2 (by decide)⟩, w8.2.2.2.2.2.2.2.2.2.2⟩, ⟨k w9.1 (by decide), k w9.2.1 (by decide), fun i h1 h2 => k (w9.2.2.1 i h1 h2) (by decide), w9.2.2.2⟩, ⟨k w10.1 (by decide), k w10.2.1 (by decide), w10.2.2⟩, w11⟩, k4 h2, k5 h3, h4⟩
theorem zMK_o {K : Nat → ClassId} {M : zq_M} {o : Nat} {bd : Nat → Nat} {put nn cir kn arcs mns : Int} {pS pL sg lb al on tw av po : Int → Int} (h : zMK K M o bd put pS pL nn cir sg lb kn arcs al on tw mns av po) : ∃ fs, M o = some (.inr (9, fs)) := by
  obtain ⟨th, wr, oN, oC, lbs, fcs, oS, oL, rw1, fr, pi, fo, sm, le, gd, g0, _⟩ := h
  exact ⟨_, g0⟩
/-- the law's start -/
theorem zLI_0 {K : Nat → ClassId} {Ma Mb Mc Md : zq_M} {x o : Nat} {v v2 : Option Value} (h1 : P_AM_init K Ma x v Mb) (hq : Mb o = none) (ho : ∀ b, b ≠ o → Mc b = Mb b) (h2 : P_MM_init K Mc o v2 Md) : ∃ own bd, zOw own o bd ∧ zLI K Md own x o bd := by
  obtain ⟨_, ad, own, hx, hS, _, hn⟩ := h1
  obtain ⟨_, bd, hM, hbn, hf⟩ := h2
  have hoq : ∀ q, own q ≤ 8 → q ≠ o ∧ (∀ i, i < 18 → q ≠ bd i) ∧ Md q = Mb q := fun q hq8 => by
    have h8 := hn q hq8
    have e1 : q ≠ o := fun z => h8 (by rw [z]; exact hq)
    have e2 : Mc q ≠ none := by rw [ho q e1]; exact h8
    exact ⟨e1, fun i hi z => e2 (by rw [z]; exact hbn i hi), (hf q e2 e1).trans (ho q e1)⟩
  have hdc : ∀ q, Decidable (q = o ∨ ∃ i, i < 18 ∧ q = bd i) := fun q => Classical.propDecidable _
  refine ⟨fun q => if q = o ∨ ∃ i, i < 18 ∧ q = bd i then 9 else own q, bd, ⟨?_, fun i hi => ?_⟩, ad, _, 0, fun _ => 0, fun _ => 0, 0, 0, fun _ => 0, fun _ => 0, 0, 0, fun _ => 0, fun _ => 0, fun _ => 0, 0, fun _ => 0, fun _ => 0, hx, zCS_k (zCS_own hS fun q hq8 => ?_) (fun q hq8 => ?_), hM, ?_⟩
  · exact if_pos (Or.inl rfl)
  · exact if_pos (Or.inr ⟨i, hi, rfl⟩)
  · obtain ⟨e1, e2, _⟩ := hoq q hq8
    exact if_neg (fun z => z.elim e1 fun ⟨i, hi, w⟩ => e2 i hi w)
  · by_cases z : q = o ∨ ∃ i, i < 18 ∧ q = bd i
    · rw [if_pos z] at hq8; omega
    · rw [if_neg z] at hq8; exact (hoq q hq8).2.2
  · exact ⟨⟨by decide, by decide⟩, rfl, fun k h1 h2 => by omega, fun z h1 h2 => by omega, ⟨by decide, by decide⟩, rfl, rfl, ⟨by decide, by decide⟩, fun k h1 h2 => by omega, fun x h1 h2 => by omega, fun j => (by decide : inI 0), ⟨fun x h1 h2 => by omega, fun x y h1 h2 => by omega⟩, ⟨fun _ => 0, fun x y h1 h2 => by omega⟩, Or.inl rfl⟩
theorem zstart {s : State} {args : Array Value} (hts0 : ∀ w ∈ lw_tbl, w.before args s = true) : ∃ (D : va_G) (K : Nat → ClassId), zK D vwCl (zT K) s := by
  have hts : ∀ w ∈ lw_gd, w.before args s = true := fun w h => hts0 w (List.mem_filter.mp h).1
  obtain ⟨c0, i0, h0⟩ := u_known (C := R_AM) (T := F_AM) (N := 10) (n := 10) hts i_AM (hts _ tw_15)
  obtain ⟨c1, i1, h1⟩ := u_known (C := R_AL) (T := F_AL) (N := 5) (n := 5) hts i_AL (hts _ tw_60)
  obtain ⟨c2, i2, h2⟩ := u_known (C := R_CR) (T := F_CR) (N := 3) (n := 3) hts i_CR (hts _ tw_23)
  obtain ⟨c3, i3, h3⟩ := u_known (C := R_DT) (T := F_DT) (N := 3) (n := 3) hts i_DT (hts _ tw_109)
  obtain ⟨c4, i4, h4⟩ := u_known (C := R_DR) (T := F_DR) (N := 4) (n := 4) hts i_DR (hts _ tw_40)
  obtain ⟨c5, i5, h5⟩ := u_known (C := R_ET) (T := F_ET) (N := 4) (n := 4) hts i_ET (hts _ tw_82)
  obtain ⟨c6, i6, h6⟩ := u_known (C := R_MT) (T := F_MT) (N := 5) (n := 5) hts i_MT (hts _ tw_103)
  obtain ⟨c7, i7, h7⟩ := u_known (C := R_MR) (T := F_MR) (N := 1) (n := 1) hts i_MR (hts _ tw_170)
  obtain ⟨c8, i8, h8⟩ := u_known (C := R_PO) (T := F_PO) (N := 2) (n := 2) hts i_PO (hts _ tw_116)
  obtain ⟨c9, i9, h9⟩ := u_known (C := R_MM) (T := F_MM) (N := 30) (n := 30) hts i_MM (hts _ tw_581)
  obtain ⟨aI, kI, cpI, fI, gI, eI⟩ := Cond.arrayClass_spec (hts _ tw_38)
  obtain ⟨aJ, kJ, cpJ, fJ, gJ, eJ⟩ := Cond.arrayClass_spec (hts _ tw_128)
  obtain ⟨aZ, kZ, cpZ, fZ, gZ, eZ⟩ := Cond.arrayClass_spec (hts _ tw_58)
  have hP : va_AO "AlexanderMatrix$Polynomial" s := va_AO.of (hts0 _ tw_115)
  obtain ⟨cpP, aP, kP, p1, p2, p3, p4, p5⟩ := Cond.arrayOver_spec hP
  have hG : (Cond.arrayOver (.array .int)).before #[] s = true := hts0 _ tw_88
  obtain ⟨cpG, aG, kG, g1, g2, g3, g4, g5⟩ := zAO_spec hG
  refine ⟨(fun k => ([c0, c1, c2, c3, c4, c5, c6, c7, c8, c9] : List ClassId).getD k c0, fun k => ([i0, i1, i2, i3, i4, i5, i6, i7, i8, i9] : List (Nat → Nat)).getD k i0), fun k => ([aI, aJ, aZ, aP, aG] : List ClassId).getD k aI, ⟨fun k q hq => ?_, fun k q hq => ?_⟩, hP, hG⟩
  · match k, hq with
    | 0, hq => obtain rfl := Option.some.inj hq; exact h0
    | 1, hq => obtain rfl := Option.some.inj hq; exact h1
    | 2, hq => obtain rfl := Option.some.inj hq; exact h2
    | 3, hq => obtain rfl := Option.some.inj hq; exact h3
    | 4, hq => obtain rfl := Option.some.inj hq; exact h4
    | 5, hq => obtain rfl := Option.some.inj hq; exact h5
    | 6, hq => obtain rfl := Option.some.inj hq; exact h6
    | 7, hq => obtain rfl := Option.some.inj hq; exact h7
    | 8, hq => obtain rfl := Option.some.inj hq; exact h8
    | 9, hq => obtain rfl := Option.some.inj hq; exact h9
    | k + 10, hq => simp at hq
  · match k, hq with
    | 0, hq => obtain rfl := Option.some.inj hq; exact ⟨fun n z => ⟨(fun k h => by cases h), kI, gI, cpI, eI⟩, fI⟩
    | 1, hq => obtain rfl := Option.some.inj hq; exact ⟨fun n z => ⟨(fun k h => by cases h), kJ, gJ, cpJ, eJ⟩, fJ⟩
    | 2, hq => obtain rfl := Option.some.inj hq; exact ⟨fun n z => ⟨(fun k h => by cases h), kZ, gZ, cpZ, eZ⟩, fZ⟩
    | 3, hq => obtain rfl := Option.some.inj hq; exact ⟨fun n z => ⟨(fun k h => by cases h), kP, p3, cpP, p4⟩, kP, cpP, p3, p4, p1, p5⟩
    | 4, hq => obtain rfl := Option.some.inj hq; exact ⟨fun n z => ⟨(fun k h => by cases h), kG, g3, cpG, g4⟩, g5⟩
    | k + 5, hq => simp at hq
theorem zok_check {K : Nat → ClassId} {M : zq_M} {own : Nat → Nat} {ad : zAd} {S : zSt} {put nn cir kn arcs mns : Int} {pS pL sg lb al on tw av po : Int → Int} (hS : zCS K M own ad S) (hR : zRl S put pS pL nn cir sg lb kn arcs al on tw mns av po) (h : zFB S.pn S.psg S.plb 0) : zOkD S.pn S.psg S.plb := by
  obtain ⟨a1, a2, a3, a4, _⟩ := hR
  rw [← a2] at a1 a3 a4
  exact zOkD_of a1 hS.w.c1.hC.2.2.2 (zFB_gd (fun k h1 h2 => (a3 k h1 h2).2) h) (fun x h1 h2 => (a4 x h1 h2).2.1)
theorem zok_change {K : Nat → ClassId} {M : zq_M} {own : Nat → Nat} {ad : zAd} {S : zSt} {put nn cir kn arcs mns : Int} {pS pL sg lb al on tw av po : Int → Int} {k : Int} (hS : zCS K M own ad S) (hR : zRl S put pS pL nn cir sg lb kn arcs al on tw mns av po) (hk : 0 ≤ k ∧ k < S.n) : zOkD S.n (zu S.sg k (-S.sg k)) (zsw S.sg S.lb k) := by
  obtain ⟨a1, a2, a3, a4, a5, a6, a7, a8, a9, a10, a11, a12, a13, a14⟩ := hR
  rw [← a6] at a5 a9 a10 a12 a13
  have hs := (a9 k hk.1 hk.2).2
  obtain ⟨bg, hbg⟩ : ∃ z : Int, z = if 0 < S.sg k then 3 else 1 := ⟨_, rfl⟩
  have hb2 : bg = 1 ∨ bg = 3 := by rw [hbg]; split; exact Or.inr rfl; exact Or.inl rfl
  have hc2 := zch_eq (lb' := S.lb) (lb := S.lb) (fun _ _ _ => rfl) hk hs hbg
  refine zOkD_of a5 (zC_swap hk hS.w.c2.hC hs).2.2.2 (zGd_cg hc2 (fun _ _ _ => rfl) (zchange hk hs hbg a12 a13).1) (fun x h1 h2 => ?_)
  rw [← hc2 x h1 h2]
  unfold zch
  split
  · exact (a10 _ (by omega) (by omega)).2.1
  · exact (a10 x h1 h2).2.1
theorem zok_smooth {K : Nat → ClassId} {M : zq_M} {own : Nat → Nat} {ad : zAd} {S : zSt} {put nn cir kn arcs mns : Int} {pS pL sg lb al on tw av po : Int → Int} {k : Int} (hS : zCS K M own ad S) (hR : zRl S put pS pL nn cir sg lb kn arcs al on tw mns av po) (hk : 0 ≤ k ∧ k < S.n) : zOkD (S.n - 1) (zrs S.sg S.n k) (zjs S.sg S.lb S.n k) := by
  obtain ⟨a1, a2, a3, a4, a5, a6, a7, a8, a9, a10, a11, a12, a13, a14⟩ := hR
  rw [← a6] at a5 a9 a10 a12 a13
  have hs := (a9 k hk.1 hk.2).2
  have hro := zjs_ro a5.2 hk hs a12 a13
  have hv : zup (S.sg k) = 1 ∨ zup (S.sg k) = 3 := by unfold zup; split; exact Or.inr rfl; exact Or.inl rfl
  have hv2 : zuo (S.sg k) = 1 ∨ zuo (S.sg k) = 3 := by unfold zuo; split; exact Or.inl rfl; exact Or.inr rfl
  refine zOkD_of ⟨by omega, by omega⟩ (zC_join hk hS.w.c2.hC).2.2.2 (zsmooth a5.2 hk hs a12 a13).1 (fun x h1 h2 => ?_)
  rw [hro x h1 h2]
  have i1 := (a10 (4 * k) (by omega) (by omega)).2
  have i2 := (a10 (4 * k + zuo (S.sg k)) (by omega) (by omega)).2
  have i3 := (a10 (4 * k + zup (S.sg k)) (by omega) (by omega)).2
  have i4 := (a10 (4 * k + 2) (by omega) (by omega)).2
  have i5 := (a10 (zop k x) (by unfold zop; split <;> omega) (by unfold zop; split <;> omega)).2
  generalize S.lb (4 * k) = li at *
  generalize S.lb (4 * k + zuo (S.sg k)) = uo at *
  generalize S.lb (4 * k + zup (S.sg k)) = up at *
  generalize S.lb (4 * k + 2) = lo at *
  generalize S.lb (zop k x) = w at *
  unfold zro
  (repeat' split) <;> omega
theorem zofN {L : Nat} (h : L < 2 ^ 31) : Int32.ofNat L = iI (L : Int) := Int32.toInt_inj.mp ((nI_toInt h).trans (iI_toInt (by omega)).symm)
