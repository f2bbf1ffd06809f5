abbrev P_AM_readDiagram (K : Nat → ClassId) (M : zq_M) (own : Nat → Nat) (ad : zAd) (S : zSt) : Option Value → zq_M → Prop := fun v M' => v = none ∧ ∃ cN lN N, zCS K M' own ad ((S.pn, S.psg, S.plb, S.n, S.sg, S.lb, S.cir, cN, lN, (zcp S.lb S.al0 (4 * S.n)), (zja S.sg (zcp S.lb S.at0 (4 * S.n)) (4 * S.n) S.n.toNat), (fun z => if cN ≤ z ∧ z < cN + S.cir then 0 else lN z), N, (fun k => if 0 ≤ k ∧ k < S.n then zrc S.sg N k else S.F k), (fun k => if 0 ≤ k ∧ k < S.n then zrt S.sg N k else S.G k), S.lr, S.lc, 0, S.dl, S.fl, 0, S.dn, S.fn) : zSt) ∧ ∀ q, own q ≠ 0 → own q ≠ 4 → own q ≠ 5 → own q ≠ 6 → M' q = M q
set_option maxHeartbeats 4000000 in
set_option maxRecDepth 100000 in
theorem c_AM_readDiagram (l : Launch) (D : va_G) (K : Nat → ClassId) (M : zq_M) (own : Nat → Nat) (ad : zAd) (S : zSt) (hW : zCW K M own ad S) (hOk : zOkD S.n S.sg S.lb) : zq_Met l y_AM_readDiagram (.code y_AM_readDiagram b_AM_readDiagram 1 none :: lw_gd) { frames := 4, cells := 0, slots := 0, locals := 89 } D vwCl (zT K) [.ref ad.x] M (P_AM_readDiagram K M own ad S) 0 0 := by
  refine zq_start (cc := b_AM_readDiagram) (maxL := 1) (ret := none) (by decide) rfl (Nat.le_of_ble_eq_true rfl) ?_
  intro p e s m below meth co A ls hx hb hr hml hts hown hnm hlocks hA hZ hw hl
  have hts : ∀ w ∈ lw_gd, w.before [.ref ad.x].toArray s = true := fun w h => hts w (List.mem_cons_of_mem _ h)
  have hown : s.vm.findClass R_AM = some m.cls := hown
  have hK := hZ.1
  have hl : lv_has ls 1 [(0, .ref ad.x)] := hl
  have hfr : ∀ q, own q ≠ 0 → own q ≠ 4 → own q ≠ 5 → own q ≠ 6 → M q = M q := fun q _ _ _ _ => rfl
  have ox := hW.ox
  have h_x := hW.hx
  have c1 := hW.c1
  have c2 := hW.c2
  have c3 := hW.c3
  obtain ⟨p0, cc0, c4⟩ := hW.c4
  obtain ⟨rw0, co0, c5⟩ := hW.c5
  have c6 := hW.c6
  have c7 := hW.c7
  have c8 := hW.c8
  have hci := hW.hci
  have hlr := hW.hlr
  refine lv_aload_n hx hb d_AM_readDiagram_0 rfl (lv_at hl 0 rfl) ?_
  refine zq_get hx hb hts i_AM hown hK hw h_x rfl 3 (by decide) (hts _ tw_185) rfl d_AM_readDiagram_1 ?_
  refine lv_aload_n hx hb d_AM_readDiagram_4 rfl (lv_at hl 0 rfl) ?_
  refine zq_get hx hb hts i_AM hown hK hw h_x rfl 1 (by decide) (hts _ tw_183) rfl d_AM_readDiagram_5 ?_
  refine lv_aload_n hx hb d_AM_readDiagram_8 rfl (lv_at hl 0 rfl) ?_
  refine zq_get hx hb hts i_AM hown hK hw h_x rfl 8 (by decide) (hts _ tw_190) rfl d_AM_readDiagram_9 ?_
  refine zq_callV (As := [.ref ad.di, .int (iI S.cir)]) (rest := []) ⟨hx, hb, hml, hown, hts⟩ (c_AL_read l D K M ad.al ad.a1 ad.a2 ad.a3 p0 cc0 S.al0 S.at0 S.ls0 ad.di ad.dis ad.dil S.n S.sg S.lb S.cir c4.ho c4.ha c4.hb c4.hc c4.hab c4.hA c2.ho c2.hs c2.hl c2.hC (fun z => by have h1 := c4.oa; have h2 := c2.ol; rw [z] at h1; omega) (fun z => by have h1 := c4.ob; have h2 := c2.ol; rw [z] at h1; omega) hci (hOk.2 _ (fun z h1 h2 => if_pos ⟨h1, h2⟩))) (cwV 2 hts (zg_V tw_314 tw_315 tw_316 tw_4 tw_317) rfl rfl rfl (by decide +kernel) ⟨Nat.le_of_ble_eq_true rfl, Nat.le_of_ble_eq_true rfl⟩) hZ hw hA c4.ho rfl rfl rfl rfl hl.1 (Nat.le_of_ble_eq_true rfl) d_AM_readDiagram_12 ⟨Nat.le_of_ble_eq_true rfl, Nat.le_of_ble_eq_true rfl⟩ (fun v M1 H locs hp hw => ?_)
  obtain ⟨rfl, cN, lN, hR, hs1, hs2, hs3, hs4, ho⟩ := hp
  have hAn : zA (4 * S.n) (cN + S.cir) (zcp S.lb S.al0 (4 * S.n)) (zja S.sg (zcp S.lb S.at0 (4 * S.n)) (4 * S.n) S.n.toNat) (fun z => if cN ≤ z ∧ z < cN + S.cir then 0 else lN z) := ⟨by have := c2.hC.1; omega, by have := c2.hC.2.1; omega, by have := hR.1; omega, by have := hR.2.1; omega, zcp_in c2.hC.2.2.2 c4.hA.2.2.2.2.1, zja_in (zcp_in c2.hC.2.2.2 c4.hA.2.2.2.2.2.1) _, fun j => by show inI (if cN ≤ j ∧ j < cN + S.cir then 0 else lN j); split; decide; exact hR.2.2.2.2 j⟩
  have hoK : ∀ q, own q ≠ 4 → M1 q = M q := fun q hq => ho q (fun z => hq (by rw [z]; exact c4.oo)) (fun z => hq (by rw [z]; exact c4.oa)) (fun z => hq (by rw [z]; exact c4.ob)) (fun z => hq (by rw [z]; exact c4.oc))
  have h_x : M1 ad.x = some (.inr (0, [.ref ad.pi, .ref ad.di, .ref ad.ru, .ref ad.al, .ref ad.et, .ref ad.mt, .ref ad.mr, .ref ad.no, .int (iI S.cir), .int (iI S.nk)])) := (hoK _ (by rw [ox]; decide)).trans h_x
  have c1 := c1.keep (fun q hq => hoK q (by rw [hq]; decide))
  have c2 := c2.keep (fun q hq => hoK q (by rw [hq]; decide))
  have c3 := c3.keep (fun q hq => hoK q (by rw [hq]; decide))
  have c5 := c5.keep (fun q hq => hoK q (by rw [hq]; decide))
  have c6 := c6.keep (fun q hq => hoK q (by rw [hq]; decide))
  have c7 := c7.keep (fun q hq => hoK q (by rw [hq]; decide))
  have c8 := c8.keep (fun q hq => hoK q (by rw [hq]; decide))
  have c4 : zc4 K M1 own ad.al ad.a1 ad.a2 ad.a3 (4 * S.n) (cN + S.cir) (zcp S.lb S.al0 (4 * S.n)) (zja S.sg (zcp S.lb S.at0 (4 * S.n)) (4 * S.n) S.n.toNat) (fun z => if cN ≤ z ∧ z < cN + S.cir then 0 else lN z) := ⟨c4.oo, c4.oa, c4.ob, c4.oc, c4.hab, hs1, hs2, hs3, hs4, hAn⟩
  obtain ⟨N, hN⟩ := zN_ex (n := 4 * S.n) (cir := S.cir) ⟨hR.1, hci.1⟩ hR.2.2.1 hR.2.2.2.1
  have hfr : ∀ q, own q ≠ 0 → own q ≠ 4 → own q ≠ 5 → own q ≠ 6 → M1 q = M q := fun q g0 g1 g2 g3 => (hoK q g1).trans (hfr q g0 g1 g2 g3)
  refine W.eq (g2 := F0 m 15 ls []) rfl ?_
  refine lv_aload_n hx hb d_AM_readDiagram_15 rfl (lv_at hl 0 rfl) ?_
  refine zq_get hx hb hts i_AM hown hK hw h_x rfl 4 (by decide) (hts _ tw_186) rfl d_AM_readDiagram_16 ?_
  refine lv_aload_n hx hb d_AM_readDiagram_19 rfl (lv_at hl 0 rfl) ?_
  refine zq_get hx hb hts i_AM hown hK hw h_x rfl 1 (by decide) (hts _ tw_183) rfl d_AM_readDiagram_20 ?_
  refine lv_aload_n hx hb d_AM_readDiagram_23 rfl (lv_at hl 0 rfl) ?_
  refine zq_get hx hb hts i_AM hown hK hw h_x rfl 3 (by decide) (hts _ tw_185) rfl d_AM_readDiagram_24 ?_
  refine zq_callV (As := [.ref ad.di, .ref ad.al]) (rest := []) ⟨hx, hb, hml, hown, hts⟩ (c_ET_read l D K M1 ad.et ad.e1 ad.e2 ad.ea ad.eb rw0 co0 S.F S.G ad.di ad.dis ad.dil S.n S.sg S.lb ad.al ad.a1 ad.a2 ad.a3 (cN + S.cir) (zcp S.lb S.al0 (4 * S.n)) (zja S.sg (zcp S.lb S.at0 (4 * S.n)) (4 * S.n) S.n.toNat) (fun z => if cN ≤ z ∧ z < cN + S.cir then 0 else lN z) N c5.ho c5.hG1 c5.hG2 c5.hE c2.ho c2.hs c2.hl c2.hC c4.ho c4.ha c4.hb c4.hc c4.hab c4.hA (fun i h1 h2 => ⟨fun z => by have h3 := c5.oa i h1 h2; have h4 := c4.oc; rw [z] at h3; omega, fun z => by have h3 := c5.ob i h1 h2; have h4 := c4.oc; rw [z] at h3; omega⟩) hN) (cwV 2 hts (zg_V tw_341 tw_342 tw_343 tw_5 tw_344) rfl rfl rfl (by decide +kernel) ⟨Nat.le_of_ble_eq_true rfl, Nat.le_of_ble_eq_true rfl⟩) hZ hw hA c5.ho rfl rfl rfl rfl hl.1 (Nat.le_of_ble_eq_true rfl) d_AM_readDiagram_27 ⟨Nat.le_of_ble_eq_true rfl, Nat.le_of_ble_eq_true rfl⟩ (fun v M2 H locs hp hw => ?_)
  obtain ⟨rfl, hs1, hs2, hs3, ho⟩ := hp
  have hEn : zE S.n (cN + S.cir) ad.ea ad.eb (fun k => if 0 ≤ k ∧ k < S.n then zrc S.sg N k else S.F k) (fun k => if 0 ≤ k ∧ k < S.n then zrt S.sg N k else S.G k) := ⟨c2.hC.1, c2.hC.2.1, c4.hA.2.2.1, c4.hA.2.2.2.1, fun i j => by show inI ((if 0 ≤ i ∧ i < S.n then zrc S.sg N i else S.F i) j); split; have := zrc_bd S.sg N i j; exact ⟨by omega, by omega⟩; exact c5.hE.2.2.2.2.1 i j, fun i j => by show inI ((if 0 ≤ i ∧ i < S.n then zrt S.sg N i else S.G i) j); split; have := zrt_bd S.sg N i j; exact ⟨by omega, by omega⟩; exact c5.hE.2.2.2.2.2.1 i j, c5.hE.2.2.2.2.2.2⟩
  have hoK : ∀ q, own q ≠ 5 → M2 q = M1 q := fun q hq => ho q (fun z => hq (by rw [z]; exact c5.oo)) (fun i h1 h2 z => hq (by rw [z]; exact c5.oa i h1 h2)) (fun i h1 h2 z => hq (by rw [z]; exact c5.ob i h1 h2))
  have h_x : M2 ad.x = some (.inr (0, [.ref ad.pi, .ref ad.di, .ref ad.ru, .ref ad.al, .ref ad.et, .ref ad.mt, .ref ad.mr, .ref ad.no, .int (iI S.cir), .int (iI S.nk)])) := (hoK _ (by rw [ox]; decide)).trans h_x
  have c1 := c1.keep (fun q hq => hoK q (by rw [hq]; decide))
  have c2 := c2.keep (fun q hq => hoK q (by rw [hq]; decide))
  have c3 := c3.keep (fun q hq => hoK q (by rw [hq]; decide))
  have c4 := c4.keep (fun q hq => hoK q (by rw [hq]; decide))
  have c6 := c6.keep (fun q hq => hoK q (by rw [hq]; decide))
  have c7 := c7.keep (fun q hq => hoK q (by rw [hq]; decide))
  have c8 := c8.keep (fun q hq => hoK q (by rw [hq]; decide))
  have c5 : zc5 K M2 own ad.et ad.e1 ad.e2 ad.ea ad.eb S.n (cN + S.cir) (fun k => if 0 ≤ k ∧ k < S.n then zrc S.sg N k else S.F k) (fun k => if 0 ≤ k ∧ k < S.n then zrt S.sg N k else S.G k) := ⟨c5.oo, c5.og, c5.ok, c5.oa, c5.ob, hs1, hs2, hs3, hEn, fun i j => by show -4 ≤ (if 0 ≤ i ∧ i < S.n then zrc S.sg N i else S.F i) j ∧ (if 0 ≤ i ∧ i < S.n then zrc S.sg N i else S.F i) j ≤ 4; split; exact zrc_bd S.sg N i j; exact c5.hFb i j, fun i j => by show -4 ≤ (if 0 ≤ i ∧ i < S.n then zrt S.sg N i else S.G i) j ∧ (if 0 ≤ i ∧ i < S.n then zrt S.sg N i else S.G i) j ≤ 4; split; exact zrt_bd S.sg N i j; exact c5.hGb i j⟩
  have hfr : ∀ q, own q ≠ 0 → own q ≠ 4 → own q ≠ 5 → own q ≠ 6 → M2 q = M q := fun q g0 g1 g2 g3 => (hoK q g2).trans (hfr q g0 g1 g2 g3)
  refine W.eq (g2 := F0 m 30 ls []) rfl ?_
  refine lv_aload_n hx hb d_AM_readDiagram_30 rfl (lv_at hl 0 rfl) ?_
  refine zq_get hx hb hts i_AM hown hK hw h_x rfl 5 (by decide) (hts _ tw_187) rfl d_AM_readDiagram_31 ?_
  have t6 := zMT_o c6.hM
  refine zq_callV (As := []) (rest := []) ⟨hx, hb, hml, hown, hts⟩ (c_MT_forget l D K M2 ad.mt ad.dt ad.la S.lr S.lc S.kn t6) (cwV 0 hts (zg_V tw_371 tw_372 tw_373 tw_6 tw_374) rfl rfl rfl (by decide +kernel) ⟨Nat.le_of_ble_eq_true rfl, Nat.le_of_ble_eq_true rfl⟩) hZ hw hA t6 rfl rfl rfl rfl hl.1 (Nat.le_of_ble_eq_true rfl) d_AM_readDiagram_34 ⟨Nat.le_of_ble_eq_true rfl, Nat.le_of_ble_eq_true rfl⟩ (fun v M3 H locs hp hw => ?_)
  obtain ⟨rfl, hs1, ho⟩ := hp
  obtain ⟨dg, fc, dx, fx, t1, t2⟩ := c6.hM
  have hMTn : zMT K M3 ad.mt ad.dt ad.la ad.qla ad.cA ad.pr ad.qpr ad.on ad.qon ad.pa ad.qa S.lr S.lc 0 S.dl S.fl := zMT_forget c6.hM hs1 ho
  have hoK : ∀ q, own q ≠ 6 → M3 q = M2 q := fun q hq => ho q (fun z => hq (by rw [z]; exact c6.oo))
  have h_x : M3 ad.x = some (.inr (0, [.ref ad.pi, .ref ad.di, .ref ad.ru, .ref ad.al, .ref ad.et, .ref ad.mt, .ref ad.mr, .ref ad.no, .int (iI S.cir), .int (iI S.nk)])) := (hoK _ (by rw [ox]; decide)).trans h_x
  have c1 := c1.keep (fun q hq => hoK q (by rw [hq]; decide))
  have c2 := c2.keep (fun q hq => hoK q (by rw [hq]; decide))
  have c3 := c3.keep (fun q hq => hoK q (by rw [hq]; decide))
  have c4 := c4.keep (fun q hq => hoK q (by rw [hq]; decide))
  have c5 := c5.keep (fun q hq => hoK q (by rw [hq]; decide))
  have c7 := c7.keep (fun q hq => hoK q (by rw [hq]; decide))
  have c8 := c8.keep (fun q hq => hoK q (by rw [hq]; decide))
  have c6 : zc6 K M3 own ad.mt ad.dt ad.la ad.qla ad.cA ad.pr ad.qpr ad.on ad.qon ad.pa ad.qa S.lr S.lc 0 S.dl S.fl := ⟨c6.oo, c6.o1, c6.o2, c6.o3, c6.o4, c6.o5, c6.o6, c6.o7, c6.o8, c6.oa, hMTn⟩
  have hfr : ∀ q, own q ≠ 0 → own q ≠ 4 → own q ≠ 5 → own q ≠ 6 → M3 q = M q := fun q g0 g1 g2 g3 => (hoK q g3).trans (hfr q g0 g1 g2 g3)
  refine W.eq (g2 := F0 m 37 ls []) rfl ?_
  refine lv_aload_n hx hb d_AM_readDiagram_37 rfl (lv_at hl 0 rfl) ?_
  refine lv_iconst (v := iI 0) hx hb d_AM_readDiagram_38 rfl ?_
  refine zq_put (ci := 0) (v := .int (iI 0)) (ty := .boolean) hx hb hts i_AM t_AM t_AM_ok n_AM hown hK hw h_x rfl 9 (by decide) (hts _ tw_191) rfl (by decide +kernel) rfl rfl (Nat.le_of_ble_eq_true rfl) d_AM_readDiagram_39 (fun M4 H locs hs ho hw => ?_)
  have h_x : M4 ad.x = some (.inr (0, [.ref ad.pi, .ref ad.di, .ref ad.ru, .ref ad.al, .ref ad.et, .ref ad.mt, .ref ad.mr, .ref ad.no, .int (iI S.cir), .int (iI 0)])) := hs
  have hfr : ∀ q, own q ≠ 0 → own q ≠ 4 → own q ≠ 5 → own q ≠ 6 → M4 q = M q := fun q g0 g1 g2 g3 => (ho q (fun z => g0 (by rw [z]; exact ox))).trans (hfr q g0 g1 g2 g3)
  have c1 := c1.keep (fun q hq => ho q (fun z => by rw [z, ox] at hq; exact absurd hq (by decide)))
  have c2 := c2.keep (fun q hq => ho q (fun z => by rw [z, ox] at hq; exact absurd hq (by decide)))
  have c3 := c3.keep (fun q hq => ho q (fun z => by rw [z, ox] at hq; exact absurd hq (by decide)))
  have c4 := c4.keep (fun q hq => ho q (fun z => by rw [z, ox] at hq; exact absurd hq (by decide)))
  have c5 := c5.keep (fun q hq => ho q (fun z => by rw [z, ox] at hq; exact absurd hq (by decide)))
  have c6 := c6.keep (fun q hq => ho q (fun z => by rw [z, ox] at hq; exact absurd hq (by decide)))
  have c7 := c7.keep (fun q hq => ho q (fun z => by rw [z, ox] at hq; exact absurd hq (by decide)))
  have c8 := c8.keep (fun q hq => ho q (fun z => by rw [z, ox] at hq; exact absurd hq (by decide)))
  exact zq_vret hx hb hr hlocks hZ hw ⟨rfl, cN, lN, N, ⟨⟨ox, h_x, c1, c2, c3, ⟨_, _, c4⟩, ⟨_, _, c5⟩, c6, c7, c8, hci, hlr⟩, c4, c5, ⟨⟨hR.1, hR.2.1⟩, hR.2.2.1, hR.2.2.2.1, fun z h1 h2 => if_pos ⟨h1, h2⟩, ⟨_, fun z h1 h2 => if_pos ⟨h1, h2⟩, rfl⟩, rfl, hN, fun k h1 h2 => if_pos ⟨h1, h2⟩, fun k h1 h2 => if_pos ⟨h1, h2⟩⟩, Or.inl rfl, fun z => absurd (show (0 : Int) = 1 from z) (by decide), Or.inl rfl, fun z => absurd (show (0 : Int) = 1 from z) (by decide)⟩, hfr⟩ d_AM_readDiagram_42
