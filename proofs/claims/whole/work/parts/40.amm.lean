abbrev P_AM_many (K : Nat → ClassId) (M : zq_M) (own : Nat → Nat) (ad : zAd) (S : zSt) (x : Int) : Option Value → zq_M → Prop := fun v M' => ∃ r, v = some (.long (iL r)) ∧ ((x = 0 ∧ r = S.n ∧ M' = M) ∨ (x = 1 ∧ r = S.cir ∧ M' = M) ∨ (x = 2 ∧ r = S.cN + S.cir ∧ M' = M) ∨ ((3 ≤ x ∧ x ≤ 5) ∧ ∃ fn1 dn1 ad' S', zNF S.F S.G S.n (S.cN + S.cir) fn1 ∧ zD fn1 dn1 ∧ ((x = 3 ∧ r = dn1) ∨ (x = 4 ∧ r = zhor fn1 1 0 (dn1 + 1).toNat) ∨ (x = 5 ∧ r = zhor fn1 (-1) 0 (dn1 + 1).toNat)) ∧ zCS K M' own ad' S' ∧ zBs S' S.pn S.psg S.plb S.n S.sg S.lb S.cir ∧ ad'.x = ad.x ∧ ∀ q, 9 ≤ own q → M' q = M q) ∨ (x = 6 ∧ r = S.pn ∧ M' = M) ∨ ((x < 0 ∨ 6 < x) ∧ r = -1000 ∧ M' = M))
set_option maxHeartbeats 4000000 in
set_option maxRecDepth 100000 in
theorem c_AM_many (l : Launch) (D : va_G) (K : Nat → ClassId) (M : zq_M) (own : Nat → Nat) (ad : zAd) (S : zSt) (x : Int) (hS : zCS K M own ad S) (hHok : zHok S.F S.G S.n (S.cN + S.cir)) (hRb : ∀ lr lc res, zTk S.F S.G S.n (S.cN + S.cir) lr lc res → ∀ j, -9223372036854775807 ≤ res j ∧ res j < 9223372036854775808) (hx0 : inI x) : zq_Met l y_AM_many (.code y_AM_many b_AM_many 2 (some .long) :: lw_gd) { frames := 6, cells := 0, slots := 0, locals := 157 } D vwCl (zT K) [.ref ad.x, .int (iI x)] M (P_AM_many K M own ad S x) 0 0 := by
  refine zq_start (cc := b_AM_many) (maxL := 2) (ret := (some .long)) (by decide) rfl (Nat.le_of_ble_eq_true rfl) ?_
  intro p e s m below meth co A ls hx hb hr hml hts hown hnm hlocks hA hZ hw hl
  have hts : ∀ w ∈ lw_gd, w.before [.ref ad.x, .int (iI x)].toArray s = true := fun w h => hts w (List.mem_cons_of_mem _ h)
  have hown : s.vm.findClass R_AM = some m.cls := hown
  have hK := hZ.1
  have hl : lv_has ls 2 [(0, .ref ad.x), (1, .int (iI x))] := hl
  have hfr : ∀ q, 9 ≤ own q → M q = M q := fun q _ => rfl
  have ox := hS.w.ox
  have h_x := hS.w.hx
  have c1 := hS.w.c1
  have c2 := hS.w.c2
  have c3 := hS.w.c3
  have c4 := hS.c4
  have c5 := hS.c5
  have c6 := hS.w.c6
  have c7 := hS.w.c7
  have c8 := hS.w.c8
  have hci := hS.w.hci
  have hlr := hS.w.hlr
  have hrd := hS.hrd
  have hn1 := c1.hC.1
  have hn2 := c1.hC.2.1
  have hn3 := c2.hC.1
  have hn4 := c2.hC.2.1
  have hr5 := zat_rw c5.hE
  refine lv_iload_n hx hb d_AM_many_0 rfl (lv_at hl 1 rfl) ?_
  rcases (show x = 0 ∨ x = 1 ∨ x = 2 ∨ x = 3 ∨ x = 4 ∨ x = 5 ∨ x = 6 ∨ (x < 0 ∨ 6 < x) by omega) with rfl | rfl | rfl | rfl | rfl | rfl | rfl | hx9
  · refine lv_tableIn (tgt := 44) hx hb d_AM_many_1 (by decide) (by decide) rfl (by decide) ?_
    refine lv_aload_n hx hb d_AM_many_44 rfl (lv_at hl 0 rfl) ?_
    refine zq_get hx hb hts i_AM hown hK hw h_x rfl 1 (by decide) (hts _ tw_183) rfl d_AM_many_45 ?_
    refine zq_callV (As := []) (rest := []) ⟨hx, hb, hml, hown, hts⟩ (c_CR_size l D K M ad.di ad.dis ad.dil S.n S.sg S.lb c2.ho c2.hs c2.hl c2.hC) (cwV 0 hts (zg_V tw_383 tw_322 tw_323 tw_2 tw_324) rfl rfl rfl (by decide +kernel) ⟨Nat.le_of_ble_eq_true rfl, Nat.le_of_ble_eq_true rfl⟩) hZ hw hA c2.ho rfl rfl rfl rfl hl.1 (Nat.le_of_ble_eq_true rfl) d_AM_many_48 ⟨Nat.le_of_ble_eq_true rfl, Nat.le_of_ble_eq_true rfl⟩ (fun v M1 H locs hp hw => ?_)
    obtain ⟨rfl, hMe⟩ := hp
    rw [hMe] at hw
    refine W.eq (g2 := F0 m 51 ls [.int (iI S.n)]) rfl ?_
    refine zq_i2l hx hb ⟨by omega, by omega⟩ d_AM_many_51 ?_
    exact zq_lret hx hb hr hlocks hZ hw ⟨_, rfl, Or.inl ⟨rfl, rfl, rfl⟩⟩ d_AM_many_52
  · refine lv_tableIn (tgt := 53) hx hb d_AM_many_1 (by decide) (by decide) rfl (by decide) ?_
    refine lv_aload_n hx hb d_AM_many_53 rfl (lv_at hl 0 rfl) ?_
    refine zq_get hx hb hts i_AM hown hK hw h_x rfl 8 (by decide) (hts _ tw_190) rfl d_AM_many_54 ?_
    refine zq_i2l hx hb ⟨by omega, by omega⟩ d_AM_many_57 ?_
    exact zq_lret hx hb hr hlocks hZ hw ⟨_, rfl, Or.inr (Or.inl ⟨rfl, rfl, rfl⟩)⟩ d_AM_many_58
  · refine lv_tableIn (tgt := 59) hx hb d_AM_many_1 (by decide) (by decide) rfl (by decide) ?_
    refine lv_aload_n hx hb d_AM_many_59 rfl (lv_at hl 0 rfl) ?_
    refine zq_get hx hb hts i_AM hown hK hw h_x rfl 3 (by decide) (hts _ tw_185) rfl d_AM_many_60 ?_
    refine zq_callV (As := []) (rest := []) ⟨hx, hb, hml, hown, hts⟩ (c_AL_size l D K M ad.al ad.a1 ad.a2 ad.a3 (4 * S.n) (S.cN + S.cir) S.al0 S.at0 S.ls0 c4.ho c4.ha c4.hb c4.hc c4.hab c4.hA) (cwV 0 hts (zg_V tw_384 tw_348 tw_349 tw_4 tw_350) rfl rfl rfl (by decide +kernel) ⟨Nat.le_of_ble_eq_true rfl, Nat.le_of_ble_eq_true rfl⟩) hZ hw hA c4.ho rfl rfl rfl rfl hl.1 (Nat.le_of_ble_eq_true rfl) d_AM_many_63 ⟨Nat.le_of_ble_eq_true rfl, Nat.le_of_ble_eq_true rfl⟩ (fun v M2 H locs hp hw => ?_)
    obtain ⟨rfl, hMe⟩ := hp
    rw [hMe] at hw
    refine W.eq (g2 := F0 m 66 ls [.int (iI (S.cN + S.cir))]) rfl ?_
    refine zq_i2l hx hb ⟨by omega, by omega⟩ d_AM_many_66 ?_
    exact zq_lret hx hb hr hlocks hZ hw ⟨_, rfl, Or.inr (Or.inr (Or.inl ⟨rfl, rfl, rfl⟩))⟩ d_AM_many_67
  · refine lv_tableIn (tgt := 68) hx hb d_AM_many_1 (by decide) (by decide) rfl (by decide) ?_
    refine lv_aload_n hx hb d_AM_many_68 rfl (lv_at hl 0 rfl) ?_
    refine zq_callV (As := []) (rest := []) ⟨hx, hb, hml, hown, hts⟩ (c_AM_normalForm l D K M own ad S hS hHok hRb) (cwV 0 hts (zg_V tw_385 tw_387 ts_14 tw_1 tw_388) rfl rfl rfl (by decide +kernel) ⟨Nat.le_of_ble_eq_true rfl, Nat.le_of_ble_eq_true rfl⟩) hZ hw hA h_x rfl rfl rfl rfl hl.1 (Nat.le_of_ble_eq_true rfl) d_AM_many_69 ⟨Nat.le_of_ble_eq_true rfl, Nat.le_of_ble_eq_true rfl⟩ (fun v M3 H locs hp hw => ?_)
    obtain ⟨pa1, qa1, lr1, lc1, kn1, dl1, fl1, dn1, fn1, rfl, hSn, ho⟩ := hp
    have ox := hSn.w.ox
    have h_x := hSn.w.hx
    have c8 := hSn.w.c8
    have hNF := hSn.hnf rfl
    have hfr : ∀ q, 9 ≤ own q → M3 q = M q := fun q g0 => (ho q g0).trans (hfr q g0)
    refine W.eq (g2 := F0 m 72 ls [.ref ad.no]) rfl ?_
    have hdn := zD_le c8.hD
    refine zq_callV (As := []) (rest := []) ⟨hx, hb, hml, hown, hts⟩ (c_PO_degree l D K M3 ad.no ad.qno dn1 c8.ho) (cwV 0 hts (zg_V tw_474 tw_475 tw_476 tw_8 tw_477) rfl rfl rfl (by decide +kernel) ⟨Nat.le_of_ble_eq_true rfl, Nat.le_of_ble_eq_true rfl⟩) hZ hw hA c8.ho rfl rfl rfl rfl hl.1 (Nat.le_of_ble_eq_true rfl) d_AM_many_72 ⟨Nat.le_of_ble_eq_true rfl, Nat.le_of_ble_eq_true rfl⟩ (fun v M4 H locs hp hw => ?_)
    obtain ⟨rfl, hMe⟩ := hp
    rw [hMe] at hw
    refine W.eq (g2 := F0 m 75 ls [.int (iI dn1)]) rfl ?_
    have hdn1 : -1 ≤ dn1 := hdn.1
    have hdn2 : dn1 ≤ 24 := hdn.2
    refine zq_i2l hx hb ⟨by omega, by omega⟩ d_AM_many_75 ?_
    exact zq_lret hx hb hr hlocks hZ hw ⟨_, rfl, Or.inr (Or.inr (Or.inr (Or.inl ⟨⟨by decide, by decide⟩, fn1, dn1, _, _, hNF, c8.hD, Or.inl ⟨rfl, rfl⟩, hSn, ⟨rfl, rfl, rfl, rfl, rfl, rfl, rfl⟩, rfl, hfr⟩)))⟩ d_AM_many_76
  · refine lv_tableIn (tgt := 77) hx hb d_AM_many_1 (by decide) (by decide) rfl (by decide) ?_
    refine lv_aload_n hx hb d_AM_many_77 rfl (lv_at hl 0 rfl) ?_
    refine zq_callV (As := []) (rest := []) ⟨hx, hb, hml, hown, hts⟩ (c_AM_normalForm l D K M own ad S hS hHok hRb) (cwV 0 hts (zg_V tw_385 tw_387 ts_14 tw_1 tw_388) rfl rfl rfl (by decide +kernel) ⟨Nat.le_of_ble_eq_true rfl, Nat.le_of_ble_eq_true rfl⟩) hZ hw hA h_x rfl rfl rfl rfl hl.1 (Nat.le_of_ble_eq_true rfl) d_AM_many_78 ⟨Nat.le_of_ble_eq_true rfl, Nat.le_of_ble_eq_true rfl⟩ (fun v M5 H locs hp hw => ?_)
    obtain ⟨pa1, qa1, lr1, lc1, kn1, dl1, fl1, dn1, fn1, rfl, hSn, ho⟩ := hp
    have ox := hSn.w.ox
    have h_x := hSn.w.hx
    have c8 := hSn.w.c8
    have hNF := hSn.hnf rfl
    have hfr : ∀ q, 9 ≤ own q → M5 q = M q := fun q g0 => (ho q g0).trans (hfr q g0)
    refine W.eq (g2 := F0 m 81 ls [.ref ad.no]) rfl ?_
    refine lv_iconst (v := iI 1) hx hb d_AM_many_81 rfl ?_
    refine zq_callV (As := [.int (iI 1)]) (rest := []) ⟨hx, hb, hml, hown, hts⟩ (c_PO_valueAt l D K M5 ad.no ad.qno dn1 fn1 1 c8.ho c8.hq c8.hD (by decide)) (cwV 1 hts (zg_V tw_478 tw_479 tw_480 tw_8 tw_481) rfl rfl rfl (by decide +kernel) ⟨Nat.le_of_ble_eq_true rfl, Nat.le_of_ble_eq_true rfl⟩) hZ hw hA c8.ho rfl rfl rfl rfl hl.1 (Nat.le_of_ble_eq_true rfl) d_AM_many_82 ⟨Nat.le_of_ble_eq_true rfl, Nat.le_of_ble_eq_true rfl⟩ (fun v M6 H locs hp hw => ?_)
    obtain ⟨rfl, hMe⟩ := hp
    rw [hMe] at hw
    refine W.eq (g2 := F0 m 85 ls [.long (iL (zhor fn1 1 0 (dn1 + 1).toNat))]) rfl ?_
    exact zq_lret hx hb hr hlocks hZ hw ⟨_, rfl, Or.inr (Or.inr (Or.inr (Or.inl ⟨⟨by decide, by decide⟩, fn1, dn1, _, _, hNF, c8.hD, Or.inr (Or.inl ⟨rfl, rfl⟩), hSn, ⟨rfl, rfl, rfl, rfl, rfl, rfl, rfl⟩, rfl, hfr⟩)))⟩ d_AM_many_85
  · refine lv_tableIn (tgt := 86) hx hb d_AM_many_1 (by decide) (by decide) rfl (by decide) ?_
    refine lv_aload_n hx hb d_AM_many_86 rfl (lv_at hl 0 rfl) ?_
    refine zq_callV (As := []) (rest := []) ⟨hx, hb, hml, hown, hts⟩ (c_AM_normalForm l D K M own ad S hS hHok hRb) (cwV 0 hts (zg_V tw_385 tw_387 ts_14 tw_1 tw_388) rfl rfl rfl (by decide +kernel) ⟨Nat.le_of_ble_eq_true rfl, Nat.le_of_ble_eq_true rfl⟩) hZ hw hA h_x rfl rfl rfl rfl hl.1 (Nat.le_of_ble_eq_true rfl) d_AM_many_87 ⟨Nat.le_of_ble_eq_true rfl, Nat.le_of_ble_eq_true rfl⟩ (fun v M7 H locs hp hw => ?_)
    obtain ⟨pa1, qa1, lr1, lc1, kn1, dl1, fl1, dn1, fn1, rfl, hSn, ho⟩ := hp
    have ox := hSn.w.ox
    have h_x := hSn.w.hx
    have c8 := hSn.w.c8
    have hNF := hSn.hnf rfl
    have hfr : ∀ q, 9 ≤ own q → M7 q = M q := fun q g0 => (ho q g0).trans (hfr q g0)
    refine W.eq (g2 := F0 m 90 ls [.ref ad.no]) rfl ?_
    refine lv_iconst (v := iI (-1)) hx hb d_AM_many_90 rfl ?_
    refine zq_callV (As := [.int (iI (-1))]) (rest := []) ⟨hx, hb, hml, hown, hts⟩ (c_PO_valueAt l D K M7 ad.no ad.qno dn1 fn1 (-1) c8.ho c8.hq c8.hD (by decide)) (cwV 1 hts (zg_V tw_478 tw_479 tw_480 tw_8 tw_481) rfl rfl rfl (by decide +kernel) ⟨Nat.le_of_ble_eq_true rfl, Nat.le_of_ble_eq_true rfl⟩) hZ hw hA c8.ho rfl rfl rfl rfl hl.1 (Nat.le_of_ble_eq_true rfl) d_AM_many_91 ⟨Nat.le_of_ble_eq_true rfl, Nat.le_of_ble_eq_true rfl⟩ (fun v M8 H locs hp hw => ?_)
    obtain ⟨rfl, hMe⟩ := hp
    rw [hMe] at hw
    refine W.eq (g2 := F0 m 94 ls [.long (iL (zhor fn1 (-1) 0 (dn1 + 1).toNat))]) rfl ?_
    exact zq_lret hx hb hr hlocks hZ hw ⟨_, rfl, Or.inr (Or.inr (Or.inr (Or.inl ⟨⟨by decide, by decide⟩, fn1, dn1, _, _, hNF, c8.hD, Or.inr (Or.inr ⟨rfl, rfl⟩), hSn, ⟨rfl, rfl, rfl, rfl, rfl, rfl, rfl⟩, rfl, hfr⟩)))⟩ d_AM_many_94
  · refine lv_tableIn (tgt := 95) hx hb d_AM_many_1 (by decide) (by decide) rfl (by decide) ?_
    refine lv_aload_n hx hb d_AM_many_95 rfl (lv_at hl 0 rfl) ?_
    refine zq_get hx hb hts i_AM hown hK hw h_x rfl 0 (by decide) (hts _ tw_182) rfl d_AM_many_96 ?_
    refine zq_callV (As := []) (rest := []) ⟨hx, hb, hml, hown, hts⟩ (c_CR_size l D K M ad.pi ad.pis ad.pil S.pn S.psg S.plb c1.ho c1.hs c1.hl c1.hC) (cwV 0 hts (zg_V tw_383 tw_322 tw_323 tw_2 tw_324) rfl rfl rfl (by decide +kernel) ⟨Nat.le_of_ble_eq_true rfl, Nat.le_of_ble_eq_true rfl⟩) hZ hw hA c1.ho rfl rfl rfl rfl hl.1 (Nat.le_of_ble_eq_true rfl) d_AM_many_99 ⟨Nat.le_of_ble_eq_true rfl, Nat.le_of_ble_eq_true rfl⟩ (fun v M9 H locs hp hw => ?_)
    obtain ⟨rfl, hMe⟩ := hp
    rw [hMe] at hw
    refine W.eq (g2 := F0 m 102 ls [.int (iI S.pn)]) rfl ?_
    refine zq_i2l hx hb ⟨by omega, by omega⟩ d_AM_many_102 ?_
    exact zq_lret hx hb hr hlocks hZ hw ⟨_, rfl, Or.inr (Or.inr (Or.inr (Or.inr (Or.inl ⟨rfl, rfl, rfl⟩))))⟩ d_AM_many_103
  · refine lv_tableOut (tgt := 104) hx hb d_AM_many_1 (by rw [iI_toInt hx0]; exact hx9) (by decide) ?_
    refine lv_ldc2 (v := iL (-1000)) hx hb hown (hts _ tw_482) d_AM_many_104 ?_
    exact zq_lret hx hb hr hlocks hZ hw ⟨_, rfl, Or.inr (Or.inr (Or.inr (Or.inr (Or.inr ⟨hx9, rfl, rfl⟩))))⟩ d_AM_many_107
abbrev P_AM_rank (K : Nat → ClassId) (M : zq_M) (own : Nat → Nat) (ad : zAd) (S : zSt) (t : Int) (pp : Int) : Option Value → zq_M → Prop := fun v M' => ∃ r, v = some (.int (iI r)) ∧ ((¬ zPrm pp ∧ r = -1 ∧ M' = M) ∨ (zPrm pp ∧ ∃ (fd : Int) (Fz F1 : Int → Int → Int) (ad' : zAd) (S' : zSt), r = fd ∧ zEl (fun a b => if 0 ≤ a ∧ a < S.n ∧ 0 ≤ b ∧ b < (S.cN + S.cir) then zent S.F S.G (t % pp) pp a b else Fz a b) S.n pp (S.cN + S.cir).toNat F1 fd ∧ zCS K M' own ad' S' ∧ zBs S' S.pn S.psg S.plb S.n S.sg S.lb S.cir ∧ ad'.x = ad.x ∧ ∀ q, 9 ≤ own q → M' q = M q))
set_option maxHeartbeats 4000000 in
set_option maxRecDepth 100000 in
theorem c_AM_rank (l : Launch) (D : va_G) (K : Nat → ClassId) (M : zq_M) (own : Nat → Nat) (ad : zAd) (S : zSt) (t : Int) (pp : Int) (hS : zCS K M own ad S) (ht0 : inI t) (hpp : inI pp) : zq_Met l y_AM_rank (.code y_AM_rank b_AM_rank 3 (some .int) :: lw_gd) { frames := 3, cells := 0, slots := 0, locals := 80 } D vwCl (zT K) [.ref ad.x, .int (iI t), .int (iI pp)] M (P_AM_rank K M own ad S t pp) 0 0 := by
  refine zq_start (cc := b_AM_rank) (maxL := 3) (ret := (some .int)) (by decide) rfl (Nat.le_of_ble_eq_true rfl) ?_
  intro p e s m below meth co A ls hx hb hr hml hts hown hnm hlocks hA hZ hw hl
  have hts : ∀ w ∈ lw_gd, w.before [.ref ad.x, .int (iI t), .int (iI pp)].toArray s = true := fun w h => hts w (List.mem_cons_of_mem _ h)
  have hown : s.vm.findClass R_AM = some m.cls := hown
  have hK := hZ.1
  have hl : lv_has ls 3 [(0, .ref ad.x), (1, .int (iI t)), (2, .int (iI pp))] := hl
  have hfr : ∀ q, 9 ≤ own q → M q = M q := fun q _ => rfl
  have ox := hS.w.ox
  have h_x := hS.w.hx
  have c1 := hS.w.c1
  have c2 := hS.w.c2
  have c3 := hS.w.c3
  have c4 := hS.c4
  have c5 := hS.c5
  have c6 := hS.w.c6
  have c7 := hS.w.c7
  have c8 := hS.w.c8
  have hci := hS.w.hci
  have hlr := hS.w.hlr
  have hrd := hS.hrd
  refine lv_iload_n hx hb d_AM_rank_0 rfl (lv_at hl 2 rfl) ?_
  refine zq_callS (b := 0) (C := "") (As := [.int (iI pp)]) (rest := []) ⟨hx, hb, hml, hown, hts⟩ (c_AM_isSmallPrime l D K M pp hpp) (va_cwS 1 hts (zg_T tw_519 tw_520 tw_1 tw_521) rfl rfl rfl (by decide +kernel) ⟨Nat.le_of_ble_eq_true rfl, Nat.le_of_ble_eq_true rfl⟩) hZ hw hA rfl rfl hl.1 (Nat.le_of_ble_eq_true rfl) d_AM_rank_1 ⟨Nat.le_of_ble_eq_true rfl, Nat.le_of_ble_eq_true rfl⟩ (fun v M2 H locs hp hw => ?_)
  obtain ⟨rr1, rfl, hPrr1, hMe⟩ := hp
  rw [hMe] at hw
  refine W.eq (g2 := F0 m 4 ls [.int (iI rr1)]) rfl ?_
  have hr01 : rr1 = 0 ∨ rr1 = 1 := by rcases hPrr1 with h | h; exact Or.inr h.1; exact Or.inl h.1
  refine zq_if_ne (tgt := 9) hx hb d_AM_rank_4 (by decide) ⟨by omega, by omega⟩ (fun hc3 => ?_) (fun hc3 => ?_)
  · have hPr := (hPrr1.resolve_right (fun h => absurd h.1 (by omega))).2
    refine lv_aload_n hx hb d_AM_rank_9 rfl (lv_at hl 0 rfl) ?_
    refine zq_get hx hb hts i_AM hown hK hw h_x rfl 6 (by decide) (hts _ tw_188) rfl d_AM_rank_10 ?_
    refine lv_aload_n hx hb d_AM_rank_13 rfl (lv_at hl 0 rfl) ?_
    refine zq_get hx hb hts i_AM hown hK hw h_x rfl 4 (by decide) (hts _ tw_186) rfl d_AM_rank_14 ?_
    refine lv_iload_n hx hb d_AM_rank_17 rfl (lv_at hl 1 rfl) ?_
    refine lv_iload_n hx hb d_AM_rank_18 rfl (lv_at hl 2 rfl) ?_
    obtain ⟨Fz, d1, d2, d3⟩ := c7.ex
    refine zq_callV (As := [.ref ad.et, .int (iI t), .int (iI pp)]) (rest := []) ⟨hx, hb, hml, hown, hts⟩ (c_MR_rankOf l D K M ad.mr ad.m1 ad.rm Fz ad.et ad.e1 ad.e2 ad.ea ad.eb S.n (S.cN + S.cir) S.F S.G t pp d1 d2 d3 c5.ho c5.hG1 c5.hG2 c5.hE (fun i j => ⟨⟨by have := c5.hFb i j; omega, by have := c5.hFb i j; omega⟩, by have := c5.hGb i j; omega, by have := c5.hGb i j; omega⟩) ⟨(fun z => by have h1 := c5.og; have h2 := c7.og; rw [z] at h1; omega), (fun z => by have h1 := c5.ok; have h2 := c7.og; rw [z] at h1; omega)⟩ (fun i j h1 h2 h3 h4 => ⟨fun z => by have h5 := c7.oa i h1 h2; have h6 := c5.oa j h3 h4; rw [z] at h5; omega, fun z => by have h5 := c7.oa i h1 h2; have h6 := c5.ob j h3 h4; rw [z] at h5; omega⟩) ht0 ⟨hPr.1, hPr.2.1⟩) (cwV 3 hts (zg_V tw_522 tw_523 tw_524 tw_9 tw_525) rfl rfl rfl (by decide +kernel) ⟨Nat.le_of_ble_eq_true rfl, Nat.le_of_ble_eq_true rfl⟩) hZ hw hA d1 rfl rfl rfl rfl hl.1 (Nat.le_of_ble_eq_true rfl) d_AM_rank_19 ⟨Nat.le_of_ble_eq_true rfl, Nat.le_of_ble_eq_true rfl⟩ (fun v M4 H locs hp hw => ?_)
    obtain ⟨fd, F1, rm1, rfl, hEl, hgN, hFb, hrm, ho⟩ := hp
    have hoK : ∀ q, own q ≠ 7 → M4 q = M q := fun q hq => ho q (fun z => hq (by rw [z]; exact c7.og)) (fun i h1 h2 z => hq (by rw [z]; exact c7.oa i h1 h2))
    have h_x : M4 ad.x = some (.inr (0, [.ref ad.pi, .ref ad.di, .ref ad.ru, .ref ad.al, .ref ad.et, .ref ad.mt, .ref ad.mr, .ref ad.no, .int (iI S.cir), .int (iI S.nk)])) := (hoK _ (by rw [ox]; decide)).trans h_x
    have c1 := c1.keep (fun q hq => hoK q (by rw [hq]; decide))
    have c2 := c2.keep (fun q hq => hoK q (by rw [hq]; decide))
    have c3 := c3.keep (fun q hq => hoK q (by rw [hq]; decide))
    have c4 := c4.keep (fun q hq => hoK q (by rw [hq]; decide))
    have c5 := c5.keep (fun q hq => hoK q (by rw [hq]; decide))
    have c6 := c6.keep (fun q hq => hoK q (by rw [hq]; decide))
    have c8 := c8.keep (fun q hq => hoK q (by rw [hq]; decide))
    have c7 : zc7 K M4 own ad.mr ad.m1 rm1 := ⟨c7.oo, c7.og, fun i h1 h2 => (by obtain ⟨j, j1, j2, e1⟩ := hrm i h1 h2; rw [e1]; exact c7.oa j j1 j2), F1, (ho _ (zq_ne d1 d2.1 (by simp)) (fun i h1 h2 => zq_ne d1 (d2.2.1 i h1 h2) (by simp))).trans d1, hgN, hFb⟩
    have hfr : ∀ q, 9 ≤ own q → M4 q = M q := fun q g0 => (hoK q (by omega)).trans (hfr q g0)
    refine W.eq (g2 := F0 m 22 ls [.int (iI fd)]) rfl ?_
    exact zq_iret hx hb hr hlocks hZ hw ⟨fd, rfl, Or.inr ⟨hPr, fd, Fz, F1, ((ad.x, ad.pi, ad.pis, ad.pil, ad.di, ad.dis, ad.dil, ad.ru, ad.r1, ad.r2, ad.r3, ad.r4, ad.al, ad.a1, ad.a2, ad.a3, ad.et, ad.e1, ad.e2, ad.mt, ad.dt, ad.la, ad.qla, ad.cA, ad.pr, ad.qpr, ad.on, ad.qon, ad.mr, ad.m1, ad.no, ad.qno, ad.ea, ad.eb, rm1, ad.pa, ad.qa) : zAd), ((S.pn, S.psg, S.plb, S.n, S.sg, S.lb, S.cir, S.cN, S.lN, S.al0, S.at0, S.ls0, S.N, S.F, S.G, S.lr, S.lc, S.kn, S.dl, S.fl, S.nk, S.dn, S.fn) : zSt), rfl, hEl, ⟨⟨ox, h_x, c1, c2, c3, ⟨_, _, c4⟩, ⟨_, _, c5⟩, c6, c7, c8, hci, hlr⟩, c4, c5, hS.hrd, hS.hk0, hS.hkn, hS.hn0, hS.hnf⟩, ⟨rfl, rfl, rfl, rfl, rfl, rfl, rfl⟩, rfl, hfr⟩⟩ d_AM_rank_22
  · have hNp := (hPrr1.resolve_left (fun h => absurd h.1 (by omega))).2
    refine lv_iconst (v := iI (-1)) hx hb d_AM_rank_7 rfl ?_
    exact zq_iret hx hb hr hlocks hZ hw ⟨-1, rfl, Or.inl ⟨hNp, rfl, rfl⟩⟩ d_AM_rank_8
