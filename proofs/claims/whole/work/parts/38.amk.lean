abbrev P_AM_check (K : Nat → ClassId) (M : zq_M) (own : Nat → Nat) (ad : zAd) (S : zSt) (ci : Int) : Option Value → zq_M → Prop := fun v M' => ∃ r, v = some (.int (iI r)) ∧ (((ci < 0 ∨ 9 < ci) ∧ r = -1 ∧ M' = M) ∨ ((0 ≤ ci ∧ ci ≤ 9) ∧ zFB S.pn S.psg S.plb r ∧ ((r ≠ 0 ∧ ∃ S', zCS K M' own ad S' ∧ zBs S' 0 S.psg S.plb S.n S.sg S.lb S.cir) ∨ (r = 0 ∧ ∃ S', zCS K M' own ad S' ∧ zBs S' 0 S.psg S.plb S.pn S.psg S.plb ci)) ∧ ∀ q, 9 ≤ own q → M' q = M q))
set_option maxHeartbeats 4000000 in
set_option maxRecDepth 100000 in
theorem c_AM_check (l : Launch) (D : va_G) (K : Nat → ClassId) (M : zq_M) (own : Nat → Nat) (ad : zAd) (S : zSt) (ci : Int) (hS : zCS K M own ad S) (hci9 : inI ci) (hOk : zFB S.pn S.psg S.plb 0 → zOkD S.pn S.psg S.plb) : zq_Met l y_AM_check (.code y_AM_check b_AM_check 3 (some .int) :: lw_gd) { frames := 6, cells := 0, slots := 0, locals := 130 } D vwCl (zT K) [.ref ad.x, .int (iI ci)] M (P_AM_check K M own ad S ci) 0 0 := by
  refine zq_start (cc := b_AM_check) (maxL := 3) (ret := (some .int)) (by decide) rfl (Nat.le_of_ble_eq_true rfl) ?_
  intro p e s m below meth co A ls hx hb hr hml hts hown hnm hlocks hA hZ hw hl
  have hts : ∀ w ∈ lw_gd, w.before [.ref ad.x, .int (iI ci)].toArray s = true := fun w h => hts w (List.mem_cons_of_mem _ h)
  have hown : s.vm.findClass R_AM = some m.cls := hown
  have hK := hZ.1
  have hl : lv_has ls 3 [(0, .ref ad.x), (1, .int (iI ci))] := hl
  have hfr : ∀ q, 9 ≤ own q → M q = M q := fun q _ => rfl
  have ox := hS.w.ox
  have h_x := hS.w.hx
  have c1 := hS.w.c1
  have c2 := hS.w.c2
  have c3 := hS.w.c3
  have c4 := hS.c4
  have c5 := hS.c5
  have c6 := hS.w.c6
  have c7 := hS.w.c7
  have c8 := hS.w.c8
  have hci := hS.w.hci
  have hlr := hS.w.hlr
  have hrd := hS.hrd
  refine lv_iload_n hx hb d_AM_check_0 rfl (lv_at hl 1 rfl) ?_
  refine zq_if_lt (tgt := 10) hx hb d_AM_check_1 (by decide) hci9 (fun hc1 => ?_) (fun hc1 => ?_)
  · refine lv_iconst (v := iI (-1)) hx hb d_AM_check_10 rfl ?_
    exact zq_iret hx hb hr hlocks hZ hw ⟨-1, rfl, Or.inl ⟨by omega, rfl, rfl⟩⟩ d_AM_check_11
  · refine lv_iload_n hx hb d_AM_check_4 rfl (lv_at hl 1 rfl) ?_
    refine lv_bipush (v := iI 9) hx hb d_AM_check_5 (by decide) ?_
    refine zq_icmp_le (tgt := 12) hx hb d_AM_check_7 (by decide) hci9 (by decide) (fun hc2 => ?_) (fun hc2 => ?_)
    · refine lv_aload_n hx hb d_AM_check_12 rfl (lv_at hl 0 rfl) ?_
      refine zq_get hx hb hts i_AM hown hK hw h_x rfl 2 (by decide) (hts _ tw_184) rfl d_AM_check_13 ?_
      refine lv_aload_n hx hb d_AM_check_16 rfl (lv_at hl 0 rfl) ?_
      refine zq_get hx hb hts i_AM hown hK hw h_x rfl 0 (by decide) (hts _ tw_182) rfl d_AM_check_17 ?_
      obtain ⟨pf, pcs, sp, sn, d1, d2, d3, d4, d5, d6, d7⟩ := c3.ex
      refine zq_callV (As := [.ref ad.pi]) (rest := []) ⟨hx, hb, hml, hown, hts⟩ (c_DR_firstBroken l D K M ad.ru ad.r1 ad.r2 ad.r3 ad.r4 pf pcs sp sn ad.pi ad.pis ad.pil S.pn S.psg S.plb d1 d2 d3 d4 d5 c3.hbc c3.had c1.ho c1.hs c1.hl c1.hC (fun z => by have h1 := c3.oa; have h2 := c1.ol; rw [z] at h1; omega) (fun z => by have h1 := c3.ob; have h2 := c1.os; rw [z] at h1; omega) (fun z => by have h1 := c3.oc; have h2 := c1.os; rw [z] at h1; omega) (fun z => by have h1 := c3.od; have h2 := c1.ol; rw [z] at h1; omega) d6 d7) (cwV 1 hts (zg_V tw_232 tw_233 tw_234 tw_3 tw_235) rfl rfl rfl (by decide +kernel) ⟨Nat.le_of_ble_eq_true rfl, Nat.le_of_ble_eq_true rfl⟩) hZ hw hA d1 rfl rfl rfl rfl hl.1 (Nat.le_of_ble_eq_true rfl) d_AM_check_20 ⟨Nat.le_of_ble_eq_true rfl, Nat.le_of_ble_eq_true rfl⟩ (fun v M3 H locs hp hw => ?_)
      obtain ⟨rb, rfl, hFB, hDn, ho⟩ := hp
      have hoK : ∀ q, own q ≠ 3 → M3 q = M q := fun q hq => ho q (fun z => hq (by rw [z]; exact c3.oa)) (fun z => hq (by rw [z]; exact c3.ob)) (fun z => hq (by rw [z]; exact c3.oc)) (fun z => hq (by rw [z]; exact c3.od))
      have h_x : M3 ad.x = some (.inr (0, [.ref ad.pi, .ref ad.di, .ref ad.ru, .ref ad.al, .ref ad.et, .ref ad.mt, .ref ad.mr, .ref ad.no, .int (iI S.cir), .int (iI S.nk)])) := (hoK _ (by rw [ox]; decide)).trans h_x
      have c1 := c1.keep (fun q hq => hoK q (by rw [hq]; decide))
      have c2 := c2.keep (fun q hq => hoK q (by rw [hq]; decide))
      have c4 := c4.keep (fun q hq => hoK q (by rw [hq]; decide))
      have c5 := c5.keep (fun q hq => hoK q (by rw [hq]; decide))
      have c6 := c6.keep (fun q hq => hoK q (by rw [hq]; decide))
      have c7 := c7.keep (fun q hq => hoK q (by rw [hq]; decide))
      have c8 := c8.keep (fun q hq => hoK q (by rw [hq]; decide))
      have c3 : zc3 K M3 own ad.ru ad.r1 ad.r2 ad.r3 ad.r4 := ⟨c3.oo, c3.oa, c3.ob, c3.oc, c3.od, c3.hbc, c3.had, hDn⟩
      have hrb := zFB_in hFB
      have hfr : ∀ q, 9 ≤ own q → M3 q = M q := fun q g0 => (hoK q (by omega)).trans (hfr q g0)
      refine W.eq (g2 := F0 m 23 ls [.int (iI rb)]) rfl ?_
      refine lv_istore_n (lv' := [(2, .int (iI rb)), (0, .ref ad.x), (1, .int (iI ci))]) hx hb d_AM_check_23 rfl hl (by decide) rfl (fun ls hl => ?_)
      refine lv_iload_n hx hb d_AM_check_24 rfl (lv_at hl 0 rfl) ?_
      refine zq_if_ne (tgt := 48) hx hb d_AM_check_25 (by decide) ⟨by omega, by omega⟩ (fun hc4 => ?_) (fun hc4 => ?_)
      · refine lv_aload_n hx hb d_AM_check_48 rfl (lv_at hl 1 rfl) ?_
        refine zq_get hx hb hts i_AM hown hK hw h_x rfl 0 (by decide) (hts _ tw_182) rfl d_AM_check_49 ?_
        refine zq_callV (As := []) (rest := []) ⟨hx, hb, hml, hown, hts⟩ (c_CR_clear l D K M3 ad.pi ad.pis ad.pil S.pn c1.ho) (cwV 0 hts (zg_V tw_375 tw_376 tw_377 tw_2 tw_378) rfl rfl rfl (by decide +kernel) ⟨Nat.le_of_ble_eq_true rfl, Nat.le_of_ble_eq_true rfl⟩) hZ hw hA c1.ho rfl rfl rfl rfl hl.1 (Nat.le_of_ble_eq_true rfl) d_AM_check_52 ⟨Nat.le_of_ble_eq_true rfl, Nat.le_of_ble_eq_true rfl⟩ (fun v M5 H locs hp hw => ?_)
        obtain ⟨rfl, hs1, ho⟩ := hp
        have hs2 : M5 ad.pis = some (cI (K 0) 12 S.psg) := (ho _ (zq_ne c1.hs c1.ho (by simp))).trans c1.hs
        have hs3 : M5 ad.pil = some (cI (K 0) 48 S.plb) := (ho _ (zq_ne c1.hl c1.ho (by simp))).trans c1.hl
        have hoK : ∀ q, own q ≠ 1 → M5 q = M3 q := fun q hq => ho q (fun z => hq (by rw [z]; exact c1.oo))
        have h_x : M5 ad.x = some (.inr (0, [.ref ad.pi, .ref ad.di, .ref ad.ru, .ref ad.al, .ref ad.et, .ref ad.mt, .ref ad.mr, .ref ad.no, .int (iI S.cir), .int (iI S.nk)])) := (hoK _ (by rw [ox]; decide)).trans h_x
        have c2 := c2.keep (fun q hq => hoK q (by rw [hq]; decide))
        have c3 := c3.keep (fun q hq => hoK q (by rw [hq]; decide))
        have c4 := c4.keep (fun q hq => hoK q (by rw [hq]; decide))
        have c5 := c5.keep (fun q hq => hoK q (by rw [hq]; decide))
        have c6 := c6.keep (fun q hq => hoK q (by rw [hq]; decide))
        have c7 := c7.keep (fun q hq => hoK q (by rw [hq]; decide))
        have c8 := c8.keep (fun q hq => hoK q (by rw [hq]; decide))
        have c1 : zc1 K M5 own 1 ad.pi ad.pis ad.pil 0 S.psg S.plb := ⟨c1.oo, c1.os, c1.ol, hs1, hs2, hs3, ⟨by decide, by decide, c1.hC.2.2⟩⟩
        have hfr : ∀ q, 9 ≤ own q → M5 q = M q := fun q g0 => (hoK q (by omega)).trans (hfr q g0)
        refine W.eq (g2 := F0 m 55 ls []) rfl ?_
        refine lv_iload_n hx hb d_AM_check_55 rfl (lv_at hl 0 rfl) ?_
        exact zq_iret hx hb hr hlocks hZ hw ⟨rb, rfl, Or.inr ⟨⟨by omega, by omega⟩, hFB, Or.inl ⟨by omega, ((0, S.psg, S.plb, S.n, S.sg, S.lb, S.cir, S.cN, S.lN, S.al0, S.at0, S.ls0, S.N, S.F, S.G, S.lr, S.lc, S.kn, S.dl, S.fl, S.nk, S.dn, S.fn) : zSt), ⟨⟨ox, h_x, c1, c2, c3, ⟨_, _, c4⟩, ⟨_, _, c5⟩, c6, c7, c8, hci, hlr⟩, c4, c5, hS.hrd, hS.hk0, hS.hkn, hS.hn0, hS.hnf⟩, ⟨rfl, rfl, rfl, rfl, rfl, rfl, rfl⟩⟩, hfr⟩⟩ d_AM_check_56
      · refine lv_aload_n hx hb d_AM_check_28 rfl (lv_at hl 1 rfl) ?_
        refine zq_get hx hb hts i_AM hown hK hw h_x rfl 1 (by decide) (hts _ tw_183) rfl d_AM_check_29 ?_
        refine lv_aload_n hx hb d_AM_check_32 rfl (lv_at hl 1 rfl) ?_
        refine zq_get hx hb hts i_AM hown hK hw h_x rfl 0 (by decide) (hts _ tw_182) rfl d_AM_check_33 ?_
        refine zq_callV (As := [.ref ad.pi]) (rest := []) ⟨hx, hb, hml, hown, hts⟩ (c_CR_copyFrom l D K M3 ad.di ad.dis ad.dil S.n S.sg S.lb ad.pi ad.pis ad.pil S.pn S.psg S.plb c2.ho c2.hs c2.hl c1.ho c1.hs c1.hl (fun z => by have h1 := c2.oo; have h2 := c1.oo; rw [z] at h1; omega) (fun z => by have h1 := c2.os; have h2 := c1.os; rw [z] at h1; omega) (fun z => by have h1 := c2.ol; have h2 := c1.ol; rw [z] at h1; omega)) (cwV 1 hts (zg_V tw_303 tw_304 tw_305 tw_2 tw_306) rfl rfl rfl (by decide +kernel) ⟨Nat.le_of_ble_eq_true rfl, Nat.le_of_ble_eq_true rfl⟩) hZ hw hA c2.ho rfl rfl rfl rfl hl.1 (Nat.le_of_ble_eq_true rfl) d_AM_check_36 ⟨Nat.le_of_ble_eq_true rfl, Nat.le_of_ble_eq_true rfl⟩ (fun v M6 H locs hp hw => ?_)
        obtain ⟨rfl, hs1, hs2, hs3, ho⟩ := hp
        have hoK : ∀ q, own q ≠ 2 → M6 q = M3 q := fun q hq => ho q (fun z => hq (by rw [z]; exact c2.oo)) (fun z => hq (by rw [z]; exact c2.os)) (fun z => hq (by rw [z]; exact c2.ol))
        have h_x : M6 ad.x = some (.inr (0, [.ref ad.pi, .ref ad.di, .ref ad.ru, .ref ad.al, .ref ad.et, .ref ad.mt, .ref ad.mr, .ref ad.no, .int (iI S.cir), .int (iI S.nk)])) := (hoK _ (by rw [ox]; decide)).trans h_x
        have c1 := c1.keep (fun q hq => hoK q (by rw [hq]; decide))
        have c3 := c3.keep (fun q hq => hoK q (by rw [hq]; decide))
        have c4 := c4.keep (fun q hq => hoK q (by rw [hq]; decide))
        have c5 := c5.keep (fun q hq => hoK q (by rw [hq]; decide))
        have c6 := c6.keep (fun q hq => hoK q (by rw [hq]; decide))
        have c7 := c7.keep (fun q hq => hoK q (by rw [hq]; decide))
        have c8 := c8.keep (fun q hq => hoK q (by rw [hq]; decide))
        have c2 : zc1 K M6 own 2 ad.di ad.dis ad.dil S.pn S.psg S.plb := ⟨c2.oo, c2.os, c2.ol, hs1, hs2, hs3, c1.hC⟩
        have hfr : ∀ q, 9 ≤ own q → M6 q = M q := fun q g0 => (hoK q (by omega)).trans (hfr q g0)
        refine W.eq (g2 := F0 m 39 ls []) rfl ?_
        refine lv_aload_n hx hb d_AM_check_39 rfl (lv_at hl 1 rfl) ?_
        refine lv_iload_n hx hb d_AM_check_40 rfl (lv_at hl 2 rfl) ?_
        refine zq_put (ci := 0) (v := .int (iI ci)) (ty := .int) hx hb hts i_AM t_AM t_AM_ok n_AM hown hK hw h_x rfl 8 (by decide) (hts _ tw_190) rfl (by decide +kernel) rfl rfl (Nat.le_of_ble_eq_true rfl) d_AM_check_41 (fun M7 H locs hs ho hw => ?_)
        have h_x : M7 ad.x = some (.inr (0, [.ref ad.pi, .ref ad.di, .ref ad.ru, .ref ad.al, .ref ad.et, .ref ad.mt, .ref ad.mr, .ref ad.no, .int (iI ci), .int (iI S.nk)])) := hs
        have hfr : ∀ q, 9 ≤ own q → M7 q = M q := fun q g0 => (ho q (fun z => by rw [z, ox] at g0; omega)).trans (hfr q g0)
        have c1 := c1.keep (fun q hq => ho q (fun z => by rw [z, ox] at hq; exact absurd hq (by decide)))
        have c2 := c2.keep (fun q hq => ho q (fun z => by rw [z, ox] at hq; exact absurd hq (by decide)))
        have c3 := c3.keep (fun q hq => ho q (fun z => by rw [z, ox] at hq; exact absurd hq (by decide)))
        have c4 := c4.keep (fun q hq => ho q (fun z => by rw [z, ox] at hq; exact absurd hq (by decide)))
        have c5 := c5.keep (fun q hq => ho q (fun z => by rw [z, ox] at hq; exact absurd hq (by decide)))
        have c6 := c6.keep (fun q hq => ho q (fun z => by rw [z, ox] at hq; exact absurd hq (by decide)))
        have c7 := c7.keep (fun q hq => ho q (fun z => by rw [z, ox] at hq; exact absurd hq (by decide)))
        have c8 := c8.keep (fun q hq => ho q (fun z => by rw [z, ox] at hq; exact absurd hq (by decide)))
        have hci : 0 ≤ ci ∧ ci ≤ 9 := ⟨by omega, by omega⟩
        obtain ⟨S1, hS1⟩ : ∃ z : zSt, z = ((S.pn, S.psg, S.plb, S.pn, S.psg, S.plb, ci, S.cN, S.lN, S.al0, S.at0, S.ls0, S.N, S.F, S.G, S.lr, S.lc, S.kn, S.dl, S.fl, S.nk, S.dn, S.fn) : zSt) := ⟨_, rfl⟩
        have hW1 : zCW K M7 own ad S1 := by rw [hS1]; exact ⟨ox, h_x, c1, c2, c3, ⟨_, _, c4⟩, ⟨_, _, c5⟩, c6, c7, c8, hci, hlr⟩
        have hr0 : rb = 0 := by omega
        have hOk1 : zOkD S1.n S1.sg S1.lb := by rw [hS1]; exact hOk (hr0 ▸ hFB)
        refine lv_aload_n hx hb d_AM_check_44 rfl (lv_at hl 1 rfl) ?_
        refine zq_callV (As := []) (rest := []) ⟨hx, hb, hml, hown, hts⟩ (c_AM_readDiagram l D K M7 own ad S1 hW1 hOk1) (cwV 0 hts (zg_V tw_310 tw_312 ts_10 tw_1 tw_313) rfl rfl rfl (by decide +kernel) ⟨Nat.le_of_ble_eq_true rfl, Nat.le_of_ble_eq_true rfl⟩) hZ hw hA h_x rfl rfl rfl rfl hl.1 (Nat.le_of_ble_eq_true rfl) d_AM_check_45 ⟨Nat.le_of_ble_eq_true rfl, Nat.le_of_ble_eq_true rfl⟩ (fun v M8 H locs hp hw => ?_)
        obtain ⟨rfl, cN, lN, N, hSn, ho⟩ := hp
        have hfr : ∀ q, 9 ≤ own q → M8 q = M q := fun q g0 => (ho q (by omega) (by omega) (by omega) (by omega)).trans (hfr q g0)
        have ox := hSn.w.ox
        have h_x := hSn.w.hx
        have c1 := hSn.w.c1
        have c2 := hSn.w.c2
        have c3 := hSn.w.c3
        have c4 := hSn.c4
        have c5 := hSn.c5
        have c6 := hSn.w.c6
        have c7 := hSn.w.c7
        have c8 := hSn.w.c8
        have hlr := hSn.w.hlr
        have e1 : S1.pn = S.pn ∧ S1.psg = S.psg ∧ S1.plb = S.plb ∧ S1.cir = ci := by rw [hS1]; exact ⟨rfl, rfl, rfl, rfl⟩
        have c1 : zc1 K M8 own 1 ad.pi ad.pis ad.pil S.pn S.psg S.plb := by rw [← e1.1, ← e1.2.1, ← e1.2.2.1]; exact c1
        refine W.eq (g2 := F0 m 48 ls []) rfl ?_
        refine lv_aload_n hx hb d_AM_check_48 rfl (lv_at hl 1 rfl) ?_
        refine zq_get hx hb hts i_AM hown hK hw h_x rfl 0 (by decide) (hts _ tw_182) rfl d_AM_check_49 ?_
        refine zq_callV (As := []) (rest := []) ⟨hx, hb, hml, hown, hts⟩ (c_CR_clear l D K M8 ad.pi ad.pis ad.pil S.pn c1.ho) (cwV 0 hts (zg_V tw_375 tw_376 tw_377 tw_2 tw_378) rfl rfl rfl (by decide +kernel) ⟨Nat.le_of_ble_eq_true rfl, Nat.le_of_ble_eq_true rfl⟩) hZ hw hA c1.ho rfl rfl rfl rfl hl.1 (Nat.le_of_ble_eq_true rfl) d_AM_check_52 ⟨Nat.le_of_ble_eq_true rfl, Nat.le_of_ble_eq_true rfl⟩ (fun v M9 H locs hp hw => ?_)
        obtain ⟨rfl, hs1, ho⟩ := hp
        have hs2 : M9 ad.pis = some (cI (K 0) 12 S.psg) := (ho _ (zq_ne c1.hs c1.ho (by simp))).trans c1.hs
        have hs3 : M9 ad.pil = some (cI (K 0) 48 S.plb) := (ho _ (zq_ne c1.hl c1.ho (by simp))).trans c1.hl
        have hoK : ∀ q, own q ≠ 1 → M9 q = M8 q := fun q hq => ho q (fun z => hq (by rw [z]; exact c1.oo))
        have h_x : M9 ad.x = some (.inr (0, [.ref ad.pi, .ref ad.di, .ref ad.ru, .ref ad.al, .ref ad.et, .ref ad.mt, .ref ad.mr, .ref ad.no, .int (iI S1.cir), .int (iI 0)])) := (hoK _ (by rw [ox]; decide)).trans h_x
        have c2 := c2.keep (fun q hq => hoK q (by rw [hq]; decide))
        have c3 := c3.keep (fun q hq => hoK q (by rw [hq]; decide))
        have c4 := c4.keep (fun q hq => hoK q (by rw [hq]; decide))
        have c5 := c5.keep (fun q hq => hoK q (by rw [hq]; decide))
        have c6 := c6.keep (fun q hq => hoK q (by rw [hq]; decide))
        have c7 := c7.keep (fun q hq => hoK q (by rw [hq]; decide))
        have c8 := c8.keep (fun q hq => hoK q (by rw [hq]; decide))
        have c1 : zc1 K M9 own 1 ad.pi ad.pis ad.pil 0 S.psg S.plb := ⟨c1.oo, c1.os, c1.ol, hs1, hs2, hs3, ⟨by decide, by decide, c1.hC.2.2⟩⟩
        have hfr : ∀ q, 9 ≤ own q → M9 q = M q := fun q g0 => (hoK q (by omega)).trans (hfr q g0)
        refine W.eq (g2 := F0 m 55 ls []) rfl ?_
        refine lv_iload_n hx hb d_AM_check_55 rfl (lv_at hl 0 rfl) ?_
        exact zq_iret hx hb hr hlocks hZ hw ⟨rb, rfl, Or.inr ⟨⟨by omega, by omega⟩, hFB, Or.inr ⟨hr0, ((0, S.psg, S.plb, S1.n, S1.sg, S1.lb, S1.cir, cN, lN, (zcp S1.lb S1.al0 (4 * S1.n)), (zja S1.sg (zcp S1.lb S1.at0 (4 * S1.n)) (4 * S1.n) S1.n.toNat), (fun z => if cN ≤ z ∧ z < cN + S1.cir then 0 else lN z), N, (fun k => if 0 ≤ k ∧ k < S1.n then zrc S1.sg N k else S1.F k), (fun k => if 0 ≤ k ∧ k < S1.n then zrt S1.sg N k else S1.G k), S1.lr, S1.lc, 0, S1.dl, S1.fl, 0, S1.dn, S1.fn) : zSt), ⟨⟨ox, h_x, c1, c2, c3, ⟨_, _, c4⟩, ⟨_, _, c5⟩, c6, c7, c8, hSn.w.hci, hlr⟩, c4, c5, hSn.hrd, hSn.hk0, hSn.hkn, hSn.hn0, hSn.hnf⟩, (by rw [hS1]; exact ⟨rfl, rfl, rfl, rfl, rfl, rfl, rfl⟩)⟩, hfr⟩⟩ d_AM_check_56
    · refine lv_iconst (v := iI (-1)) hx hb d_AM_check_10 rfl ?_
      exact zq_iret hx hb hr hlocks hZ hw ⟨-1, rfl, Or.inl ⟨by omega, rfl, rfl⟩⟩ d_AM_check_11
