abbrev P_AM_normalForm (K : Nat → ClassId) (M : zq_M) (own : Nat → Nat) (ad : zAd) (S : zSt) : Option Value → zq_M → Prop := fun v M' => ∃ pa1 qa1 lr1 lc1 kn1 dl1 fl1 dn1 fn1, v = some (.ref ad.no) ∧ zCS K M' own ((ad.x, ad.pi, ad.pis, ad.pil, ad.di, ad.dis, ad.dil, ad.ru, ad.r1, ad.r2, ad.r3, ad.r4, ad.al, ad.a1, ad.a2, ad.a3, ad.et, ad.e1, ad.e2, ad.mt, ad.dt, ad.la, ad.qla, ad.cA, ad.pr, ad.qpr, ad.on, ad.qon, ad.mr, ad.m1, ad.no, ad.qno, ad.ea, ad.eb, ad.rm, pa1, qa1) : zAd) ((S.pn, S.psg, S.plb, S.n, S.sg, S.lb, S.cir, S.cN, S.lN, S.al0, S.at0, S.ls0, S.N, S.F, S.G, lr1, lc1, kn1, dl1, fl1, 1, dn1, fn1) : zSt) ∧ ∀ q, 9 ≤ own q → M' q = M q
set_option maxHeartbeats 4000000 in
set_option maxRecDepth 100000 in
theorem c_AM_normalForm (l : Launch) (D : va_G) (K : Nat → ClassId) (M : zq_M) (own : Nat → Nat) (ad : zAd) (S : zSt) (hS : zCS K M own ad S) (hHok : zHok S.F S.G S.n (S.cN + S.cir)) (hRb : ∀ lr lc res, zTk S.F S.G S.n (S.cN + S.cir) lr lc res → ∀ j, -9223372036854775807 ≤ res j ∧ res j < 9223372036854775808) : zq_Met l y_AM_normalForm (.code y_AM_normalForm b_AM_normalForm 2 (some (.object "AlexanderMatrix$Polynomial")) :: lw_gd) { frames := 5, cells := 0, slots := 0, locals := 136 } D vwCl (zT K) [.ref ad.x] M (P_AM_normalForm K M own ad S) 0 0 := by
  refine zq_start (cc := b_AM_normalForm) (maxL := 2) (ret := (some (.object "AlexanderMatrix$Polynomial"))) (by decide) rfl (Nat.le_of_ble_eq_true rfl) ?_
  intro p e s m below meth co A ls hx hb hr hml hts hown hnm hlocks hA hZ hw hl
  have hts : ∀ w ∈ lw_gd, w.before [.ref ad.x].toArray s = true := fun w h => hts w (List.mem_cons_of_mem _ h)
  have hown : s.vm.findClass R_AM = some m.cls := hown
  have hK := hZ.1
  have hl : lv_has ls 2 [(0, .ref ad.x)] := hl
  have hfr : ∀ q, 9 ≤ own q → M q = M q := fun q _ => rfl
  have ox := hS.w.ox
  have h_x := hS.w.hx
  have c1 := hS.w.c1
  have c2 := hS.w.c2
  have c3 := hS.w.c3
  have c4 := hS.c4
  have c5 := hS.c5
  have c6 := hS.w.c6
  have c7 := hS.w.c7
  have c8 := hS.w.c8
  have hci := hS.w.hci
  have hlr := hS.w.hlr
  have hrd := hS.hrd
  have hn0 := hS.hn0
  have hr5 := zat_rw c5.hE
  refine lv_aload_n hx hb d_AM_normalForm_0 rfl (lv_at hl 0 rfl) ?_
  refine zq_get hx hb hts i_AM hown hK hw h_x rfl 9 (by decide) (hts _ tw_191) rfl d_AM_normalForm_1 ?_
  refine zq_if_ne (tgt := 55) hx hb d_AM_normalForm_4 (by decide) ⟨by omega, by omega⟩ (fun hc1 => ?_) (fun hc1 => ?_)
  · refine lv_aload_n hx hb d_AM_normalForm_55 rfl (lv_at hl 0 rfl) ?_
    refine zq_get hx hb hts i_AM hown hK hw h_x rfl 7 (by decide) (hts _ tw_189) rfl d_AM_normalForm_56 ?_
    exact zq_aret hx hb hr (Or.inl ⟨_, rfl⟩) hlocks hZ hw ⟨ad.pa, ad.qa, S.lr, S.lc, S.kn, S.dl, S.fl, S.dn, S.fn, rfl, ⟨⟨ox, (by have hnk : S.nk = 1 := (hS.hn0.resolve_left (by assumption)); rw [hnk] at h_x; exact h_x), c1, c2, c3, ⟨_, _, c4⟩, ⟨_, _, c5⟩, c6, c7, c8, hci, hlr⟩, c4, c5, hS.hrd, hS.hk0, hS.hkn, Or.inr rfl, fun _ => hS.hnf (hS.hn0.resolve_left (by assumption))⟩, hfr⟩ d_AM_normalForm_59
  · refine lv_aload_n hx hb d_AM_normalForm_7 rfl (lv_at hl 0 rfl) ?_
    refine zq_get hx hb hts i_AM hown hK hw h_x rfl 4 (by decide) (hts _ tw_186) rfl d_AM_normalForm_8 ?_
    refine zq_callV (As := []) (rest := []) ⟨hx, hb, hml, hown, hts⟩ (c_ET_rows l D K M ad.et ad.e1 ad.e2 S.n (S.cN + S.cir) c5.ho (zat_rw c5.hE)) (cwV 0 hts (zg_V tw_389 tw_390 tw_391 tw_5 tw_392) rfl rfl rfl (by decide +kernel) ⟨Nat.le_of_ble_eq_true rfl, Nat.le_of_ble_eq_true rfl⟩) hZ hw hA c5.ho rfl rfl rfl rfl hl.1 (Nat.le_of_ble_eq_true rfl) d_AM_normalForm_11 ⟨Nat.le_of_ble_eq_true rfl, Nat.le_of_ble_eq_true rfl⟩ (fun v M2 H locs hp hw => ?_)
    obtain ⟨rfl, hMe⟩ := hp
    rw [hMe] at hw
    refine W.eq (g2 := F0 m 14 ls [.int (iI S.n)]) rfl ?_
    refine lv_aload_n hx hb d_AM_normalForm_14 rfl (lv_at hl 0 rfl) ?_
    refine zq_get hx hb hts i_AM hown hK hw h_x rfl 4 (by decide) (hts _ tw_186) rfl d_AM_normalForm_15 ?_
    refine zq_callV (As := []) (rest := [.int (iI S.n)]) ⟨hx, hb, hml, hown, hts⟩ (c_ET_columns l D K M ad.et ad.e1 ad.e2 S.n (S.cN + S.cir) c5.ho (zat_rw c5.hE)) (cwV 0 hts (zg_V tw_393 tw_394 tw_395 tw_5 tw_396) rfl rfl rfl (by decide +kernel) ⟨Nat.le_of_ble_eq_true rfl, Nat.le_of_ble_eq_true rfl⟩) hZ hw hA c5.ho rfl rfl rfl rfl hl.1 (Nat.le_of_ble_eq_true rfl) d_AM_normalForm_18 ⟨Nat.le_of_ble_eq_true rfl, Nat.le_of_ble_eq_true rfl⟩ (fun v M3 H locs hp hw => ?_)
    obtain ⟨rfl, hMe⟩ := hp
    rw [hMe] at hw
    refine W.eq (g2 := F0 m 21 ls [.int (iI (S.cN + S.cir)), .int (iI S.n)]) rfl ?_
    refine zq_icmp_ne (tgt := 28) hx hb d_AM_normalForm_21 (by decide) ⟨by omega, by omega⟩ ⟨by omega, by omega⟩ (fun hc4 => ?_) (fun hc4 => ?_)
    · refine lv_iconst (v := iI (-1)) hx hb d_AM_normalForm_28 rfl ?_
      refine lv_istore_n (lv' := [(1, .int (iI (-1))), (0, .ref ad.x)]) hx hb d_AM_normalForm_29 rfl hl (by decide) rfl (fun ls hl => ?_)
      refine lv_aload_n hx hb d_AM_normalForm_30 rfl (lv_at hl 1 rfl) ?_
      refine zq_get hx hb hts i_AM hown hK hw h_x rfl 7 (by decide) (hts _ tw_189) rfl d_AM_normalForm_31 ?_
      refine lv_aload_n hx hb d_AM_normalForm_34 rfl (lv_at hl 1 rfl) ?_
      refine zq_get hx hb hts i_AM hown hK hw h_x rfl 5 (by decide) (hts _ tw_187) rfl d_AM_normalForm_35 ?_
      refine lv_aload_n hx hb d_AM_normalForm_38 rfl (lv_at hl 1 rfl) ?_
      refine zq_get hx hb hts i_AM hown hK hw h_x rfl 4 (by decide) (hts _ tw_186) rfl d_AM_normalForm_39 ?_
      refine lv_iload_n hx hb d_AM_normalForm_42 rfl (lv_at hl 0 rfl) ?_
      refine lv_iconst (v := iI 0) hx hb d_AM_normalForm_43 rfl ?_
      have t6 := zMT_o c6.hM
      refine zq_callV (As := [.ref ad.et, .int (iI (-1)), .int (iI 0)]) (rest := [.ref ad.no]) ⟨hx, hb, hml, hown, hts⟩ (c_MT_take l D K M ad.mt ad.dt ad.la ad.qla ad.cA ad.pr ad.qpr ad.on ad.qon ad.pa ad.qa S.lr S.lc S.kn S.dl S.fl ad.et ad.e1 ad.e2 ad.ea ad.eb S.n (S.cN + S.cir) S.F S.G (-1) 0 c6.hM c5.ho c5.hG1 c5.hG2 c5.hE c5.hFb c5.hGb hlr hS.hk0 hS.hkn hHok (by decide) (by decide)) (cwV 3 hts (zg_V tw_397 tw_398 tw_399 tw_6 tw_400) rfl rfl rfl (by decide +kernel) ⟨Nat.le_of_ble_eq_true rfl, Nat.le_of_ble_eq_true rfl⟩) hZ hw hA t6 rfl rfl rfl rfl hl.1 (Nat.le_of_ble_eq_true rfl) d_AM_normalForm_44 ⟨Nat.le_of_ble_eq_true rfl, Nat.le_of_ble_eq_true rfl⟩ (fun v M5 H locs hp hw => ?_)
      obtain ⟨pa1, qa1, res, dr, rfl, hMT1, hTk, hSb, ho⟩ := hp
      have hoK : ∀ q, own q ≠ 6 → M5 q = M q := fun q hq => ho q (fun z => hq (by rw [z]; exact c6.oo)) (fun z => hq (by rw [z]; exact c6.o4)) (fun z => hq (by rw [z]; exact c6.o5)) (fun z => hq (by rw [z]; exact c6.o6)) (fun i h1 h2 z => hq (by rw [z]; exact (c6.oa i h1 h2).1)) (fun i h1 h2 z => hq (by rw [z]; exact (c6.oa i h1 h2).2)) (fun z => hq (by rw [z]; exact c6.o2)) (fun z => hq (by rw [z]; exact c6.o3))
      have h_x : M5 ad.x = some (.inr (0, [.ref ad.pi, .ref ad.di, .ref ad.ru, .ref ad.al, .ref ad.et, .ref ad.mt, .ref ad.mr, .ref ad.no, .int (iI S.cir), .int (iI S.nk)])) := (hoK _ (by rw [ox]; decide)).trans h_x
      have c1 := c1.keep (fun q hq => hoK q (by rw [hq]; decide))
      have c2 := c2.keep (fun q hq => hoK q (by rw [hq]; decide))
      have c3 := c3.keep (fun q hq => hoK q (by rw [hq]; decide))
      have c4 := c4.keep (fun q hq => hoK q (by rw [hq]; decide))
      have c5 := c5.keep (fun q hq => hoK q (by rw [hq]; decide))
      have c7 := c7.keep (fun q hq => hoK q (by rw [hq]; decide))
      have c8 := c8.keep (fun q hq => hoK q (by rw [hq]; decide))
      have c6 : zc6 K M5 own ad.mt ad.dt ad.la ad.qla ad.cA ad.pr ad.qpr ad.on ad.qon pa1 qa1 (-1) 0 1 dr res := ⟨c6.oo, c6.o1, c6.o2, c6.o3, c6.o4, c6.o5, c6.o6, c6.o7, c6.o8, zSb_own hSb c6.oa, hMT1⟩
      obtain ⟨t_la, t_qla, hDr⟩ := zMT_la hMT1
      have hfr : ∀ q, 9 ≤ own q → M5 q = M q := fun q g0 => (hoK q (by omega)).trans (hfr q g0)
      refine W.eq (g2 := F0 m 47 ls [.ref ad.la, .ref ad.no]) rfl ?_
      refine zq_callV (As := [.ref ad.la]) (rest := []) ⟨hx, hb, hml, hown, hts⟩ (c_PO_setNormalFormOf l D K M5 ad.no ad.qno ad.la ad.qla S.dn S.fn dr res c8.ho c8.hq t_la t_qla (fun z => by have h1 := c8.oo; have h2 := c6.o2; rw [z] at h1; omega) (fun z => by have h1 := c8.oq; have h2 := c6.o3; rw [z] at h1; omega) (zD_U c8.hD) hDr (hRb _ _ _ hTk)) (cwV 1 hts (zg_V tw_469 tw_470 tw_471 tw_8 tw_472) rfl rfl rfl (by decide +kernel) ⟨Nat.le_of_ble_eq_true rfl, Nat.le_of_ble_eq_true rfl⟩) hZ hw hA c8.ho rfl rfl rfl rfl hl.1 (Nat.le_of_ble_eq_true rfl) d_AM_normalForm_47 ⟨Nat.le_of_ble_eq_true rfl, Nat.le_of_ble_eq_true rfl⟩ (fun v M6 H locs hp hw => ?_)
      obtain ⟨rfl, lw, d1, hlw, hlz, hln, hDn, hs1, hs2, ho⟩ := hp
      have hoK : ∀ q, own q ≠ 8 → M6 q = M5 q := fun q hq => ho q (fun z => hq (by rw [z]; exact c8.oo)) (fun z => hq (by rw [z]; exact c8.oq))
      have h_x : M6 ad.x = some (.inr (0, [.ref ad.pi, .ref ad.di, .ref ad.ru, .ref ad.al, .ref ad.et, .ref ad.mt, .ref ad.mr, .ref ad.no, .int (iI S.cir), .int (iI S.nk)])) := (hoK _ (by rw [ox]; decide)).trans h_x
      have c1 := c1.keep (fun q hq => hoK q (by rw [hq]; decide))
      have c2 := c2.keep (fun q hq => hoK q (by rw [hq]; decide))
      have c3 := c3.keep (fun q hq => hoK q (by rw [hq]; decide))
      have c4 := c4.keep (fun q hq => hoK q (by rw [hq]; decide))
      have c5 := c5.keep (fun q hq => hoK q (by rw [hq]; decide))
      have c6 := c6.keep (fun q hq => hoK q (by rw [hq]; decide))
      have c7 := c7.keep (fun q hq => hoK q (by rw [hq]; decide))
      have c8 : zc8 K M6 own ad.no ad.qno d1 (fun j => zsg (res lw) * res (j + lw)) := ⟨c8.oo, c8.oq, hs1, hs2, hDn⟩
      have hfr : ∀ q, 9 ≤ own q → M6 q = M q := fun q g0 => (hoK q (by omega)).trans (hfr q g0)
      refine W.eq (g2 := F0 m 50 ls []) rfl ?_
      refine lv_aload_n hx hb d_AM_normalForm_50 rfl (lv_at hl 1 rfl) ?_
      refine lv_iconst (v := iI 1) hx hb d_AM_normalForm_51 rfl ?_
      refine zq_put (ci := 0) (v := .int (iI 1)) (ty := .boolean) hx hb hts i_AM t_AM t_AM_ok n_AM hown hK hw h_x rfl 9 (by decide) (hts _ tw_191) rfl (by decide +kernel) rfl rfl (Nat.le_of_ble_eq_true rfl) d_AM_normalForm_52 (fun M7 H locs hs ho hw => ?_)
      have h_x : M7 ad.x = some (.inr (0, [.ref ad.pi, .ref ad.di, .ref ad.ru, .ref ad.al, .ref ad.et, .ref ad.mt, .ref ad.mr, .ref ad.no, .int (iI S.cir), .int (iI 1)])) := hs
      have hfr : ∀ q, 9 ≤ own q → M7 q = M q := fun q g0 => (ho q (fun z => by rw [z, ox] at g0; omega)).trans (hfr q g0)
      have c1 := c1.keep (fun q hq => ho q (fun z => by rw [z, ox] at hq; exact absurd hq (by decide)))
      have c2 := c2.keep (fun q hq => ho q (fun z => by rw [z, ox] at hq; exact absurd hq (by decide)))
      have c3 := c3.keep (fun q hq => ho q (fun z => by rw [z, ox] at hq; exact absurd hq (by decide)))
      have c4 := c4.keep (fun q hq => ho q (fun z => by rw [z, ox] at hq; exact absurd hq (by decide)))
      have c5 := c5.keep (fun q hq => ho q (fun z => by rw [z, ox] at hq; exact absurd hq (by decide)))
      have c6 := c6.keep (fun q hq => ho q (fun z => by rw [z, ox] at hq; exact absurd hq (by decide)))
      have c7 := c7.keep (fun q hq => ho q (fun z => by rw [z, ox] at hq; exact absurd hq (by decide)))
      have c8 := c8.keep (fun q hq => ho q (fun z => by rw [z, ox] at hq; exact absurd hq (by decide)))
      refine lv_aload_n hx hb d_AM_normalForm_55 rfl (lv_at hl 1 rfl) ?_
      refine zq_get hx hb hts i_AM hown hK hw h_x rfl 7 (by decide) (hts _ tw_189) rfl d_AM_normalForm_56 ?_
      exact zq_aret hx hb hr (Or.inl ⟨_, rfl⟩) hlocks hZ hw ⟨pa1, qa1, (-1), 0, 1, dr, res, d1, _, rfl, ⟨⟨ox, h_x, c1, c2, c3, ⟨_, _, c4⟩, ⟨_, _, c5⟩, c6, c7, c8, hci, ⟨(show inI (-1) by decide), (show inI 0 by decide)⟩⟩, c4, c5, hS.hrd, Or.inr rfl, fun _ => hTk, Or.inr rfl, fun _ => ⟨res, dr, lw, (by show zTk _ _ _ _ (if S.n = (S.cN + S.cir) then 0 else -1) 0 res; rw [if_neg (by omega)]; exact hTk), hDr, hlw, hlz, hln, rfl⟩⟩, hfr⟩ d_AM_normalForm_59
    · refine lv_iconst (v := iI 0) hx hb d_AM_normalForm_24 rfl ?_
      refine lv_goto (tgt := 29) hx hb d_AM_normalForm_25 (by decide) ?_
      refine lv_istore_n (lv' := [(1, .int (iI 0)), (0, .ref ad.x)]) hx hb d_AM_normalForm_29 rfl hl (by decide) rfl (fun ls hl => ?_)
      refine lv_aload_n hx hb d_AM_normalForm_30 rfl (lv_at hl 1 rfl) ?_
      refine zq_get hx hb hts i_AM hown hK hw h_x rfl 7 (by decide) (hts _ tw_189) rfl d_AM_normalForm_31 ?_
      refine lv_aload_n hx hb d_AM_normalForm_34 rfl (lv_at hl 1 rfl) ?_
      refine zq_get hx hb hts i_AM hown hK hw h_x rfl 5 (by decide) (hts _ tw_187) rfl d_AM_normalForm_35 ?_
      refine lv_aload_n hx hb d_AM_normalForm_38 rfl (lv_at hl 1 rfl) ?_
      refine zq_get hx hb hts i_AM hown hK hw h_x rfl 4 (by decide) (hts _ tw_186) rfl d_AM_normalForm_39 ?_
      refine lv_iload_n hx hb d_AM_normalForm_42 rfl (lv_at hl 0 rfl) ?_
      refine lv_iconst (v := iI 0) hx hb d_AM_normalForm_43 rfl ?_
      have t6 := zMT_o c6.hM
      refine zq_callV (As := [.ref ad.et, .int (iI 0), .int (iI 0)]) (rest := [.ref ad.no]) ⟨hx, hb, hml, hown, hts⟩ (c_MT_take l D K M ad.mt ad.dt ad.la ad.qla ad.cA ad.pr ad.qpr ad.on ad.qon ad.pa ad.qa S.lr S.lc S.kn S.dl S.fl ad.et ad.e1 ad.e2 ad.ea ad.eb S.n (S.cN + S.cir) S.F S.G 0 0 c6.hM c5.ho c5.hG1 c5.hG2 c5.hE c5.hFb c5.hGb hlr hS.hk0 hS.hkn hHok (by decide) (by decide)) (cwV 3 hts (zg_V tw_397 tw_398 tw_399 tw_6 tw_400) rfl rfl rfl (by decide +kernel) ⟨Nat.le_of_ble_eq_true rfl, Nat.le_of_ble_eq_true rfl⟩) hZ hw hA t6 rfl rfl rfl rfl hl.1 (Nat.le_of_ble_eq_true rfl) d_AM_normalForm_44 ⟨Nat.le_of_ble_eq_true rfl, Nat.le_of_ble_eq_true rfl⟩ (fun v M8 H locs hp hw => ?_)
      obtain ⟨pa1, qa1, res, dr, rfl, hMT1, hTk, hSb, ho⟩ := hp
      have hoK : ∀ q, own q ≠ 6 → M8 q = M q := fun q hq => ho q (fun z => hq (by rw [z]; exact c6.oo)) (fun z => hq (by rw [z]; exact c6.o4)) (fun z => hq (by rw [z]; exact c6.o5)) (fun z => hq (by rw [z]; exact c6.o6)) (fun i h1 h2 z => hq (by rw [z]; exact (c6.oa i h1 h2).1)) (fun i h1 h2 z => hq (by rw [z]; exact (c6.oa i h1 h2).2)) (fun z => hq (by rw [z]; exact c6.o2)) (fun z => hq (by rw [z]; exact c6.o3))
      have h_x : M8 ad.x = some (.inr (0, [.ref ad.pi, .ref ad.di, .ref ad.ru, .ref ad.al, .ref ad.et, .ref ad.mt, .ref ad.mr, .ref ad.no, .int (iI S.cir), .int (iI S.nk)])) := (hoK _ (by rw [ox]; decide)).trans h_x
      have c1 := c1.keep (fun q hq => hoK q (by rw [hq]; decide))
      have c2 := c2.keep (fun q hq => hoK q (by rw [hq]; decide))
      have c3 := c3.keep (fun q hq => hoK q (by rw [hq]; decide))
      have c4 := c4.keep (fun q hq => hoK q (by rw [hq]; decide))
      have c5 := c5.keep (fun q hq => hoK q (by rw [hq]; decide))
      have c7 := c7.keep (fun q hq => hoK q (by rw [hq]; decide))
      have c8 := c8.keep (fun q hq => hoK q (by rw [hq]; decide))
      have c6 : zc6 K M8 own ad.mt ad.dt ad.la ad.qla ad.cA ad.pr ad.qpr ad.on ad.qon pa1 qa1 0 0 1 dr res := ⟨c6.oo, c6.o1, c6.o2, c6.o3, c6.o4, c6.o5, c6.o6, c6.o7, c6.o8, zSb_own hSb c6.oa, hMT1⟩
      obtain ⟨t_la, t_qla, hDr⟩ := zMT_la hMT1
      have hfr : ∀ q, 9 ≤ own q → M8 q = M q := fun q g0 => (hoK q (by omega)).trans (hfr q g0)
      refine W.eq (g2 := F0 m 47 ls [.ref ad.la, .ref ad.no]) rfl ?_
      refine zq_callV (As := [.ref ad.la]) (rest := []) ⟨hx, hb, hml, hown, hts⟩ (c_PO_setNormalFormOf l D K M8 ad.no ad.qno ad.la ad.qla S.dn S.fn dr res c8.ho c8.hq t_la t_qla (fun z => by have h1 := c8.oo; have h2 := c6.o2; rw [z] at h1; omega) (fun z => by have h1 := c8.oq; have h2 := c6.o3; rw [z] at h1; omega) (zD_U c8.hD) hDr (hRb _ _ _ hTk)) (cwV 1 hts (zg_V tw_469 tw_470 tw_471 tw_8 tw_472) rfl rfl rfl (by decide +kernel) ⟨Nat.le_of_ble_eq_true rfl, Nat.le_of_ble_eq_true rfl⟩) hZ hw hA c8.ho rfl rfl rfl rfl hl.1 (Nat.le_of_ble_eq_true rfl) d_AM_normalForm_47 ⟨Nat.le_of_ble_eq_true rfl, Nat.le_of_ble_eq_true rfl⟩ (fun v M9 H locs hp hw => ?_)
      obtain ⟨rfl, lw, d1, hlw, hlz, hln, hDn, hs1, hs2, ho⟩ := hp
      have hoK : ∀ q, own q ≠ 8 → M9 q = M8 q := fun q hq => ho q (fun z => hq (by rw [z]; exact c8.oo)) (fun z => hq (by rw [z]; exact c8.oq))
      have h_x : M9 ad.x = some (.inr (0, [.ref ad.pi, .ref ad.di, .ref ad.ru, .ref ad.al, .ref ad.et, .ref ad.mt, .ref ad.mr, .ref ad.no, .int (iI S.cir), .int (iI S.nk)])) := (hoK _ (by rw [ox]; decide)).trans h_x
      have c1 := c1.keep (fun q hq => hoK q (by rw [hq]; decide))
      have c2 := c2.keep (fun q hq => hoK q (by rw [hq]; decide))
      have c3 := c3.keep (fun q hq => hoK q (by rw [hq]; decide))
      have c4 := c4.keep (fun q hq => hoK q (by rw [hq]; decide))
      have c5 := c5.keep (fun q hq => hoK q (by rw [hq]; decide))
      have c6 := c6.keep (fun q hq => hoK q (by rw [hq]; decide))
      have c7 := c7.keep (fun q hq => hoK q (by rw [hq]; decide))
      have c8 : zc8 K M9 own ad.no ad.qno d1 (fun j => zsg (res lw) * res (j + lw)) := ⟨c8.oo, c8.oq, hs1, hs2, hDn⟩
      have hfr : ∀ q, 9 ≤ own q → M9 q = M q := fun q g0 => (hoK q (by omega)).trans (hfr q g0)
      refine W.eq (g2 := F0 m 50 ls []) rfl ?_
      refine lv_aload_n hx hb d_AM_normalForm_50 rfl (lv_at hl 1 rfl) ?_
      refine lv_iconst (v := iI 1) hx hb d_AM_normalForm_51 rfl ?_
      refine zq_put (ci := 0) (v := .int (iI 1)) (ty := .boolean) hx hb hts i_AM t_AM t_AM_ok n_AM hown hK hw h_x rfl 9 (by decide) (hts _ tw_191) rfl (by decide +kernel) rfl rfl (Nat.le_of_ble_eq_true rfl) d_AM_normalForm_52 (fun M10 H locs hs ho hw => ?_)
      have h_x : M10 ad.x = some (.inr (0, [.ref ad.pi, .ref ad.di, .ref ad.ru, .ref ad.al, .ref ad.et, .ref ad.mt, .ref ad.mr, .ref ad.no, .int (iI S.cir), .int (iI 1)])) := hs
      have hfr : ∀ q, 9 ≤ own q → M10 q = M q := fun q g0 => (ho q (fun z => by rw [z, ox] at g0; omega)).trans (hfr q g0)
      have c1 := c1.keep (fun q hq => ho q (fun z => by rw [z, ox] at hq; exact absurd hq (by decide)))
      have c2 := c2.keep (fun q hq => ho q (fun z => by rw [z, ox] at hq; exact absurd hq (by decide)))
      have c3 := c3.keep (fun q hq => ho q (fun z => by rw [z, ox] at hq; exact absurd hq (by decide)))
      have c4 := c4.keep (fun q hq => ho q (fun z => by rw [z, ox] at hq; exact absurd hq (by decide)))
      have c5 := c5.keep (fun q hq => ho q (fun z => by rw [z, ox] at hq; exact absurd hq (by decide)))
      have c6 := c6.keep (fun q hq => ho q (fun z => by rw [z, ox] at hq; exact absurd hq (by decide)))
      have c7 := c7.keep (fun q hq => ho q (fun z => by rw [z, ox] at hq; exact absurd hq (by decide)))
      have c8 := c8.keep (fun q hq => ho q (fun z => by rw [z, ox] at hq; exact absurd hq (by decide)))
      refine lv_aload_n hx hb d_AM_normalForm_55 rfl (lv_at hl 1 rfl) ?_
      refine zq_get hx hb hts i_AM hown hK hw h_x rfl 7 (by decide) (hts _ tw_189) rfl d_AM_normalForm_56 ?_
      exact zq_aret hx hb hr (Or.inl ⟨_, rfl⟩) hlocks hZ hw ⟨pa1, qa1, 0, 0, 1, dr, res, d1, _, rfl, ⟨⟨ox, h_x, c1, c2, c3, ⟨_, _, c4⟩, ⟨_, _, c5⟩, c6, c7, c8, hci, ⟨(show inI 0 by decide), (show inI 0 by decide)⟩⟩, c4, c5, hS.hrd, Or.inr rfl, fun _ => hTk, Or.inr rfl, fun _ => ⟨res, dr, lw, (by show zTk _ _ _ _ (if S.n = (S.cN + S.cir) then 0 else -1) 0 res; rw [if_pos (by omega)]; exact hTk), hDr, hlw, hlz, hln, rfl⟩⟩, hfr⟩ d_AM_normalForm_59
abbrev P_AM_minor (K : Nat → ClassId) (M : zq_M) (own : Nat → Nat) (ad : zAd) (S : zSt) (xr : Int) (xc : Int) (e0 : Int) : Option Value → zq_M → Prop := fun v M' => ∃ r, v = some (.long (iL r)) ∧ (((e0 < 0 ∨ 12 < e0) ∧ r = 0 ∧ M' = M) ∨ ((0 ≤ e0 ∧ e0 ≤ 12) ∧ ∃ res ad' S', r = res e0 ∧ zTk S.F S.G S.n (S.cN + S.cir) xr xc res ∧ zCS K M' own ad' S' ∧ zBs S' S.pn S.psg S.plb S.n S.sg S.lb S.cir ∧ ad'.x = ad.x ∧ ∀ q, 9 ≤ own q → M' q = M q))
set_option maxHeartbeats 4000000 in
set_option maxRecDepth 100000 in
theorem c_AM_minor (l : Launch) (D : va_G) (K : Nat → ClassId) (M : zq_M) (own : Nat → Nat) (ad : zAd) (S : zSt) (xr : Int) (xc : Int) (e0 : Int) (hS : zCS K M own ad S) (hHok : zHok S.F S.G S.n (S.cN + S.cir)) (hRb : ∀ lr lc res, zTk S.F S.G S.n (S.cN + S.cir) lr lc res → ∀ j, -9223372036854775807 ≤ res j ∧ res j < 9223372036854775808) (hxr : inI xr) (hxc : inI xc) (he0 : inI e0) : zq_Met l y_AM_minor (.code y_AM_minor b_AM_minor 4 (some .long) :: lw_gd) { frames := 5, cells := 0, slots := 0, locals := 136 } D vwCl (zT K) [.ref ad.x, .int (iI xr), .int (iI xc), .int (iI e0)] M (P_AM_minor K M own ad S xr xc e0) 0 0 := by
  refine zq_start (cc := b_AM_minor) (maxL := 4) (ret := (some .long)) (by decide) rfl (Nat.le_of_ble_eq_true rfl) ?_
  intro p e s m below meth co A ls hx hb hr hml hts hown hnm hlocks hA hZ hw hl
  have hts : ∀ w ∈ lw_gd, w.before [.ref ad.x, .int (iI xr), .int (iI xc), .int (iI e0)].toArray s = true := fun w h => hts w (List.mem_cons_of_mem _ h)
  have hown : s.vm.findClass R_AM = some m.cls := hown
  have hK := hZ.1
  have hl : lv_has ls 4 [(0, .ref ad.x), (1, .int (iI xr)), (2, .int (iI xc)), (3, .int (iI e0))] := hl
  have hfr : ∀ q, 9 ≤ own q → M q = M q := fun q _ => rfl
  have ox := hS.w.ox
  have h_x := hS.w.hx
  have c1 := hS.w.c1
  have c2 := hS.w.c2
  have c3 := hS.w.c3
  have c4 := hS.c4
  have c5 := hS.c5
  have c6 := hS.w.c6
  have c7 := hS.w.c7
  have c8 := hS.w.c8
  have hci := hS.w.hci
  have hlr := hS.w.hlr
  have hrd := hS.hrd
  refine lv_iload_n hx hb d_AM_minor_0 rfl (lv_at hl 3 rfl) ?_
  refine zq_if_lt (tgt := 10) hx hb d_AM_minor_1 (by decide) he0 (fun hc1 => ?_) (fun hc1 => ?_)
  · refine lv_lconst (v := iL 0) hx hb d_AM_minor_10 (by decide) ?_
    exact zq_lret hx hb hr hlocks hZ hw ⟨0, rfl, Or.inl ⟨by omega, rfl, rfl⟩⟩ d_AM_minor_11
  · refine lv_iload_n hx hb d_AM_minor_4 rfl (lv_at hl 3 rfl) ?_
    refine lv_bipush (v := iI 12) hx hb d_AM_minor_5 (by decide) ?_
    refine zq_icmp_le (tgt := 12) hx hb d_AM_minor_7 (by decide) he0 (by decide) (fun hc2 => ?_) (fun hc2 => ?_)
    · refine lv_aload_n hx hb d_AM_minor_12 rfl (lv_at hl 0 rfl) ?_
      refine zq_get hx hb hts i_AM hown hK hw h_x rfl 5 (by decide) (hts _ tw_187) rfl d_AM_minor_13 ?_
      refine lv_aload_n hx hb d_AM_minor_16 rfl (lv_at hl 0 rfl) ?_
      refine zq_get hx hb hts i_AM hown hK hw h_x rfl 4 (by decide) (hts _ tw_186) rfl d_AM_minor_17 ?_
      refine lv_iload_n hx hb d_AM_minor_20 rfl (lv_at hl 1 rfl) ?_
      refine lv_iload_n hx hb d_AM_minor_21 rfl (lv_at hl 2 rfl) ?_
      have t6 := zMT_o c6.hM
      refine zq_callV (As := [.ref ad.et, .int (iI xr), .int (iI xc)]) (rest := []) ⟨hx, hb, hml, hown, hts⟩ (c_MT_take l D K M ad.mt ad.dt ad.la ad.qla ad.cA ad.pr ad.qpr ad.on ad.qon ad.pa ad.qa S.lr S.lc S.kn S.dl S.fl ad.et ad.e1 ad.e2 ad.ea ad.eb S.n (S.cN + S.cir) S.F S.G xr xc c6.hM c5.ho c5.hG1 c5.hG2 c5.hE c5.hFb c5.hGb hlr hS.hk0 hS.hkn hHok hxr hxc) (cwV 3 hts (zg_V tw_397 tw_398 tw_399 tw_6 tw_400) rfl rfl rfl (by decide +kernel) ⟨Nat.le_of_ble_eq_true rfl, Nat.le_of_ble_eq_true rfl⟩) hZ hw hA t6 rfl rfl rfl rfl hl.1 (Nat.le_of_ble_eq_true rfl) d_AM_minor_22 ⟨Nat.le_of_ble_eq_true rfl, Nat.le_of_ble_eq_true rfl⟩ (fun v M3 H locs hp hw => ?_)
      obtain ⟨pa1, qa1, res, dr, rfl, hMT1, hTk, hSb, ho⟩ := hp
      have hoK : ∀ q, own q ≠ 6 → M3 q = M q := fun q hq => ho q (fun z => hq (by rw [z]; exact c6.oo)) (fun z => hq (by rw [z]; exact c6.o4)) (fun z => hq (by rw [z]; exact c6.o5)) (fun z => hq (by rw [z]; exact c6.o6)) (fun i h1 h2 z => hq (by rw [z]; exact (c6.oa i h1 h2).1)) (fun i h1 h2 z => hq (by rw [z]; exact (c6.oa i h1 h2).2)) (fun z => hq (by rw [z]; exact c6.o2)) (fun z => hq (by rw [z]; exact c6.o3))
      have h_x : M3 ad.x = some (.inr (0, [.ref ad.pi, .ref ad.di, .ref ad.ru, .ref ad.al, .ref ad.et, .ref ad.mt, .ref ad.mr, .ref ad.no, .int (iI S.cir), .int (iI S.nk)])) := (hoK _ (by rw [ox]; decide)).trans h_x
      have c1 := c1.keep (fun q hq => hoK q (by rw [hq]; decide))
      have c2 := c2.keep (fun q hq => hoK q (by rw [hq]; decide))
      have c3 := c3.keep (fun q hq => hoK q (by rw [hq]; decide))
      have c4 := c4.keep (fun q hq => hoK q (by rw [hq]; decide))
      have c5 := c5.keep (fun q hq => hoK q (by rw [hq]; decide))
      have c7 := c7.keep (fun q hq => hoK q (by rw [hq]; decide))
      have c8 := c8.keep (fun q hq => hoK q (by rw [hq]; decide))
      have c6 : zc6 K M3 own ad.mt ad.dt ad.la ad.qla ad.cA ad.pr ad.qpr ad.on ad.qon pa1 qa1 xr xc 1 dr res := ⟨c6.oo, c6.o1, c6.o2, c6.o3, c6.o4, c6.o5, c6.o6, c6.o7, c6.o8, zSb_own hSb c6.oa, hMT1⟩
      obtain ⟨t_la, t_qla, hDr⟩ := zMT_la hMT1
      have hfr : ∀ q, 9 ≤ own q → M3 q = M q := fun q g0 => (hoK q (by omega)).trans (hfr q g0)
      refine W.eq (g2 := F0 m 25 ls [.ref ad.la]) rfl ?_
      refine lv_iload_n hx hb d_AM_minor_25 rfl (lv_at hl 3 rfl) ?_
      refine zq_callV (As := [.int (iI e0)]) (rest := []) ⟨hx, hb, hml, hown, hts⟩ (c_PO_coefficient l D K M3 ad.la ad.qla dr res e0 t_la t_qla (zD_oo hDr) he0) (cwV 1 hts (zg_V tw_510 tw_453 tw_454 tw_8 tw_455) rfl rfl rfl (by decide +kernel) ⟨Nat.le_of_ble_eq_true rfl, Nat.le_of_ble_eq_true rfl⟩) hZ hw hA t_la rfl rfl rfl rfl hl.1 (Nat.le_of_ble_eq_true rfl) d_AM_minor_26 ⟨Nat.le_of_ble_eq_true rfl, Nat.le_of_ble_eq_true rfl⟩ (fun v M4 H locs hp hw => ?_)
      obtain ⟨rfl, hMe⟩ := hp
      rw [hMe] at hw
      refine W.eq (g2 := F0 m 29 ls [.long (iL (res e0))]) rfl ?_
      exact zq_lret hx hb hr hlocks hZ hw ⟨_, rfl, Or.inr ⟨⟨by omega, by omega⟩, res, ((ad.x, ad.pi, ad.pis, ad.pil, ad.di, ad.dis, ad.dil, ad.ru, ad.r1, ad.r2, ad.r3, ad.r4, ad.al, ad.a1, ad.a2, ad.a3, ad.et, ad.e1, ad.e2, ad.mt, ad.dt, ad.la, ad.qla, ad.cA, ad.pr, ad.qpr, ad.on, ad.qon, ad.mr, ad.m1, ad.no, ad.qno, ad.ea, ad.eb, ad.rm, pa1, qa1) : zAd), ((S.pn, S.psg, S.plb, S.n, S.sg, S.lb, S.cir, S.cN, S.lN, S.al0, S.at0, S.ls0, S.N, S.F, S.G, xr, xc, 1, dr, res, S.nk, S.dn, S.fn) : zSt), rfl, hTk, ⟨⟨ox, h_x, c1, c2, c3, ⟨_, _, c4⟩, ⟨_, _, c5⟩, c6, c7, c8, hci, ⟨hxr, hxc⟩⟩, c4, c5, hS.hrd, Or.inr rfl, fun _ => hTk, hS.hn0, hS.hnf⟩, ⟨rfl, rfl, rfl, rfl, rfl, rfl, rfl⟩, rfl, hfr⟩⟩ d_AM_minor_29
    · refine lv_lconst (v := iL 0) hx hb d_AM_minor_10 (by decide) ?_
      exact zq_lret hx hb hr hlocks hZ hw ⟨0, rfl, Or.inl ⟨by omega, rfl, rfl⟩⟩ d_AM_minor_11
abbrev P_AM_alexander (K : Nat → ClassId) (M : zq_M) (own : Nat → Nat) (ad : zAd) (S : zSt) (e0 : Int) : Option Value → zq_M → Prop := fun v M' => ∃ r, v = some (.long (iL r)) ∧ ∃ fn1 ad' S', r = fn1 e0 ∧ zNF S.F S.G S.n (S.cN + S.cir) fn1 ∧ zCS K M' own ad' S' ∧ zBs S' S.pn S.psg S.plb S.n S.sg S.lb S.cir ∧ ad'.x = ad.x ∧ ∀ q, 9 ≤ own q → M' q = M q
set_option maxHeartbeats 4000000 in
set_option maxRecDepth 100000 in
theorem c_AM_alexander (l : Launch) (D : va_G) (K : Nat → ClassId) (M : zq_M) (own : Nat → Nat) (ad : zAd) (S : zSt) (e0 : Int) (hS : zCS K M own ad S) (hHok : zHok S.F S.G S.n (S.cN + S.cir)) (hRb : ∀ lr lc res, zTk S.F S.G S.n (S.cN + S.cir) lr lc res → ∀ j, -9223372036854775807 ≤ res j ∧ res j < 9223372036854775808) (he0 : inI e0) : zq_Met l y_AM_alexander (.code y_AM_alexander b_AM_alexander 2 (some .long) :: lw_gd) { frames := 6, cells := 0, slots := 0, locals := 157 } D vwCl (zT K) [.ref ad.x, .int (iI e0)] M (P_AM_alexander K M own ad S e0) 0 0 := by
  refine zq_start (cc := b_AM_alexander) (maxL := 2) (ret := (some .long)) (by decide) rfl (Nat.le_of_ble_eq_true rfl) ?_
  intro p e s m below meth co A ls hx hb hr hml hts hown hnm hlocks hA hZ hw hl
  have hts : ∀ w ∈ lw_gd, w.before [.ref ad.x, .int (iI e0)].toArray s = true := fun w h => hts w (List.mem_cons_of_mem _ h)
  have hown : s.vm.findClass R_AM = some m.cls := hown
  have hK := hZ.1
  have hl : lv_has ls 2 [(0, .ref ad.x), (1, .int (iI e0))] := hl
  have hfr : ∀ q, 9 ≤ own q → M q = M q := fun q _ => rfl
  have ox := hS.w.ox
  have h_x := hS.w.hx
  have c1 := hS.w.c1
  have c2 := hS.w.c2
  have c3 := hS.w.c3
  have c4 := hS.c4
  have c5 := hS.c5
  have c6 := hS.w.c6
  have c7 := hS.w.c7
  have c8 := hS.w.c8
  have hci := hS.w.hci
  have hlr := hS.w.hlr
  have hrd := hS.hrd
  refine lv_aload_n hx hb d_AM_alexander_0 rfl (lv_at hl 0 rfl) ?_
  refine zq_callV (As := []) (rest := []) ⟨hx, hb, hml, hown, hts⟩ (c_AM_normalForm l D K M own ad S hS hHok hRb) (cwV 0 hts (zg_V tw_385 tw_387 ts_14 tw_1 tw_388) rfl rfl rfl (by decide +kernel) ⟨Nat.le_of_ble_eq_true rfl, Nat.le_of_ble_eq_true rfl⟩) hZ hw hA h_x rfl rfl rfl rfl hl.1 (Nat.le_of_ble_eq_true rfl) d_AM_alexander_1 ⟨Nat.le_of_ble_eq_true rfl, Nat.le_of_ble_eq_true rfl⟩ (fun v M1 H locs hp hw => ?_)
  obtain ⟨pa1, qa1, lr1, lc1, kn1, dl1, fl1, dn1, fn1, rfl, hSn, ho⟩ := hp
  have ox := hSn.w.ox
  have h_x := hSn.w.hx
  have c8 := hSn.w.c8
  have hNF := hSn.hnf rfl
  have hfr : ∀ q, 9 ≤ own q → M1 q = M q := fun q g0 => (ho q g0).trans (hfr q g0)
  refine W.eq (g2 := F0 m 4 ls [.ref ad.no]) rfl ?_
  refine lv_iload_n hx hb d_AM_alexander_4 rfl (lv_at hl 1 rfl) ?_
  refine zq_callV (As := [.int (iI e0)]) (rest := []) ⟨hx, hb, hml, hown, hts⟩ (c_PO_coefficient l D K M1 ad.no ad.qno dn1 fn1 e0 c8.ho c8.hq (zD_oo c8.hD) he0) (cwV 1 hts (zg_V tw_510 tw_453 tw_454 tw_8 tw_455) rfl rfl rfl (by decide +kernel) ⟨Nat.le_of_ble_eq_true rfl, Nat.le_of_ble_eq_true rfl⟩) hZ hw hA c8.ho rfl rfl rfl rfl hl.1 (Nat.le_of_ble_eq_true rfl) d_AM_alexander_5 ⟨Nat.le_of_ble_eq_true rfl, Nat.le_of_ble_eq_true rfl⟩ (fun v M2 H locs hp hw => ?_)
  obtain ⟨rfl, hMe⟩ := hp
  rw [hMe] at hw
  refine W.eq (g2 := F0 m 8 ls [.long (iL (fn1 e0))]) rfl ?_
  exact zq_lret hx hb hr hlocks hZ hw ⟨_, rfl, fn1, _, _, rfl, hNF, hSn, ⟨rfl, rfl, rfl, rfl, rfl, rfl, rfl⟩, rfl, hfr⟩ d_AM_alexander_8
