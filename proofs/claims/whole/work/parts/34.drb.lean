abbrev P_DR_firstBroken (K : Nat → ClassId) (M : zq_M) (o : Nat) (aA : Nat) (bA : Nat) (cA : Nat) (dA : Nat) (pf : Int → Int) (pcs : Int → Int) (sp : Int → Int) (sn : Int → Int) (o2 : Nat) (s2 : Nat) (l2 : Nat) (cnt : Int) (sg : Int → Int) (lb : Int → Int) : Option Value → zq_M → Prop := fun v M' => ∃ r, v = some (.int (iI r)) ∧ zFB cnt sg lb r ∧ (∃ pf' pc' sp' sn', M' o = some (.inr (4, [.ref aA, .ref bA, .ref cA, .ref dA])) ∧ M' aA = some (cI (K 0) 48 pf') ∧ M' bA = some (cI (K 0) 12 pc') ∧ M' cA = some (cI (K 0) 12 sp') ∧ M' dA = some (cI (K 2) 48 sn') ∧ (∀ z, inI (pf' z)) ∧ ∀ z, sn' z = 0 ∨ sn' z = 1) ∧ ∀ q, q ≠ aA → q ≠ bA → q ≠ cA → q ≠ dA → M' q = M q
set_option maxHeartbeats 4000000 in
set_option maxRecDepth 100000 in
theorem c_DR_firstBroken (l : Launch) (D : va_G) (K : Nat → ClassId) (M : zq_M) (o : Nat) (aA : Nat) (bA : Nat) (cA : Nat) (dA : Nat) (pf : Int → Int) (pcs : Int → Int) (sp : Int → Int) (sn : Int → Int) (o2 : Nat) (s2 : Nat) (l2 : Nat) (cnt : Int) (sg : Int → Int) (lb : Int → Int) (h_o : M o = some (.inr (4, [.ref aA, .ref bA, .ref cA, .ref dA]))) (h_a : M aA = some (cI (K 0) 48 pf)) (h_b : M bA = some (cI (K 0) 12 pcs)) (h_c : M cA = some (cI (K 0) 12 sp)) (h_d : M dA = some (cI (K 2) 48 sn)) (hbc : bA ≠ cA) (had : aA ≠ dA) (h_o2 : M o2 = some (.inr (2, [.ref s2, .ref l2, .int (iI cnt)]))) (h_s2 : M s2 = some (cI (K 0) 12 sg)) (h_l2 : M l2 = some (cI (K 0) 48 lb)) (hC : zC cnt sg lb) (hal : aA ≠ l2) (hbs : bA ≠ s2) (hcs : cA ≠ s2) (hdl : dA ≠ l2) (hpi : ∀ z, inI (pf z)) (hsn : ∀ z, sn z = 0 ∨ sn z = 1) : zq_Met l y_DR_firstBroken (.code y_DR_firstBroken b_DR_firstBroken 3 (some .int) :: lw_gd) { frames := 5, cells := 0, slots := 0, locals := 108 } D vwCl (zT K) [.ref o, .ref o2] M (P_DR_firstBroken K M o aA bA cA dA pf pcs sp sn o2 s2 l2 cnt sg lb) 0 0 := by
  refine zq_start (cc := b_DR_firstBroken) (maxL := 3) (ret := (some .int)) (by decide) rfl (Nat.le_of_ble_eq_true rfl) ?_
  intro p e s m below meth co A ls hx hb hr hml hts hown hnm hlocks hA hZ hw hl
  have hts : ∀ w ∈ lw_gd, w.before [.ref o, .ref o2].toArray s = true := fun w h => hts w (List.mem_cons_of_mem _ h)
  have hown : s.vm.findClass R_DR = some m.cls := hown
  have hK := hZ.1
  have hl : lv_has ls 3 [(0, .ref o), (1, .ref o2)] := hl
  have hfr : ∀ q, q ≠ aA → q ≠ bA → q ≠ cA → q ≠ dA → M q = M q := fun q _ _ _ _ => rfl
  obtain ⟨hc1, hc2, hc3, hc4⟩ := id hC
  have hsnX := hsn
  refine lv_aload_n hx hb d_DR_firstBroken_0 rfl (lv_at hl 1 rfl) ?_
  refine zq_callV (As := []) (rest := []) ⟨hx, hb, hml, hown, hts⟩ (c_CR_places l D K M o2 s2 l2 cnt sg lb  h_o2 h_s2 h_l2 hC ) (cwV 0 hts (zg_V tw_236 tw_237 tw_238 tw_2 tw_239) rfl rfl rfl (by decide +kernel) ⟨Nat.le_of_ble_eq_true rfl, Nat.le_of_ble_eq_true rfl⟩) hZ hw hA h_o2 rfl rfl rfl rfl hl.1 (Nat.le_of_ble_eq_true rfl) d_DR_firstBroken_1 ⟨Nat.le_of_ble_eq_true rfl, Nat.le_of_ble_eq_true rfl⟩ (fun v M1 H locs hp hw => ?_)
  obtain ⟨rfl, hMe⟩ := hp
  rw [hMe] at hw
  refine W.eq (g2 := F0 m 4 ls [.int (iI (4 * cnt))]) rfl ?_
  refine lv_bipush (v := iI 48) hx hb d_DR_firstBroken_4 (by decide) ?_
  refine zq_min hx hb (hml.trans hl.1.symm) hown (hts _ tw_240) (hts _ tw_241) (hts _ tw_11) (hts _ tw_242) (Nat.le_of_ble_eq_true rfl) (Nat.le_of_ble_eq_true rfl) (Nat.zero_le _) (Nat.zero_le _) ⟨by omega, by omega⟩ (by decide) d_DR_firstBroken_6 ?_
  rw [show (min (4 * cnt) 48 : Int) = 4 * cnt from (by omega)]
  refine lv_istore_n (lv' := [(2, .int (iI (4 * cnt))), (0, .ref o), (1, .ref o2)]) hx hb d_DR_firstBroken_9 rfl hl (by decide) rfl (fun ls hl => ?_)
  refine lv_aload_n hx hb d_DR_firstBroken_10 rfl (lv_at hl 1 rfl) ?_
  refine lv_aload_n hx hb d_DR_firstBroken_11 rfl (lv_at hl 2 rfl) ?_
  refine lv_iload_n hx hb d_DR_firstBroken_12 rfl (lv_at hl 0 rfl) ?_
  refine zq_callV (As := [.ref o2, .int (iI (4 * cnt))]) (rest := []) ⟨hx, hb, hml, hown, hts⟩ (c_DR_findPartners l D K M o aA bA cA dA pf pcs sp sn o2 s2 l2 cnt sg lb h_o h_a h_b h_c h_d hbc had h_o2 h_s2 h_l2 hC hal hbs hcs hdl hpi) (cwV 2 hts (zg_V tw_243 tw_245 ts_2 tw_3 tw_246) rfl rfl rfl (by decide +kernel) ⟨Nat.le_of_ble_eq_true rfl, Nat.le_of_ble_eq_true rfl⟩) hZ hw hA h_o rfl rfl rfl rfl hl.1 (Nat.le_of_ble_eq_true rfl) d_DR_firstBroken_13 ⟨Nat.le_of_ble_eq_true rfl, Nat.le_of_ble_eq_true rfl⟩ (fun v M4 H locs hp hw => ?_)
  obtain ⟨rr2, pf3, rfl, hRrr2, hInpf3, hs1, ho⟩ := hp
  have h_o : M4 o = some (.inr (4, [.ref aA, .ref bA, .ref cA, .ref dA])) := (ho _ (zq_ne h_o h_a (by simp))).trans h_o
  have h_b : M4 bA = some (cI (K 0) 12 pcs) := (ho _ (zq_ne h_b h_a (by simp))).trans h_b
  have h_c : M4 cA = some (cI (K 0) 12 sp) := (ho _ (zq_ne h_c h_a (by simp))).trans h_c
  have h_d : M4 dA = some (cI (K 2) 48 sn) := (ho _ (Ne.symm had)).trans h_d
  have h_o2 : M4 o2 = some (.inr (2, [.ref s2, .ref l2, .int (iI cnt)])) := (ho _ (zq_ne h_o2 h_a (by simp))).trans h_o2
  have h_s2 : M4 s2 = some (cI (K 0) 12 sg) := (ho _ (zq_ne h_s2 h_a (by simp))).trans h_s2
  have h_l2 : M4 l2 = some (cI (K 0) 48 lb) := (ho _ (Ne.symm hal)).trans h_l2
  have h_a : M4 aA = some (cI (K 0) 48 pf3) := hs1
  have hfr : ∀ q, q ≠ aA → q ≠ bA → q ≠ cA → q ≠ dA → M4 q = M q := fun q g0 g1 g2 g3 => (ho q g0).trans (hfr q g0 g1 g2 g3)
  refine W.eq (g2 := F0 m 16 ls [.int (iI rr2)]) rfl ?_
  have hr01 : rr2 = 0 ∨ rr2 = 1 := by rcases hRrr2 with h | h; exact Or.inr h.1; exact Or.inl h.1
  refine zq_if_ne (tgt := 21) hx hb d_DR_firstBroken_16 (by decide) ⟨by omega, by omega⟩ (fun hc5 => ?_) (fun hc5 => ?_)
  · have hQ1 := (hRrr2.resolve_right (fun h => absurd h.1 (by omega))).2
    have hPrr := hQ1
    have hpfN : ∀ z, 0 ≤ z → z < 4 * cnt → 0 ≤ pf3 z ∧ pf3 z < 4 * cnt := fun z h1 h2 => ⟨(hPrr z h1 h2).1, (hPrr z h1 h2).2.1⟩
    refine lv_aload_n hx hb d_DR_firstBroken_21 rfl (lv_at hl 1 rfl) ?_
    refine lv_aload_n hx hb d_DR_firstBroken_22 rfl (lv_at hl 2 rfl) ?_
    refine lv_iload_n hx hb d_DR_firstBroken_23 rfl (lv_at hl 0 rfl) ?_
    refine zq_callV (As := [.ref o2, .int (iI (4 * cnt))]) (rest := []) ⟨hx, hb, hml, hown, hts⟩ (c_DR_partnersAreEdges l D K M4 o aA bA cA dA pf3 pcs sp sn o2 s2 l2 cnt sg lb h_o h_a h_b h_c h_d hbc had h_o2 h_s2 h_l2 hC hal hbs hcs hdl hpfN) (cwV 2 hts (zg_V tw_252 tw_254 ts_3 tw_3 tw_255) rfl rfl rfl (by decide +kernel) ⟨Nat.le_of_ble_eq_true rfl, Nat.le_of_ble_eq_true rfl⟩) hZ hw hA h_o rfl rfl rfl rfl hl.1 (Nat.le_of_ble_eq_true rfl) d_DR_firstBroken_24 ⟨Nat.le_of_ble_eq_true rfl, Nat.le_of_ble_eq_true rfl⟩ (fun v M7 H locs hp hw => ?_)
    obtain ⟨rr6, rfl, hRrr6, hMe⟩ := hp
    rw [hMe] at hw
    refine W.eq (g2 := F0 m 27 ls [.int (iI rr6)]) rfl ?_
    have hr02 : rr6 = 0 ∨ rr6 = 1 := by rcases hRrr6 with h | h; exact Or.inr h.1; exact Or.inl h.1
    refine zq_if_ne (tgt := 32) hx hb d_DR_firstBroken_27 (by decide) ⟨by omega, by omega⟩ (fun hc8 => ?_) (fun hc8 => ?_)
    · have hQ2 := (hRrr6.resolve_right (fun h => absurd h.1 (by omega))).2
      refine lv_aload_n hx hb d_DR_firstBroken_32 rfl (lv_at hl 1 rfl) ?_
      refine lv_iload_n hx hb d_DR_firstBroken_33 rfl (lv_at hl 0 rfl) ?_
      refine zq_callV (As := [.int (iI (4 * cnt))]) (rest := []) ⟨hx, hb, hml, hown, hts⟩ (c_DR_findPieces l D K M4 o aA bA cA dA pf3 pcs sp sn cnt h_o h_a h_b h_c h_d hbc had ⟨hc1, hc2⟩ hpfN) (cwV 1 hts (zg_V tw_276 tw_278 ts_4 tw_3 tw_279) rfl rfl rfl (by decide +kernel) ⟨Nat.le_of_ble_eq_true rfl, Nat.le_of_ble_eq_true rfl⟩) hZ hw hA h_o rfl rfl rfl rfl hl.1 (Nat.le_of_ble_eq_true rfl) d_DR_firstBroken_34 ⟨Nat.le_of_ble_eq_true rfl, Nat.le_of_ble_eq_true rfl⟩ (fun v M9 H locs hp hw => ?_)
      obtain ⟨rfl, hs1, ho⟩ := hp
      have h_o : M9 o = some (.inr (4, [.ref aA, .ref bA, .ref cA, .ref dA])) := (ho _ (zq_ne h_o h_b (by simp))).trans h_o
      have h_a : M9 aA = some (cI (K 0) 48 pf3) := (ho _ (zq_ne h_a h_b (by simp))).trans h_a
      have h_c : M9 cA = some (cI (K 0) 12 sp) := (ho _ (Ne.symm hbc)).trans h_c
      have h_d : M9 dA = some (cI (K 2) 48 sn) := (ho _ (zq_ne h_d h_b (by simp))).trans h_d
      have h_o2 : M9 o2 = some (.inr (2, [.ref s2, .ref l2, .int (iI cnt)])) := (ho _ (zq_ne h_o2 h_b (by simp))).trans h_o2
      have h_s2 : M9 s2 = some (cI (K 0) 12 sg) := (ho _ (Ne.symm hbs)).trans h_s2
      have h_l2 : M9 l2 = some (cI (K 0) 48 lb) := (ho _ (zq_ne h_l2 h_b (by simp))).trans h_l2
      have h_b : M9 bA = some (cI (K 0) 12 (zlb pf3 (4 * cnt).toNat)) := hs1
      have hfr : ∀ q, q ≠ aA → q ≠ bA → q ≠ cA → q ≠ dA → M9 q = M q := fun q g0 g1 g2 g3 => (ho q g1).trans (hfr q g0 g1 g2 g3)
      refine W.eq (g2 := F0 m 37 ls []) rfl ?_
      refine lv_aload_n hx hb d_DR_firstBroken_37 rfl (lv_at hl 1 rfl) ?_
      refine lv_iload_n hx hb d_DR_firstBroken_38 rfl (lv_at hl 0 rfl) ?_
      refine zq_callV (As := [.int (iI (4 * cnt))]) (rest := []) ⟨hx, hb, hml, hown, hts⟩ (c_DR_piecesAreSpheres l D K M9 o aA bA cA dA pf3 (zlb pf3 (4 * cnt).toNat) sp sn cnt h_o h_a h_b h_c h_d hbc had ⟨hc1, hc2⟩ hpfN hsn (zlb_in _ (by omega))) (cwV 1 hts (zg_V tw_284 tw_286 ts_6 tw_3 tw_287) rfl rfl rfl (by decide +kernel) ⟨Nat.le_of_ble_eq_true rfl, Nat.le_of_ble_eq_true rfl⟩) hZ hw hA h_o rfl rfl rfl rfl hl.1 (Nat.le_of_ble_eq_true rfl) d_DR_firstBroken_39 ⟨Nat.le_of_ble_eq_true rfl, Nat.le_of_ble_eq_true rfl⟩ (fun v M11 H locs hp hw => ?_)
      obtain ⟨rr10, snN, spN, rfl, hSrr10, hNn, hPn, hs1, hs2, ho⟩ := hp
      have h_o : M11 o = some (.inr (4, [.ref aA, .ref bA, .ref cA, .ref dA])) := (ho _ (zq_ne h_o h_d (by simp)) (zq_ne h_o h_c (by simp))).trans h_o
      have h_a : M11 aA = some (cI (K 0) 48 pf3) := (ho _ had (zq_ne h_a h_c (by simp))).trans h_a
      have h_b : M11 bA = some (cI (K 0) 12 (zlb pf3 (4 * cnt).toNat)) := (ho _ (zq_ne h_b h_d (by simp)) hbc).trans h_b
      have h_o2 : M11 o2 = some (.inr (2, [.ref s2, .ref l2, .int (iI cnt)])) := (ho _ (zq_ne h_o2 h_d (by simp)) (zq_ne h_o2 h_c (by simp))).trans h_o2
      have h_s2 : M11 s2 = some (cI (K 0) 12 sg) := (ho _ (zq_ne h_s2 h_d (by simp)) (Ne.symm hcs)).trans h_s2
      have h_l2 : M11 l2 = some (cI (K 0) 48 lb) := (ho _ (Ne.symm hdl) (zq_ne h_l2 h_c (by simp))).trans h_l2
      have h_d : M11 dA = some (cI (K 2) 48 snN) := hs1
      have h_c : M11 cA = some (cI (K 0) 12 spN) := hs2
      have hfr : ∀ q, q ≠ aA → q ≠ bA → q ≠ cA → q ≠ dA → M11 q = M q := fun q g0 g1 g2 g3 => (ho q g3 g2).trans (hfr q g0 g1 g2 g3)
      refine W.eq (g2 := F0 m 42 ls [.int (iI rr10)]) rfl ?_
      have hr03 : rr10 = 0 ∨ rr10 = 1 := by rcases hSrr10 with h | h; exact Or.inr h.1; exact Or.inl h.1
      have hsnX := hNn
      refine zq_if_eq (tgt := 49) hx hb d_DR_firstBroken_42 (by decide) ⟨by omega, by omega⟩ (fun hc12 => ?_) (fun hc12 => ?_)
      · have hB3 := (hSrr10.resolve_left (fun h => absurd h.1 (by omega))).2
        refine lv_iconst (v := iI 3) hx hb d_DR_firstBroken_49 rfl ?_
        exact zq_iret hx hb hr hlocks hZ hw ⟨_, rfl, Or.inr ⟨pf3, (fun z => if 0 ≤ z ∧ z < 4 * cnt then 0 else sn z), hPrr, fun z h1 h2 => if_pos ⟨h1, h2⟩, fun z => by show (if 0 ≤ z ∧ z < 4 * cnt then (0 : Int) else sn z) = 0 ∨ (if 0 ≤ z ∧ z < 4 * cnt then (0 : Int) else sn z) = 1; split; exact Or.inl rfl; exact hsn z, Or.inr ⟨hQ2, Or.inr ⟨rfl, hB3⟩⟩⟩, ⟨_, _, _, _, h_o, h_a, h_b, h_c, h_d, hInpf3, hsnX⟩, hfr⟩ d_DR_firstBroken_50
      · have hQ3 := (hSrr10.resolve_right (fun h => absurd h.1 (by omega))).2
        refine lv_iconst (v := iI 0) hx hb d_DR_firstBroken_45 rfl ?_
        refine lv_goto (tgt := 50) hx hb d_DR_firstBroken_46 (by decide) ?_
        exact zq_iret hx hb hr hlocks hZ hw ⟨_, rfl, Or.inr ⟨pf3, (fun z => if 0 ≤ z ∧ z < 4 * cnt then 0 else sn z), hPrr, fun z h1 h2 => if_pos ⟨h1, h2⟩, fun z => by show (if 0 ≤ z ∧ z < 4 * cnt then (0 : Int) else sn z) = 0 ∨ (if 0 ≤ z ∧ z < 4 * cnt then (0 : Int) else sn z) = 1; split; exact Or.inl rfl; exact hsn z, Or.inr ⟨hQ2, Or.inl ⟨rfl, hQ3⟩⟩⟩, ⟨_, _, _, _, h_o, h_a, h_b, h_c, h_d, hInpf3, hsnX⟩, hfr⟩ d_DR_firstBroken_50
    · have hB2 := (hRrr6.resolve_left (fun h => absurd h.1 (by omega))).2
      refine lv_iconst (v := iI 2) hx hb d_DR_firstBroken_30 rfl ?_
      exact zq_iret hx hb hr hlocks hZ hw ⟨_, rfl, Or.inr ⟨pf3, (fun z => if 0 ≤ z ∧ z < 4 * cnt then 0 else sn z), hPrr, fun z h1 h2 => if_pos ⟨h1, h2⟩, fun z => by show (if 0 ≤ z ∧ z < 4 * cnt then (0 : Int) else sn z) = 0 ∨ (if 0 ≤ z ∧ z < 4 * cnt then (0 : Int) else sn z) = 1; split; exact Or.inl rfl; exact hsn z, Or.inl ⟨rfl, hB2⟩⟩, ⟨_, _, _, _, h_o, h_a, h_b, h_c, h_d, hInpf3, hsnX⟩, hfr⟩ d_DR_firstBroken_31
  · have hB1 := (hRrr2.resolve_left (fun h => absurd h.1 (by omega))).2
    refine lv_iconst (v := iI 1) hx hb d_DR_firstBroken_19 rfl ?_
    exact zq_iret hx hb hr hlocks hZ hw ⟨_, rfl, Or.inl ⟨rfl, hB1⟩, ⟨_, _, _, _, h_o, h_a, h_b, h_c, h_d, hInpf3, hsnX⟩, hfr⟩ d_DR_firstBroken_20
