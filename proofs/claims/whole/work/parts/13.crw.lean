abbrev P_CR_copyFrom (K : Nat → ClassId) (M : zq_M) (o : Nat) (sA : Nat) (lA : Nat) (cnt : Int) (sg : Int → Int) (lb : Int → Int) (o2 : Nat) (s2 : Nat) (l2 : Nat) (cnt2 : Int) (sg2 : Int → Int) (lb2 : Int → Int) : Option Value → zq_M → Prop := fun v M' => v = none ∧ M' o = some (.inr (2, [.ref sA, .ref lA, .int (iI cnt2)])) ∧ M' sA = some (cI (K 0) 12 sg2) ∧ M' lA = some (cI (K 0) 48 lb2) ∧ ∀ q, q ≠ o → q ≠ sA → q ≠ lA → M' q = M q
set_option maxHeartbeats 4000000 in
set_option maxRecDepth 100000 in
theorem c_CR_copyFrom (l : Launch) (D : va_G) (K : Nat → ClassId) (M : zq_M) (o : Nat) (sA : Nat) (lA : Nat) (cnt : Int) (sg : Int → Int) (lb : Int → Int) (o2 : Nat) (s2 : Nat) (l2 : Nat) (cnt2 : Int) (sg2 : Int → Int) (lb2 : Int → Int) (h_o : M o = some (.inr (2, [.ref sA, .ref lA, .int (iI cnt)]))) (h_s : M sA = some (cI (K 0) 12 sg)) (h_l : M lA = some (cI (K 0) 48 lb)) (h_o2 : M o2 = some (.inr (2, [.ref s2, .ref l2, .int (iI cnt2)]))) (h_s2 : M s2 = some (cI (K 0) 12 sg2)) (h_l2 : M l2 = some (cI (K 0) 48 lb2)) (hoo : o ≠ o2) (hss : sA ≠ s2) (hll : lA ≠ l2) : zq_Met l y_CR_copyFrom (.code y_CR_copyFrom b_CR_copyFrom 2 none :: lw_gd) { frames := 1, cells := 0, slots := 0, locals := 60 } D vwCl (zT K) [.ref o, .ref o2] M (P_CR_copyFrom K M o sA lA cnt sg lb o2 s2 l2 cnt2 sg2 lb2) 0 0 := by
  refine zq_start (cc := b_CR_copyFrom) (maxL := 2) (ret := none) (by decide) rfl (Nat.le_of_ble_eq_true rfl) ?_
  intro p e s m below meth c A ls hx hb hr hml hts hown hnm hlocks hA hZ hw hl
  have hts : ∀ w ∈ lw_gd, w.before [.ref o, .ref o2].toArray s = true := fun w h => hts w (List.mem_cons_of_mem _ h)
  have hown : s.vm.findClass R_CR = some m.cls := hown
  have hK := hZ.1
  have hl : lv_has ls 2 [(0, .ref o), (1, .ref o2)] := hl
  have hfr : ∀ q, q ≠ o → q ≠ sA → q ≠ lA → M q = M q := fun q _ _ _ => rfl
  refine lv_aload_n hx hb d_CR_copyFrom_0 rfl (lv_at hl 1 rfl) ?_
  refine zq_get hx hb hts i_CR hown hK hw h_o2 rfl 0 (by decide) (hts _ tw_28) rfl d_CR_copyFrom_1 ?_
  refine lv_iconst (v := iI 0) hx hb d_CR_copyFrom_4 rfl ?_
  refine lv_aload_n hx hb d_CR_copyFrom_5 rfl (lv_at hl 0 rfl) ?_
  refine zq_get hx hb hts i_CR hown hK hw h_o rfl 0 (by decide) (hts _ tw_28) rfl d_CR_copyFrom_6 ?_
  refine lv_iconst (v := iI 0) hx hb d_CR_copyFrom_9 rfl ?_
  refine lv_bipush (v := iI 12) hx hb d_CR_copyFrom_10 (by decide) ?_
  refine zq_copyI hx hb (hml.trans hl.1.symm) hown (hts _ tw_307) (hts _ tw_309) (hts _ tw_308) (hts _ tw_13) hK hw 0 h_s2 h_s rfl (by decide) rfl rfl rfl (Nat.le_of_ble_eq_true rfl) (by decide) d_CR_copyFrom_12 (fun M1 H locs hs ho hw => ?_)
  have h_o : M1 o = some (.inr (2, [.ref sA, .ref lA, .int (iI cnt)])) := (ho _ (zq_ne h_o h_s (by simp))).trans h_o
  have h_l : M1 lA = some (cI (K 0) 48 lb) := (ho _ (zq_ne h_l h_s (by simp))).trans h_l
  have h_o2 : M1 o2 = some (.inr (2, [.ref s2, .ref l2, .int (iI cnt2)])) := (ho _ (zq_ne h_o2 h_s (by simp))).trans h_o2
  have h_s2 : M1 s2 = some (cI (K 0) 12 sg2) := (ho _ (Ne.symm hss)).trans h_s2
  have h_l2 : M1 l2 = some (cI (K 0) 48 lb2) := (ho _ (zq_ne h_l2 h_s (by simp))).trans h_l2
  have h_s : M1 sA = some (cI (K 0) 12 sg2) := hs
  have hfr : ∀ q, q ≠ o → q ≠ sA → q ≠ lA → M1 q = M q := fun q g0 g1 g2 => (ho q g1).trans (hfr q g0 g1 g2)
  refine lv_aload_n hx hb d_CR_copyFrom_15 rfl (lv_at hl 1 rfl) ?_
  refine zq_get hx hb hts i_CR hown hK hw h_o2 rfl 1 (by decide) (hts _ tw_29) rfl d_CR_copyFrom_16 ?_
  refine lv_iconst (v := iI 0) hx hb d_CR_copyFrom_19 rfl ?_
  refine lv_aload_n hx hb d_CR_copyFrom_20 rfl (lv_at hl 0 rfl) ?_
  refine zq_get hx hb hts i_CR hown hK hw h_o rfl 1 (by decide) (hts _ tw_29) rfl d_CR_copyFrom_21 ?_
  refine lv_iconst (v := iI 0) hx hb d_CR_copyFrom_24 rfl ?_
  refine lv_bipush (v := iI 48) hx hb d_CR_copyFrom_25 (by decide) ?_
  refine zq_copyI hx hb (hml.trans hl.1.symm) hown (hts _ tw_307) (hts _ tw_309) (hts _ tw_308) (hts _ tw_13) hK hw 0 h_l2 h_l rfl (by decide) rfl rfl rfl (Nat.le_of_ble_eq_true rfl) (by decide) d_CR_copyFrom_27 (fun M2 H locs hs ho hw => ?_)
  have h_o : M2 o = some (.inr (2, [.ref sA, .ref lA, .int (iI cnt)])) := (ho _ (zq_ne h_o h_l (by simp))).trans h_o
  have h_s : M2 sA = some (cI (K 0) 12 sg2) := (ho _ (zq_ne h_s h_l (by simp))).trans h_s
  have h_o2 : M2 o2 = some (.inr (2, [.ref s2, .ref l2, .int (iI cnt2)])) := (ho _ (zq_ne h_o2 h_l (by simp))).trans h_o2
  have h_s2 : M2 s2 = some (cI (K 0) 12 sg2) := (ho _ (zq_ne h_s2 h_l (by simp))).trans h_s2
  have h_l2 : M2 l2 = some (cI (K 0) 48 lb2) := (ho _ (Ne.symm hll)).trans h_l2
  have h_l : M2 lA = some (cI (K 0) 48 lb2) := hs
  have hfr : ∀ q, q ≠ o → q ≠ sA → q ≠ lA → M2 q = M q := fun q g0 g1 g2 => (ho q g2).trans (hfr q g0 g1 g2)
  refine lv_aload_n hx hb d_CR_copyFrom_30 rfl (lv_at hl 0 rfl) ?_
  refine lv_aload_n hx hb d_CR_copyFrom_31 rfl (lv_at hl 1 rfl) ?_
  refine zq_get hx hb hts i_CR hown hK hw h_o2 rfl 2 (by decide) (hts _ tw_30) rfl d_CR_copyFrom_32 ?_
  refine zq_put (ci := 2) (v := .int (iI cnt2)) (ty := .int) hx hb hts i_CR t_CR t_CR_ok n_CR hown hK hw h_o rfl 2 (by decide) (hts _ tw_30) rfl (by decide +kernel) rfl rfl (Nat.le_of_ble_eq_true rfl) d_CR_copyFrom_35 (fun M3 H locs hs ho hw => ?_)
  have h_s : M3 sA = some (cI (K 0) 12 sg2) := (ho _ (zq_ne h_s h_o (by simp))).trans h_s
  have h_l : M3 lA = some (cI (K 0) 48 lb2) := (ho _ (zq_ne h_l h_o (by simp))).trans h_l
  have h_o2 : M3 o2 = some (.inr (2, [.ref s2, .ref l2, .int (iI cnt2)])) := (ho _ (Ne.symm hoo)).trans h_o2
  have h_s2 : M3 s2 = some (cI (K 0) 12 sg2) := (ho _ (zq_ne h_s2 h_o (by simp))).trans h_s2
  have h_l2 : M3 l2 = some (cI (K 0) 48 lb2) := (ho _ (zq_ne h_l2 h_o (by simp))).trans h_l2
  have h_o : M3 o = some (.inr (2, [.ref sA, .ref lA, .int (iI cnt2)])) := hs
  have hfr : ∀ q, q ≠ o → q ≠ sA → q ≠ lA → M3 q = M q := fun q g0 g1 g2 => (ho q g0).trans (hfr q g0 g1 g2)
  exact zq_vret hx hb hr hlocks hZ hw ⟨rfl, h_o, h_s, h_l, hfr⟩ d_CR_copyFrom_38
abbrev P_CR_swapStrands (K : Nat → ClassId) (M : zq_M) (o : Nat) (sA : Nat) (lA : Nat) (cnt : Int) (sg : Int → Int) (lb : Int → Int) (k : Int) : Option Value → zq_M → Prop := fun v M' => v = none ∧ M' sA = some (cI (K 0) 12 (zu sg k (-sg k))) ∧ M' lA = some (cI (K 0) 48 (zsw sg lb k)) ∧ ∀ q, q ≠ sA → q ≠ lA → M' q = M q
set_option maxHeartbeats 4000000 in
set_option maxRecDepth 100000 in
theorem c_CR_swapStrands (l : Launch) (D : va_G) (K : Nat → ClassId) (M : zq_M) (o : Nat) (sA : Nat) (lA : Nat) (cnt : Int) (sg : Int → Int) (lb : Int → Int) (k : Int) (h_o : M o = some (.inr (2, [.ref sA, .ref lA, .int (iI cnt)]))) (h_s : M sA = some (cI (K 0) 12 sg)) (h_l : M lA = some (cI (K 0) 48 lb)) (hC : zC cnt sg lb) (hk : 0 ≤ k ∧ k < cnt) : zq_Met l y_CR_swapStrands (.code y_CR_swapStrands b_CR_swapStrands 4 none :: lw_gd) { frames := 3, cells := 0, slots := 0, locals := 63 } D vwCl (zT K) [.ref o, .int (iI k)] M (P_CR_swapStrands K M o sA lA cnt sg lb k) 0 0 := by
  refine zq_start (cc := b_CR_swapStrands) (maxL := 4) (ret := none) (by decide) rfl (Nat.le_of_ble_eq_true rfl) ?_
  intro p e s m below meth c A ls hx hb hr hml hts hown hnm hlocks hA hZ hw hl
  have hts : ∀ w ∈ lw_gd, w.before [.ref o, .int (iI k)].toArray s = true := fun w h => hts w (List.mem_cons_of_mem _ h)
  have hown : s.vm.findClass R_CR = some m.cls := hown
  have hK := hZ.1
  have hl : lv_has ls 4 [(0, .ref o), (1, .int (iI k))] := hl
  have hfr : ∀ q, q ≠ sA → q ≠ lA → M q = M q := fun q _ _ => rfl
  obtain ⟨hc1, hc2, hc3, hc4⟩ := id hC
  have hu := zup_in (sg k)
  refine lv_aload_n hx hb d_CR_swapStrands_0 rfl (lv_at hl 0 rfl) ?_
  refine lv_iload_n hx hb d_CR_swapStrands_1 rfl (lv_at hl 1 rfl) ?_
  refine zq_callV (As := [.int (iI k)]) (rest := []) ⟨hx, hb, hml, hown, hts⟩ (c_CR_has l D K M o sA lA cnt sg lb k h_o h_s h_l hC ⟨by omega, by omega⟩) (cwV 1 hts (zg_V tw_272 tw_273 tw_274 tw_2 tw_275) rfl rfl rfl (by decide +kernel) ⟨Nat.le_of_ble_eq_true rfl, Nat.le_of_ble_eq_true rfl⟩) hZ hw hA h_o rfl rfl rfl rfl hl.1 (Nat.le_of_ble_eq_true rfl) d_CR_swapStrands_2 ⟨Nat.le_of_ble_eq_true rfl, Nat.le_of_ble_eq_true rfl⟩ (fun v M1 H locs hp hw => ?_)
  obtain ⟨rfl, hMe⟩ := hp
  rw [hMe] at hw
  refine W.eq (g2 := F0 m 5 ls [.int (iI (if 0 ≤ k ∧ k < cnt then 1 else 0))]) rfl ?_
  refine zq_if_ne (tgt := 9) hx hb d_CR_swapStrands_5 (by decide) (by split <;> decide) (fun hc2 => ?_) (fun hc2 => ?_)
  · refine lv_aload_n hx hb d_CR_swapStrands_9 rfl (lv_at hl 0 rfl) ?_
    refine lv_iload_n hx hb d_CR_swapStrands_10 rfl (lv_at hl 1 rfl) ?_
    refine zq_callV (As := [.int (iI k)]) (rest := []) ⟨hx, hb, hml, hown, hts⟩ (c_CR_upperIn l D K M o sA lA cnt sg lb k h_o h_s h_l hC ⟨by omega, by omega⟩) (cwV 1 hts (zg_V tw_264 tw_265 tw_266 tw_2 tw_267) rfl rfl rfl (by decide +kernel) ⟨Nat.le_of_ble_eq_true rfl, Nat.le_of_ble_eq_true rfl⟩) hZ hw hA h_o rfl rfl rfl rfl hl.1 (Nat.le_of_ble_eq_true rfl) d_CR_swapStrands_11 ⟨Nat.le_of_ble_eq_true rfl, Nat.le_of_ble_eq_true rfl⟩ (fun v M3 H locs hp hw => ?_)
    obtain ⟨rfl, hMe⟩ := hp
    rw [hMe] at hw
    refine W.eq (g2 := F0 m 14 ls [.int (iI (4 * k + zup (sg k)))]) rfl ?_
    refine lv_aload_n hx hb d_CR_swapStrands_14 rfl (lv_at hl 0 rfl) ?_
    refine lv_iload_n hx hb d_CR_swapStrands_15 rfl (lv_at hl 1 rfl) ?_
    refine zq_callV (As := [.int (iI k)]) (rest := [.int (iI (4 * k + zup (sg k)))]) ⟨hx, hb, hml, hown, hts⟩ (c_CR_lowerIn l D K M o sA lA cnt sg lb k h_o h_s h_l hC ) (cwV 1 hts (zg_V tw_260 tw_261 tw_262 tw_2 tw_263) rfl rfl rfl (by decide +kernel) ⟨Nat.le_of_ble_eq_true rfl, Nat.le_of_ble_eq_true rfl⟩) hZ hw hA h_o rfl rfl rfl rfl hl.1 (Nat.le_of_ble_eq_true rfl) d_CR_swapStrands_16 ⟨Nat.le_of_ble_eq_true rfl, Nat.le_of_ble_eq_true rfl⟩ (fun v M4 H locs hp hw => ?_)
    obtain ⟨rfl, hMe⟩ := hp
    rw [hMe] at hw
    refine W.eq (g2 := F0 m 19 ls [.int (iI (4 * k)), .int (iI (4 * k + zup (sg k)))]) rfl ?_
    refine zq_isub hx hb d_CR_swapStrands_19 ?_
    rw [show ((4 * k + zup (sg k)) - (4 * k) : Int) = zup (sg k) from (by omega)]
    refine lv_istore_n (lv' := [(2, .int (iI (zup (sg k)))), (0, .ref o), (1, .int (iI k))]) hx hb d_CR_swapStrands_20 rfl hl (by decide) rfl (fun ls hl => ?_)
    refine lv_aload_n hx hb d_CR_swapStrands_21 rfl (lv_at hl 1 rfl) ?_
    refine lv_iload_n hx hb d_CR_swapStrands_22 rfl (lv_at hl 2 rfl) ?_
    refine zq_callV (As := [.int (iI k)]) (rest := []) ⟨hx, hb, hml, hown, hts⟩ (c_CR_lowerIn l D K M o sA lA cnt sg lb k h_o h_s h_l hC ) (cwV 1 hts (zg_V tw_260 tw_261 tw_262 tw_2 tw_263) rfl rfl rfl (by decide +kernel) ⟨Nat.le_of_ble_eq_true rfl, Nat.le_of_ble_eq_true rfl⟩) hZ hw hA h_o rfl rfl rfl rfl hl.1 (Nat.le_of_ble_eq_true rfl) d_CR_swapStrands_23 ⟨Nat.le_of_ble_eq_true rfl, Nat.le_of_ble_eq_true rfl⟩ (fun v M5 H locs hp hw => ?_)
    obtain ⟨rfl, hMe⟩ := hp
    rw [hMe] at hw
    refine W.eq (g2 := F0 m 26 ls [.int (iI (4 * k))]) rfl ?_
    refine lv_istore_n (lv' := [(3, .int (iI (4 * k))), (2, .int (iI (zup (sg k)))), (0, .ref o), (1, .int (iI k))]) hx hb d_CR_swapStrands_26 rfl hl (by decide) rfl (fun ls hl => ?_)
    refine lv_aload_n hx hb d_CR_swapStrands_27 rfl (lv_at hl 2 rfl) ?_
    refine lv_iload_n hx hb d_CR_swapStrands_28 rfl (lv_at hl 3 rfl) ?_
    refine lv_aload_n hx hb d_CR_swapStrands_29 rfl (lv_at hl 2 rfl) ?_
    refine zq_get hx hb hts i_CR hown hK hw h_o rfl 0 (by decide) (hts _ tw_28) rfl d_CR_swapStrands_30 ?_
    refine lv_iload_n hx hb d_CR_swapStrands_33 rfl (lv_at hl 3 rfl) ?_
    refine zq_iald hx hb hK hw 0 h_s rfl (by omega) (by omega) (by decide) d_CR_swapStrands_34 ?_
    refine zq_ineg hx hb d_CR_swapStrands_35 ?_
    refine lv_aload_n hx hb d_CR_swapStrands_36 rfl (lv_at hl 2 rfl) ?_
    refine lv_iload_n hx hb d_CR_swapStrands_37 rfl (lv_at hl 0 rfl) ?_
    refine lv_iload_n hx hb d_CR_swapStrands_38 rfl (lv_at hl 1 rfl) ?_
    refine lv_iconst (v := iI 4) hx hb d_CR_swapStrands_39 rfl ?_
    refine zq_irem hx hb (by omega) ⟨by omega, by omega⟩ (by decide) (by decide) d_CR_swapStrands_40 ?_
    refine zq_iadd hx hb d_CR_swapStrands_41 ?_
    refine zq_callV (As := [.int (iI ((4 * k) + ((zup (sg k)) % 4)))]) (rest := [.int (iI (-(sg k))), .int (iI k), .ref o]) ⟨hx, hb, hml, hown, hts⟩ (c_CR_labelAt l D K M o sA lA cnt sg lb ((4 * k) + ((zup (sg k)) % 4)) h_o h_s h_l hC ⟨by omega, by omega⟩) (cwV 1 hts (zg_V tw_555 tw_248 tw_249 tw_2 tw_250) rfl rfl rfl (by decide +kernel) ⟨Nat.le_of_ble_eq_true rfl, Nat.le_of_ble_eq_true rfl⟩) hZ hw hA h_o rfl rfl rfl rfl hl.1 (Nat.le_of_ble_eq_true rfl) d_CR_swapStrands_42 ⟨Nat.le_of_ble_eq_true rfl, Nat.le_of_ble_eq_true rfl⟩ (fun v M6 H locs hp hw => ?_)
    obtain ⟨rfl, hMe⟩ := hp
    rw [hMe] at hw
    refine W.eq (g2 := F0 m 45 ls [.int (iI (lb ((4 * k) + ((zup (sg k)) % 4)))), .int (iI (-(sg k))), .int (iI k), .ref o]) rfl ?_
    refine lv_aload_n hx hb d_CR_swapStrands_45 rfl (lv_at hl 2 rfl) ?_
    refine lv_iload_n hx hb d_CR_swapStrands_46 rfl (lv_at hl 0 rfl) ?_
    refine lv_iload_n hx hb d_CR_swapStrands_47 rfl (lv_at hl 1 rfl) ?_
    refine lv_iconst (v := iI 1) hx hb d_CR_swapStrands_48 rfl ?_
    refine zq_iadd hx hb d_CR_swapStrands_49 ?_
    refine lv_iconst (v := iI 4) hx hb d_CR_swapStrands_50 rfl ?_
    refine zq_irem hx hb (by omega) ⟨by omega, by omega⟩ (by decide) (by decide) d_CR_swapStrands_51 ?_
    refine zq_iadd hx hb d_CR_swapStrands_52 ?_
    refine zq_callV (As := [.int (iI ((4 * k) + (((zup (sg k)) + 1) % 4)))]) (rest := [.int (iI (lb ((4 * k) + ((zup (sg k)) % 4)))), .int (iI (-(sg k))), .int (iI k), .ref o]) ⟨hx, hb, hml, hown, hts⟩ (c_CR_labelAt l D K M o sA lA cnt sg lb ((4 * k) + (((zup (sg k)) + 1) % 4)) h_o h_s h_l hC ⟨by omega, by omega⟩) (cwV 1 hts (zg_V tw_555 tw_248 tw_249 tw_2 tw_250) rfl rfl rfl (by decide +kernel) ⟨Nat.le_of_ble_eq_true rfl, Nat.le_of_ble_eq_true rfl⟩) hZ hw hA h_o rfl rfl rfl rfl hl.1 (Nat.le_of_ble_eq_true rfl) d_CR_swapStrands_53 ⟨Nat.le_of_ble_eq_true rfl, Nat.le_of_ble_eq_true rfl⟩ (fun v M7 H locs hp hw => ?_)
    obtain ⟨rfl, hMe⟩ := hp
    rw [hMe] at hw
    refine W.eq (g2 := F0 m 56 ls [.int (iI (lb ((4 * k) + (((zup (sg k)) + 1) % 4)))), .int (iI (lb ((4 * k) + ((zup (sg k)) % 4)))), .int (iI (-(sg k))), .int (iI k), .ref o]) rfl ?_
    refine lv_aload_n hx hb d_CR_swapStrands_56 rfl (lv_at hl 2 rfl) ?_
    refine lv_iload_n hx hb d_CR_swapStrands_57 rfl (lv_at hl 0 rfl) ?_
    refine lv_iload_n hx hb d_CR_swapStrands_58 rfl (lv_at hl 1 rfl) ?_
    refine lv_iconst (v := iI 2) hx hb d_CR_swapStrands_59 rfl ?_
    refine zq_iadd hx hb d_CR_swapStrands_60 ?_
    refine lv_iconst (v := iI 4) hx hb d_CR_swapStrands_61 rfl ?_
    refine zq_irem hx hb (by omega) ⟨by omega, by omega⟩ (by decide) (by decide) d_CR_swapStrands_62 ?_
    refine zq_iadd hx hb d_CR_swapStrands_63 ?_
    refine zq_callV (As := [.int (iI ((4 * k) + (((zup (sg k)) + 2) % 4)))]) (rest := [.int (iI (lb ((4 * k) + (((zup (sg k)) + 1) % 4)))), .int (iI (lb ((4 * k) + ((zup (sg k)) % 4)))), .int (iI (-(sg k))), .int (iI k), .ref o]) ⟨hx, hb, hml, hown, hts⟩ (c_CR_labelAt l D K M o sA lA cnt sg lb ((4 * k) + (((zup (sg k)) + 2) % 4)) h_o h_s h_l hC ⟨by omega, by omega⟩) (cwV 1 hts (zg_V tw_555 tw_248 tw_249 tw_2 tw_250) rfl rfl rfl (by decide +kernel) ⟨Nat.le_of_ble_eq_true rfl, Nat.le_of_ble_eq_true rfl⟩) hZ hw hA h_o rfl rfl rfl rfl hl.1 (Nat.le_of_ble_eq_true rfl) d_CR_swapStrands_64 ⟨Nat.le_of_ble_eq_true rfl, Nat.le_of_ble_eq_true rfl⟩ (fun v M8 H locs hp hw => ?_)
    obtain ⟨rfl, hMe⟩ := hp
    rw [hMe] at hw
    refine W.eq (g2 := F0 m 67 ls [.int (iI (lb ((4 * k) + (((zup (sg k)) + 2) % 4)))), .int (iI (lb ((4 * k) + (((zup (sg k)) + 1) % 4)))), .int (iI (lb ((4 * k) + ((zup (sg k)) % 4)))), .int (iI (-(sg k))), .int (iI k), .ref o]) rfl ?_
    refine lv_aload_n hx hb d_CR_swapStrands_67 rfl (lv_at hl 2 rfl) ?_
    refine lv_iload_n hx hb d_CR_swapStrands_68 rfl (lv_at hl 0 rfl) ?_
    refine lv_iload_n hx hb d_CR_swapStrands_69 rfl (lv_at hl 1 rfl) ?_
    refine lv_iconst (v := iI 3) hx hb d_CR_swapStrands_70 rfl ?_
    refine zq_iadd hx hb d_CR_swapStrands_71 ?_
    refine lv_iconst (v := iI 4) hx hb d_CR_swapStrands_72 rfl ?_
    refine zq_irem hx hb (by omega) ⟨by omega, by omega⟩ (by decide) (by decide) d_CR_swapStrands_73 ?_
    refine zq_iadd hx hb d_CR_swapStrands_74 ?_
    refine zq_callV (As := [.int (iI ((4 * k) + (((zup (sg k)) + 3) % 4)))]) (rest := [.int (iI (lb ((4 * k) + (((zup (sg k)) + 2) % 4)))), .int (iI (lb ((4 * k) + (((zup (sg k)) + 1) % 4)))), .int (iI (lb ((4 * k) + ((zup (sg k)) % 4)))), .int (iI (-(sg k))), .int (iI k), .ref o]) ⟨hx, hb, hml, hown, hts⟩ (c_CR_labelAt l D K M o sA lA cnt sg lb ((4 * k) + (((zup (sg k)) + 3) % 4)) h_o h_s h_l hC ⟨by omega, by omega⟩) (cwV 1 hts (zg_V tw_555 tw_248 tw_249 tw_2 tw_250) rfl rfl rfl (by decide +kernel) ⟨Nat.le_of_ble_eq_true rfl, Nat.le_of_ble_eq_true rfl⟩) hZ hw hA h_o rfl rfl rfl rfl hl.1 (Nat.le_of_ble_eq_true rfl) d_CR_swapStrands_75 ⟨Nat.le_of_ble_eq_true rfl, Nat.le_of_ble_eq_true rfl⟩ (fun v M9 H locs hp hw => ?_)
    obtain ⟨rfl, hMe⟩ := hp
    rw [hMe] at hw
    refine W.eq (g2 := F0 m 78 ls [.int (iI (lb ((4 * k) + (((zup (sg k)) + 3) % 4)))), .int (iI (lb ((4 * k) + (((zup (sg k)) + 2) % 4)))), .int (iI (lb ((4 * k) + (((zup (sg k)) + 1) % 4)))), .int (iI (lb ((4 * k) + ((zup (sg k)) % 4)))), .int (iI (-(sg k))), .int (iI k), .ref o]) rfl ?_
    refine zq_callV (As := [.int (iI k), .int (iI (-(sg k))), .int (iI (lb ((4 * k) + ((zup (sg k)) % 4)))), .int (iI (lb ((4 * k) + (((zup (sg k)) + 1) % 4)))), .int (iI (lb ((4 * k) + (((zup (sg k)) + 2) % 4)))), .int (iI (lb ((4 * k) + (((zup (sg k)) + 3) % 4))))]) (rest := []) ⟨hx, hb, hml, hown, hts⟩ (c_CR_write l D K M o sA lA cnt sg lb k (-(sg k)) (lb ((4 * k) + ((zup (sg k)) % 4))) (lb ((4 * k) + (((zup (sg k)) + 1) % 4))) (lb ((4 * k) + (((zup (sg k)) + 2) % 4))) (lb ((4 * k) + (((zup (sg k)) + 3) % 4))) h_o h_s h_l ⟨by omega, by omega⟩) (cwV 6 hts (zg_V tw_224 tw_226 ts_1 tw_2 tw_227) rfl rfl rfl (by decide +kernel) ⟨Nat.le_of_ble_eq_true rfl, Nat.le_of_ble_eq_true rfl⟩) hZ hw hA h_o rfl rfl rfl rfl hl.1 (Nat.le_of_ble_eq_true rfl) d_CR_swapStrands_78 ⟨Nat.le_of_ble_eq_true rfl, Nat.le_of_ble_eq_true rfl⟩ (fun v M10 H locs hp hw => ?_)
    obtain ⟨rfl, hs1, hs2, ho⟩ := hp
    have h_o : M10 o = some (.inr (2, [.ref sA, .ref lA, .int (iI cnt)])) := (ho _ (zq_ne h_o h_s (by simp)) (zq_ne h_o h_l (by simp))).trans h_o
    have h_s : M10 sA = some (cI (K 0) 12 (zu sg k (-(sg k)))) := hs1
    have h_l : M10 lA = some (cI (K 0) 48 (zw4 lb k (lb ((4 * k) + ((zup (sg k)) % 4))) (lb ((4 * k) + (((zup (sg k)) + 1) % 4))) (lb ((4 * k) + (((zup (sg k)) + 2) % 4))) (lb ((4 * k) + (((zup (sg k)) + 3) % 4))))) := hs2
    have hfr : ∀ q, q ≠ sA → q ≠ lA → M10 q = M q := fun q g0 g1 => (ho q g0 g1).trans (hfr q g0 g1)
    refine W.eq (g2 := F0 m 81 ls []) rfl ?_
    exact zq_vret hx hb hr hlocks hZ hw ⟨rfl, h_s, h_l, hfr⟩ d_CR_swapStrands_81
  · exact absurd hc2 (by rw [if_pos (by omega)]; decide)
abbrev P_CR_makeOne (K : Nat → ClassId) (M : zq_M) (o : Nat) (sA : Nat) (lA : Nat) (cnt : Int) (sg : Int → Int) (lb : Int → Int) (a0 : Int) (b0 : Int) : Option Value → zq_M → Prop := fun v M' => v = none ∧ M' lA = some (cI (K 0) 48 (zmk lb a0 b0)) ∧ ∀ q, q ≠ lA → M' q = M q
set_option maxHeartbeats 4000000 in
set_option maxRecDepth 100000 in
theorem c_CR_makeOne (l : Launch) (D : va_G) (K : Nat → ClassId) (M : zq_M) (o : Nat) (sA : Nat) (lA : Nat) (cnt : Int) (sg : Int → Int) (lb : Int → Int) (a0 : Int) (b0 : Int) (h_o : M o = some (.inr (2, [.ref sA, .ref lA, .int (iI cnt)]))) (h_s : M sA = some (cI (K 0) 12 sg)) (h_l : M lA = some (cI (K 0) 48 lb)) (hC : zC cnt sg lb) (ha : inI a0) (hb0 : inI b0) : zq_Met l y_CR_makeOne (.code y_CR_makeOne b_CR_makeOne 6 none :: lw_gd) { frames := 1, cells := 0, slots := 0, locals := 24 } D vwCl (zT K) [.ref o, .int (iI a0), .int (iI b0)] M (P_CR_makeOne K M o sA lA cnt sg lb a0 b0) 0 0 := by
  refine zq_start (cc := b_CR_makeOne) (maxL := 6) (ret := none) (by decide) rfl (Nat.le_of_ble_eq_true rfl) ?_
  intro p e s m below meth c A ls hx hb hr hml hts hown hnm hlocks hA hZ hw hl
  have hts : ∀ w ∈ lw_gd, w.before [.ref o, .int (iI a0), .int (iI b0)].toArray s = true := fun w h => hts w (List.mem_cons_of_mem _ h)
  have hown : s.vm.findClass R_CR = some m.cls := hown
  have hK := hZ.1
  have hl : lv_has ls 6 [(0, .ref o), (1, .int (iI a0)), (2, .int (iI b0))] := hl
  have hfr : ∀ q, q ≠ lA → M q = M q := fun q _ => rfl
  obtain ⟨hc1, hc2, hc3, hc4⟩ := id hC
  have hL : ∀ (n : Nat) (i : Int) (h : Int → Int) (Mq : zq_M) (H : Heap) (locs : List Loc) (ls : Array Slot), (0 ≤ i ∧ i ≤ 48) → (∀ x, h x = if 0 ≤ x ∧ x < i ∧ lb x = max a0 b0 then min a0 b0 else lb x) → (48 - i).toNat < n → (∀ q, q ≠ lA → Mq q = M q) → Mq o = some (.inr (2, [.ref sA, .ref lA, .int (iI cnt)])) → Mq sA = some (cI (K 0) 12 sg) → Mq lA = some (cI (K 0) 48 h) → zq_W D vwCl A s.heap Mq H locs → lv_has ls 6 [(0, .ref o), (3, .int (iI (min a0 b0))), (4, .int (iI (max a0 b0))), (5, .int (iI i))] → W p l e ({ frames := 1, cells := 0, slots := 0, locals := 24 } : Room) s m [.ref o, .int (iI a0), .int (iI b0)].toArray below meth c H locs 0 0 (MQ below (zq_Q D vwCl (zT K) (P_CR_makeOne K M o sA lA cnt sg lb a0 b0) A) [.ref o, .int (iI a0), .int (iI b0)].toArray s 0 0 A) (F0 m 16 ls []) := by
    intro n
    induction n with
    | zero =>
      intro i h Mq H locs ls hi hh hms hfr h_o h_s h_l hw hl
      exact absurd hms (Nat.not_lt_zero _)
    | succ n ih_hL =>
      intro i h Mq H locs ls hi hh hms hfr h_o h_s h_l hw hl
      refine lv_iload hx hb d_CR_makeOne_16 (lv_at hl 3 rfl) ?_
      refine lv_bipush (v := iI 48) hx hb d_CR_makeOne_18 (by decide) ?_
      refine zq_icmp_ge (tgt := 49) hx hb d_CR_makeOne_20 (by decide) ⟨by omega, by omega⟩ (by decide) (fun hc1 => ?_) (fun hc1 => ?_)
      · have hz : h = zmk lb a0 b0 := funext fun x => by rw [hh, show i = 48 from by omega]; rfl
        exact zq_vret hx hb hr hlocks hZ hw ⟨rfl, hz ▸ h_l, hfr⟩ d_CR_makeOne_49
      · refine lv_aload_n hx hb d_CR_makeOne_23 rfl (lv_at hl 0 rfl) ?_
        refine zq_get hx hb hts i_CR hown hK hw h_o rfl 1 (by decide) (hts _ tw_29) rfl d_CR_makeOne_24 ?_
        refine lv_iload hx hb d_CR_makeOne_27 (lv_at hl 3 rfl) ?_
        refine zq_iald hx hb hK hw 0 h_l rfl (by omega) (by omega) (by decide) d_CR_makeOne_29 ?_
        have hhi : h i = lb i := by rw [hh, if_neg (by omega)]
        refine lv_iload hx hb d_CR_makeOne_30 (lv_at hl 2 rfl) ?_
        refine zq_icmp_ne (tgt := 43) hx hb d_CR_makeOne_32 (by decide) (by rw [hhi]; exact hc4 i) ⟨by omega, by omega⟩ (fun hc2 => ?_) (fun hc2 => ?_)
        · refine lv_iinc (v := iI (i + 1)) (lv' := [(5, .int (iI (i + 1))), (0, .ref o), (3, .int (iI (min a0 b0))), (4, .int (iI (max a0 b0)))]) hx hb d_CR_makeOne_43 hl (k := 3) rfl (iI_add _ _) (by decide) rfl (fun ls hl => ?_)
          refine lv_goto (tgt := 16) hx hb d_CR_makeOne_46 (by decide) ?_
          exact ih_hL (i + 1) h Mq _ _ _ (by omega) (zmk_s1 hh (by omega) (by rw [← hhi]; assumption)) (by omega) hfr h_o h_s h_l hw (lv_sub hl [1, 2, 3, 0] rfl)
        · refine lv_aload_n hx hb d_CR_makeOne_35 rfl (lv_at hl 0 rfl) ?_
          refine zq_get hx hb hts i_CR hown hK hw h_o rfl 1 (by decide) (hts _ tw_29) rfl d_CR_makeOne_36 ?_
          refine lv_iload hx hb d_CR_makeOne_39 (lv_at hl 3 rfl) ?_
          refine lv_iload_n hx hb d_CR_makeOne_41 rfl (lv_at hl 1 rfl) ?_
          refine zq_iast hx hb hK hw 0 h_l rfl (by omega) (by omega) (by decide) d_CR_makeOne_42 (fun M3 H locs hs ho hw => ?_)
          have h_o : M3 o = some (.inr (2, [.ref sA, .ref lA, .int (iI cnt)])) := (ho _ (zq_ne h_o h_l (by simp))).trans h_o
          have h_s : M3 sA = some (cI (K 0) 12 sg) := (ho _ (zq_ne h_s h_l (by simp))).trans h_s
          have h_l : M3 lA = some (cI (K 0) 48 (zu h i (min a0 b0))) := hs
          have hfr : ∀ q, q ≠ lA → M3 q = M q := fun q g0 => (ho q g0).trans (hfr q g0)
          refine lv_iinc (v := iI (i + 1)) (lv' := [(5, .int (iI (i + 1))), (0, .ref o), (3, .int (iI (min a0 b0))), (4, .int (iI (max a0 b0)))]) hx hb d_CR_makeOne_43 hl (k := 3) rfl (iI_add _ _) (by decide) rfl (fun ls hl => ?_)
          refine lv_goto (tgt := 16) hx hb d_CR_makeOne_46 (by decide) ?_
          exact ih_hL (i + 1) (zu h i (min a0 b0)) M3 _ _ _ (by omega) (zmk_s2 hh (by omega)) (by omega) hfr h_o h_s h_l hw (lv_sub hl [1, 2, 3, 0] rfl)
  refine lv_iload_n hx hb d_CR_makeOne_0 rfl (lv_at hl 1 rfl) ?_
  refine lv_iload_n hx hb d_CR_makeOne_1 rfl (lv_at hl 2 rfl) ?_
  refine zq_min hx hb (hml.trans hl.1.symm) hown (hts _ tw_574) (hts _ tw_241) (hts _ tw_11) (hts _ tw_242) (Nat.le_of_ble_eq_true rfl) (Nat.le_of_ble_eq_true rfl) (Nat.zero_le _) (Nat.zero_le _) ha hb0 d_CR_makeOne_2 ?_
  refine lv_istore_n (lv' := [(3, .int (iI (min a0 b0))), (0, .ref o), (1, .int (iI a0)), (2, .int (iI b0))]) hx hb d_CR_makeOne_5 rfl hl (by decide) rfl (fun ls hl => ?_)
  refine lv_iload_n hx hb d_CR_makeOne_6 rfl (lv_at hl 2 rfl) ?_
  refine lv_iload_n hx hb d_CR_makeOne_7 rfl (lv_at hl 3 rfl) ?_
  refine zq_max hx hb (hml.trans hl.1.symm) hown (hts _ tw_575) (hts _ tw_335) (hts _ tw_11) (hts _ tw_336) (Nat.le_of_ble_eq_true rfl) (Nat.le_of_ble_eq_true rfl) (Nat.zero_le _) (Nat.zero_le _) ha hb0 d_CR_makeOne_8 ?_
  refine lv_istore (lv' := [(4, .int (iI (max a0 b0))), (3, .int (iI (min a0 b0))), (0, .ref o), (1, .int (iI a0)), (2, .int (iI b0))]) hx hb d_CR_makeOne_11 hl (by decide) rfl (fun ls hl => ?_)
  refine lv_iconst (v := iI 0) hx hb d_CR_makeOne_13 rfl ?_
  refine lv_istore (lv' := [(5, .int (iI 0)), (4, .int (iI (max a0 b0))), (3, .int (iI (min a0 b0))), (0, .ref o), (1, .int (iI a0)), (2, .int (iI b0))]) hx hb d_CR_makeOne_14 hl (by decide) rfl (fun ls hl => ?_)
  exact hL _ 0 lb M _ _ _ (by omega) (fun x => by rw [if_neg (by omega)]) (Nat.lt_succ_self _) hfr h_o h_s h_l hw (lv_sub hl [3, 2, 1, 0] rfl)
abbrev P_CR_remove (K : Nat → ClassId) (M : zq_M) (o : Nat) (sA : Nat) (lA : Nat) (cnt : Int) (sg : Int → Int) (lb : Int → Int) (k : Int) : Option Value → zq_M → Prop := fun v M' => v = none ∧ M' o = some (.inr (2, [.ref sA, .ref lA, .int (iI (cnt - 1))])) ∧ M' sA = some (cI (K 0) 12 (zrs sg cnt k)) ∧ M' lA = some (cI (K 0) 48 (zrl lb cnt k)) ∧ ∀ q, q ≠ o → q ≠ sA → q ≠ lA → M' q = M q
set_option maxHeartbeats 4000000 in
set_option maxRecDepth 100000 in
theorem c_CR_remove (l : Launch) (D : va_G) (K : Nat → ClassId) (M : zq_M) (o : Nat) (sA : Nat) (lA : Nat) (cnt : Int) (sg : Int → Int) (lb : Int → Int) (k : Int) (h_o : M o = some (.inr (2, [.ref sA, .ref lA, .int (iI cnt)]))) (h_s : M sA = some (cI (K 0) 12 sg)) (h_l : M lA = some (cI (K 0) 48 lb)) (hC : zC cnt sg lb) (hk : 0 ≤ k ∧ k < cnt) : zq_Met l y_CR_remove (.code y_CR_remove b_CR_remove 4 none :: lw_gd) { frames := 2, cells := 0, slots := 0, locals := 42 } D vwCl (zT K) [.ref o, .int (iI k)] M (P_CR_remove K M o sA lA cnt sg lb k) 0 0 := by
  refine zq_start (cc := b_CR_remove) (maxL := 4) (ret := none) (by decide) rfl (Nat.le_of_ble_eq_true rfl) ?_
  intro p e s m below meth c A ls hx hb hr hml hts hown hnm hlocks hA hZ hw hl
  have hts : ∀ w ∈ lw_gd, w.before [.ref o, .int (iI k)].toArray s = true := fun w h => hts w (List.mem_cons_of_mem _ h)
  have hown : s.vm.findClass R_CR = some m.cls := hown
  have hK := hZ.1
  have hl : lv_has ls 4 [(0, .ref o), (1, .int (iI k))] := hl
  have hfr : ∀ q, q ≠ o → q ≠ sA → q ≠ lA → M q = M q := fun q _ _ _ => rfl
  obtain ⟨hc1, hc2, hc3, hc4⟩ := id hC
  have hL : ∀ (n : Nat) (i : Int) (sg1 : Int → Int) (lb1 : Int → Int) (Mq : zq_M) (H : Heap) (locs : List Loc) (ls : Array Slot), (k + 1 ≤ i ∧ i ≤ cnt) → (∀ j, sg1 j = if k ≤ j ∧ j < i - 1 then sg (j + 1) else sg j) → (∀ j, lb1 j = if 4 * k ≤ j ∧ j < 4 * (i - 1) then lb (j + 4) else lb j) → (cnt - i).toNat < n → (∀ q, q ≠ o → q ≠ sA → q ≠ lA → Mq q = M q) → Mq o = some (.inr (2, [.ref sA, .ref lA, .int (iI cnt)])) → Mq sA = some (cI (K 0) 12 sg1) → Mq lA = some (cI (K 0) 48 lb1) → zq_W D vwCl A s.heap Mq H locs → lv_has ls 4 [(0, .ref o), (1, .int (iI k)), (2, .int (iI i))] → W p l e ({ frames := 2, cells := 0, slots := 0, locals := 42 } : Room) s m [.ref o, .int (iI k)].toArray below meth c H locs 0 0 (MQ below (zq_Q D vwCl (zT K) (P_CR_remove K M o sA lA cnt sg lb k) A) [.ref o, .int (iI k)].toArray s 0 0 A) (F0 m 4 ls []) := by
    intro n
    induction n with
    | zero =>
      intro i sg1 lb1 Mq H locs ls hi hsg hlb hms hfr h_o h_s h_l hw hl
      exact absurd hms (Nat.not_lt_zero _)
    | succ n ih_hL =>
      intro i sg1 lb1 Mq H locs ls hi hsg hlb hms hfr h_o h_s h_l hw hl
      have hC1 : zC cnt sg1 lb1 := ⟨hc1, hc2, fun j => by rw [hsg]; split <;> exact hc3 _, fun j => by rw [hlb]; split <;> exact hc4 _⟩
      refine lv_iload_n hx hb d_CR_remove_4 rfl (lv_at hl 2 rfl) ?_
      refine lv_aload_n hx hb d_CR_remove_5 rfl (lv_at hl 0 rfl) ?_
      refine zq_get hx hb hts i_CR hown hK hw h_o rfl 2 (by decide) (hts _ tw_30) rfl d_CR_remove_6 ?_
      refine zq_icmp_ge (tgt := 60) hx hb d_CR_remove_9 (by decide) ⟨by omega, by omega⟩ ⟨by omega, by omega⟩ (fun hc1 => ?_) (fun hc1 => ?_)
      · have hz1 : sg1 = zrs sg cnt k := funext fun j => by rw [hsg, show i = cnt from by omega]; rfl
        have hz2 : lb1 = zrl lb cnt k := funext fun j => by rw [hlb, show i = cnt from by omega]; rfl
        refine lv_aload_n hx hb d_CR_remove_60 rfl (lv_at hl 0 rfl) ?_
        refine lv_dup hx hb d_CR_remove_61 rfl ?_
        refine zq_get hx hb hts i_CR hown hK hw h_o rfl 2 (by decide) (hts _ tw_30) rfl d_CR_remove_62 ?_
        refine lv_iconst (v := iI 1) hx hb d_CR_remove_65 rfl ?_
        refine zq_isub hx hb d_CR_remove_66 ?_
        refine zq_put (ci := 2) (v := .int (iI (cnt - 1))) (ty := .int) hx hb hts i_CR t_CR t_CR_ok n_CR hown hK hw h_o rfl 2 (by decide) (hts _ tw_30) rfl (by decide +kernel) rfl rfl (Nat.le_of_ble_eq_true rfl) d_CR_remove_67 (fun M2 H locs hs ho hw => ?_)
        have h_s : M2 sA = some (cI (K 0) 12 sg1) := (ho _ (zq_ne h_s h_o (by simp))).trans h_s
        have h_l : M2 lA = some (cI (K 0) 48 lb1) := (ho _ (zq_ne h_l h_o (by simp))).trans h_l
        have h_o : M2 o = some (.inr (2, [.ref sA, .ref lA, .int (iI (cnt - 1))])) := hs
        have hfr : ∀ q, q ≠ o → q ≠ sA → q ≠ lA → M2 q = M q := fun q g0 g1 g2 => (ho q g0).trans (hfr q g0 g1 g2)
        exact zq_vret hx hb hr hlocks hZ hw ⟨rfl, h_o, hz1 ▸ h_s, hz2 ▸ h_l, hfr⟩ d_CR_remove_70
      · refine lv_iconst (v := iI 4) hx hb d_CR_remove_12 rfl ?_
        refine lv_iload_n hx hb d_CR_remove_13 rfl (lv_at hl 2 rfl) ?_
        refine zq_imul hx hb d_CR_remove_14 ?_
        refine lv_istore_n (lv' := [(3, .int (iI (4 * i))), (0, .ref o), (1, .int (iI k)), (2, .int (iI i))]) hx hb d_CR_remove_15 rfl hl (by decide) rfl (fun ls hl => ?_)
        refine lv_aload_n hx hb d_CR_remove_16 rfl (lv_at hl 1 rfl) ?_
        refine lv_iload_n hx hb d_CR_remove_17 rfl (lv_at hl 3 rfl) ?_
        refine lv_iconst (v := iI 1) hx hb d_CR_remove_18 rfl ?_
        refine zq_isub hx hb d_CR_remove_19 ?_
        refine lv_aload_n hx hb d_CR_remove_20 rfl (lv_at hl 1 rfl) ?_
        refine lv_iload_n hx hb d_CR_remove_21 rfl (lv_at hl 3 rfl) ?_
        refine zq_callV (As := [.int (iI i)]) (rest := [.int (iI (i - 1)), .ref o]) ⟨hx, hb, hml, hown, hts⟩ (c_CR_signOf l D K Mq o sA lA cnt sg1 lb1 i h_o h_s h_l hC1 ⟨by omega, by omega⟩) (cwV 1 hts (zg_V tw_268 tw_269 tw_270 tw_2 tw_271) rfl rfl rfl (by decide +kernel) ⟨Nat.le_of_ble_eq_true rfl, Nat.le_of_ble_eq_true rfl⟩) hZ hw hA h_o rfl rfl rfl rfl hl.1 (Nat.le_of_ble_eq_true rfl) d_CR_remove_22 ⟨Nat.le_of_ble_eq_true rfl, Nat.le_of_ble_eq_true rfl⟩ (fun v M3 H locs hp hw => ?_)
        obtain ⟨rfl, hMe⟩ := hp
        rw [hMe] at hw
        refine W.eq (g2 := F0 m 25 ls [.int (iI (sg1 i)), .int (iI (i - 1)), .ref o]) rfl ?_
        refine lv_aload_n hx hb d_CR_remove_25 rfl (lv_at hl 1 rfl) ?_
        refine lv_iload_n hx hb d_CR_remove_26 rfl (lv_at hl 0 rfl) ?_
        refine zq_callV (As := [.int (iI (4 * i))]) (rest := [.int (iI (sg1 i)), .int (iI (i - 1)), .ref o]) ⟨hx, hb, hml, hown, hts⟩ (c_CR_labelAt l D K Mq o sA lA cnt sg1 lb1 (4 * i) h_o h_s h_l hC1 ⟨by omega, by omega⟩) (cwV 1 hts (zg_V tw_555 tw_248 tw_249 tw_2 tw_250) rfl rfl rfl (by decide +kernel) ⟨Nat.le_of_ble_eq_true rfl, Nat.le_of_ble_eq_true rfl⟩) hZ hw hA h_o rfl rfl rfl rfl hl.1 (Nat.le_of_ble_eq_true rfl) d_CR_remove_27 ⟨Nat.le_of_ble_eq_true rfl, Nat.le_of_ble_eq_true rfl⟩ (fun v M4 H locs hp hw => ?_)
        obtain ⟨rfl, hMe⟩ := hp
        rw [hMe] at hw
        refine W.eq (g2 := F0 m 30 ls [.int (iI (lb1 (4 * i))), .int (iI (sg1 i)), .int (iI (i - 1)), .ref o]) rfl ?_
        refine lv_aload_n hx hb d_CR_remove_30 rfl (lv_at hl 1 rfl) ?_
        refine lv_iload_n hx hb d_CR_remove_31 rfl (lv_at hl 0 rfl) ?_
        refine lv_iconst (v := iI 1) hx hb d_CR_remove_32 rfl ?_
        refine zq_iadd hx hb d_CR_remove_33 ?_
        refine zq_callV (As := [.int (iI ((4 * i) + 1))]) (rest := [.int (iI (lb1 (4 * i))), .int (iI (sg1 i)), .int (iI (i - 1)), .ref o]) ⟨hx, hb, hml, hown, hts⟩ (c_CR_labelAt l D K Mq o sA lA cnt sg1 lb1 ((4 * i) + 1) h_o h_s h_l hC1 ⟨by omega, by omega⟩) (cwV 1 hts (zg_V tw_555 tw_248 tw_249 tw_2 tw_250) rfl rfl rfl (by decide +kernel) ⟨Nat.le_of_ble_eq_true rfl, Nat.le_of_ble_eq_true rfl⟩) hZ hw hA h_o rfl rfl rfl rfl hl.1 (Nat.le_of_ble_eq_true rfl) d_CR_remove_34 ⟨Nat.le_of_ble_eq_true rfl, Nat.le_of_ble_eq_true rfl⟩ (fun v M5 H locs hp hw => ?_)
        obtain ⟨rfl, hMe⟩ := hp
        rw [hMe] at hw
        refine W.eq (g2 := F0 m 37 ls [.int (iI (lb1 ((4 * i) + 1))), .int (iI (lb1 (4 * i))), .int (iI (sg1 i)), .int (iI (i - 1)), .ref o]) rfl ?_
        refine lv_aload_n hx hb d_CR_remove_37 rfl (lv_at hl 1 rfl) ?_
        refine lv_iload_n hx hb d_CR_remove_38 rfl (lv_at hl 0 rfl) ?_
        refine lv_iconst (v := iI 2) hx hb d_CR_remove_39 rfl ?_
        refine zq_iadd hx hb d_CR_remove_40 ?_
        refine zq_callV (As := [.int (iI ((4 * i) + 2))]) (rest := [.int (iI (lb1 ((4 * i) + 1))), .int (iI (lb1 (4 * i))), .int (iI (sg1 i)), .int (iI (i - 1)), .ref o]) ⟨hx, hb, hml, hown, hts⟩ (c_CR_labelAt l D K Mq o sA lA cnt sg1 lb1 ((4 * i) + 2) h_o h_s h_l hC1 ⟨by omega, by omega⟩) (cwV 1 hts (zg_V tw_555 tw_248 tw_249 tw_2 tw_250) rfl rfl rfl (by decide +kernel) ⟨Nat.le_of_ble_eq_true rfl, Nat.le_of_ble_eq_true rfl⟩) hZ hw hA h_o rfl rfl rfl rfl hl.1 (Nat.le_of_ble_eq_true rfl) d_CR_remove_41 ⟨Nat.le_of_ble_eq_true rfl, Nat.le_of_ble_eq_true rfl⟩ (fun v M6 H locs hp hw => ?_)
        obtain ⟨rfl, hMe⟩ := hp
        rw [hMe] at hw
        refine W.eq (g2 := F0 m 44 ls [.int (iI (lb1 ((4 * i) + 2))), .int (iI (lb1 ((4 * i) + 1))), .int (iI (lb1 (4 * i))), .int (iI (sg1 i)), .int (iI (i - 1)), .ref o]) rfl ?_
        refine lv_aload_n hx hb d_CR_remove_44 rfl (lv_at hl 1 rfl) ?_
        refine lv_iload_n hx hb d_CR_remove_45 rfl (lv_at hl 0 rfl) ?_
        refine lv_iconst (v := iI 3) hx hb d_CR_remove_46 rfl ?_
        refine zq_iadd hx hb d_CR_remove_47 ?_
        refine zq_callV (As := [.int (iI ((4 * i) + 3))]) (rest := [.int (iI (lb1 ((4 * i) + 2))), .int (iI (lb1 ((4 * i) + 1))), .int (iI (lb1 (4 * i))), .int (iI (sg1 i)), .int (iI (i - 1)), .ref o]) ⟨hx, hb, hml, hown, hts⟩ (c_CR_labelAt l D K Mq o sA lA cnt sg1 lb1 ((4 * i) + 3) h_o h_s h_l hC1 ⟨by omega, by omega⟩) (cwV 1 hts (zg_V tw_555 tw_248 tw_249 tw_2 tw_250) rfl rfl rfl (by decide +kernel) ⟨Nat.le_of_ble_eq_true rfl, Nat.le_of_ble_eq_true rfl⟩) hZ hw hA h_o rfl rfl rfl rfl hl.1 (Nat.le_of_ble_eq_true rfl) d_CR_remove_48 ⟨Nat.le_of_ble_eq_true rfl, Nat.le_of_ble_eq_true rfl⟩ (fun v M7 H locs hp hw => ?_)
        obtain ⟨rfl, hMe⟩ := hp
        rw [hMe] at hw
        refine W.eq (g2 := F0 m 51 ls [.int (iI (lb1 ((4 * i) + 3))), .int (iI (lb1 ((4 * i) + 2))), .int (iI (lb1 ((4 * i) + 1))), .int (iI (lb1 (4 * i))), .int (iI (sg1 i)), .int (iI (i - 1)), .ref o]) rfl ?_
        refine zq_callV (As := [.int (iI (i - 1)), .int (iI (sg1 i)), .int (iI (lb1 (4 * i))), .int (iI (lb1 ((4 * i) + 1))), .int (iI (lb1 ((4 * i) + 2))), .int (iI (lb1 ((4 * i) + 3)))]) (rest := []) ⟨hx, hb, hml, hown, hts⟩ (c_CR_write l D K Mq o sA lA cnt sg1 lb1 (i - 1) (sg1 i) (lb1 (4 * i)) (lb1 ((4 * i) + 1)) (lb1 ((4 * i) + 2)) (lb1 ((4 * i) + 3)) h_o h_s h_l ⟨by omega, by omega⟩) (cwV 6 hts (zg_V tw_224 tw_226 ts_1 tw_2 tw_227) rfl rfl rfl (by decide +kernel) ⟨Nat.le_of_ble_eq_true rfl, Nat.le_of_ble_eq_true rfl⟩) hZ hw hA h_o rfl rfl rfl rfl hl.1 (Nat.le_of_ble_eq_true rfl) d_CR_remove_51 ⟨Nat.le_of_ble_eq_true rfl, Nat.le_of_ble_eq_true rfl⟩ (fun v M8 H locs hp hw => ?_)
        obtain ⟨rfl, hs1, hs2, ho⟩ := hp
        have h_o : M8 o = some (.inr (2, [.ref sA, .ref lA, .int (iI cnt)])) := (ho _ (zq_ne h_o h_s (by simp)) (zq_ne h_o h_l (by simp))).trans h_o
        have h_s : M8 sA = some (cI (K 0) 12 (zu sg1 (i - 1) (sg1 i))) := hs1
        have h_l : M8 lA = some (cI (K 0) 48 (zw4 lb1 (i - 1) (lb1 (4 * i)) (lb1 ((4 * i) + 1)) (lb1 ((4 * i) + 2)) (lb1 ((4 * i) + 3)))) := hs2
        have hfr : ∀ q, q ≠ o → q ≠ sA → q ≠ lA → M8 q = M q := fun q g0 g1 g2 => (ho q g1 g2).trans (hfr q g0 g1 g2)
        refine W.eq (g2 := F0 m 54 ls []) rfl ?_
        refine lv_iinc (v := iI (i + 1)) (lv' := [(2, .int (iI (i + 1))), (3, .int (iI (4 * i))), (0, .ref o), (1, .int (iI k))]) hx hb d_CR_remove_54 hl (k := 3) rfl (iI_add _ _) (by decide) rfl (fun ls hl => ?_)
        refine lv_goto (tgt := 4) hx hb d_CR_remove_57 (by decide) ?_
        exact ih_hL (i + 1) (zu sg1 (i - 1) (sg1 i)) (zw4 lb1 (i - 1) (lb1 (4 * i)) (lb1 ((4 * i) + 1)) (lb1 ((4 * i) + 2)) (lb1 ((4 * i) + 3))) M8 _ _ _ (by omega) (zrm_s hsg (by omega)) (zrm_l hlb (by omega)) (by omega) hfr h_o h_s h_l hw (lv_sub hl [2, 3, 0] rfl)
  refine lv_iload_n hx hb d_CR_remove_0 rfl (lv_at hl 1 rfl) ?_
  refine lv_iconst (v := iI 1) hx hb d_CR_remove_1 rfl ?_
  refine zq_iadd hx hb d_CR_remove_2 ?_
  refine lv_istore_n (lv' := [(2, .int (iI (k + 1))), (0, .ref o), (1, .int (iI k))]) hx hb d_CR_remove_3 rfl hl (by decide) rfl (fun ls hl => ?_)
  exact hL _ (k + 1) sg lb M _ _ _ (by omega) (fun j => by rw [if_neg (by omega)]) (fun j => by rw [if_neg (by omega)]) (Nat.lt_succ_self _) hfr h_o h_s h_l hw (lv_sub hl [1, 2, 0] rfl)
abbrev P_CR_joinStrands (K : Nat → ClassId) (M : zq_M) (o : Nat) (sA : Nat) (lA : Nat) (cnt : Int) (sg : Int → Int) (lb : Int → Int) (k : Int) : Option Value → zq_M → Prop := fun v M' => v = none ∧ M' o = some (.inr (2, [.ref sA, .ref lA, .int (iI (cnt - 1))])) ∧ M' sA = some (cI (K 0) 12 (zrs sg cnt k)) ∧ M' lA = some (cI (K 0) 48 (zjs sg lb cnt k)) ∧ ∀ q, q ≠ o → q ≠ sA → q ≠ lA → M' q = M q
set_option maxHeartbeats 4000000 in
set_option maxRecDepth 100000 in
theorem c_CR_joinStrands (l : Launch) (D : va_G) (K : Nat → ClassId) (M : zq_M) (o : Nat) (sA : Nat) (lA : Nat) (cnt : Int) (sg : Int → Int) (lb : Int → Int) (k : Int) (h_o : M o = some (.inr (2, [.ref sA, .ref lA, .int (iI cnt)]))) (h_s : M sA = some (cI (K 0) 12 sg)) (h_l : M lA = some (cI (K 0) 48 lb)) (hC : zC cnt sg lb) (hk : 0 ≤ k ∧ k < cnt) : zq_Met l y_CR_joinStrands (.code y_CR_joinStrands b_CR_joinStrands 2 none :: lw_gd) { frames := 3, cells := 0, slots := 0, locals := 65 } D vwCl (zT K) [.ref o, .int (iI k)] M (P_CR_joinStrands K M o sA lA cnt sg lb k) 0 0 := by
  refine zq_start (cc := b_CR_joinStrands) (maxL := 2) (ret := none) (by decide) rfl (Nat.le_of_ble_eq_true rfl) ?_
  intro p e s m below meth c A ls hx hb hr hml hts hown hnm hlocks hA hZ hw hl
  have hts : ∀ w ∈ lw_gd, w.before [.ref o, .int (iI k)].toArray s = true := fun w h => hts w (List.mem_cons_of_mem _ h)
  have hown : s.vm.findClass R_CR = some m.cls := hown
  have hK := hZ.1
  have hl : lv_has ls 2 [(0, .ref o), (1, .int (iI k))] := hl
  have hfr : ∀ q, q ≠ o → q ≠ sA → q ≠ lA → M q = M q := fun q _ _ _ => rfl
  obtain ⟨hc1, hc2, hc3, hc4⟩ := id hC
  have hu := zup_in (sg k)
  have hu2 := zuo_in (sg k)
  refine lv_aload_n hx hb d_CR_joinStrands_0 rfl (lv_at hl 0 rfl) ?_
  refine lv_iload_n hx hb d_CR_joinStrands_1 rfl (lv_at hl 1 rfl) ?_
  refine zq_callV (As := [.int (iI k)]) (rest := []) ⟨hx, hb, hml, hown, hts⟩ (c_CR_has l D K M o sA lA cnt sg lb k h_o h_s h_l hC ⟨by omega, by omega⟩) (cwV 1 hts (zg_V tw_272 tw_273 tw_274 tw_2 tw_275) rfl rfl rfl (by decide +kernel) ⟨Nat.le_of_ble_eq_true rfl, Nat.le_of_ble_eq_true rfl⟩) hZ hw hA h_o rfl rfl rfl rfl hl.1 (Nat.le_of_ble_eq_true rfl) d_CR_joinStrands_2 ⟨Nat.le_of_ble_eq_true rfl, Nat.le_of_ble_eq_true rfl⟩ (fun v M1 H locs hp hw => ?_)
  obtain ⟨rfl, hMe⟩ := hp
  rw [hMe] at hw
  refine W.eq (g2 := F0 m 5 ls [.int (iI (if 0 ≤ k ∧ k < cnt then 1 else 0))]) rfl ?_
  refine zq_if_ne (tgt := 9) hx hb d_CR_joinStrands_5 (by decide) (by split <;> decide) (fun hc2 => ?_) (fun hc2 => ?_)
  · refine lv_aload_n hx hb d_CR_joinStrands_9 rfl (lv_at hl 0 rfl) ?_
    refine lv_aload_n hx hb d_CR_joinStrands_10 rfl (lv_at hl 0 rfl) ?_
    refine lv_aload_n hx hb d_CR_joinStrands_11 rfl (lv_at hl 0 rfl) ?_
    refine lv_iload_n hx hb d_CR_joinStrands_12 rfl (lv_at hl 1 rfl) ?_
    refine zq_callV (As := [.int (iI k)]) (rest := [.ref o, .ref o]) ⟨hx, hb, hml, hown, hts⟩ (c_CR_lowerIn l D K M o sA lA cnt sg lb k h_o h_s h_l hC ) (cwV 1 hts (zg_V tw_260 tw_261 tw_262 tw_2 tw_263) rfl rfl rfl (by decide +kernel) ⟨Nat.le_of_ble_eq_true rfl, Nat.le_of_ble_eq_true rfl⟩) hZ hw hA h_o rfl rfl rfl rfl hl.1 (Nat.le_of_ble_eq_true rfl) d_CR_joinStrands_13 ⟨Nat.le_of_ble_eq_true rfl, Nat.le_of_ble_eq_true rfl⟩ (fun v M3 H locs hp hw => ?_)
    obtain ⟨rfl, hMe⟩ := hp
    rw [hMe] at hw
    refine W.eq (g2 := F0 m 16 ls [.int (iI (4 * k)), .ref o, .ref o]) rfl ?_
    refine zq_callV (As := [.int (iI (4 * k))]) (rest := [.ref o]) ⟨hx, hb, hml, hown, hts⟩ (c_CR_labelAt l D K M o sA lA cnt sg lb (4 * k) h_o h_s h_l hC ⟨by omega, by omega⟩) (cwV 1 hts (zg_V tw_555 tw_248 tw_249 tw_2 tw_250) rfl rfl rfl (by decide +kernel) ⟨Nat.le_of_ble_eq_true rfl, Nat.le_of_ble_eq_true rfl⟩) hZ hw hA h_o rfl rfl rfl rfl hl.1 (Nat.le_of_ble_eq_true rfl) d_CR_joinStrands_16 ⟨Nat.le_of_ble_eq_true rfl, Nat.le_of_ble_eq_true rfl⟩ (fun v M4 H locs hp hw => ?_)
    obtain ⟨rfl, hMe⟩ := hp
    rw [hMe] at hw
    refine W.eq (g2 := F0 m 19 ls [.int (iI (lb (4 * k))), .ref o]) rfl ?_
    refine lv_aload_n hx hb d_CR_joinStrands_19 rfl (lv_at hl 0 rfl) ?_
    refine lv_aload_n hx hb d_CR_joinStrands_20 rfl (lv_at hl 0 rfl) ?_
    refine lv_iload_n hx hb d_CR_joinStrands_21 rfl (lv_at hl 1 rfl) ?_
    refine zq_callV (As := [.int (iI k)]) (rest := [.ref o, .int (iI (lb (4 * k))), .ref o]) ⟨hx, hb, hml, hown, hts⟩ (c_CR_upperOut l D K M o sA lA cnt sg lb k h_o h_s h_l hC ⟨by omega, by omega⟩) (cwV 1 hts (zg_V tw_564 tw_327 tw_328 tw_2 tw_329) rfl rfl rfl (by decide +kernel) ⟨Nat.le_of_ble_eq_true rfl, Nat.le_of_ble_eq_true rfl⟩) hZ hw hA h_o rfl rfl rfl rfl hl.1 (Nat.le_of_ble_eq_true rfl) d_CR_joinStrands_22 ⟨Nat.le_of_ble_eq_true rfl, Nat.le_of_ble_eq_true rfl⟩ (fun v M5 H locs hp hw => ?_)
    obtain ⟨rfl, hMe⟩ := hp
    rw [hMe] at hw
    refine W.eq (g2 := F0 m 25 ls [.int (iI (4 * k + zuo (sg k))), .ref o, .int (iI (lb (4 * k))), .ref o]) rfl ?_
    refine zq_callV (As := [.int (iI (4 * k + zuo (sg k)))]) (rest := [.int (iI (lb (4 * k))), .ref o]) ⟨hx, hb, hml, hown, hts⟩ (c_CR_labelAt l D K M o sA lA cnt sg lb (4 * k + zuo (sg k)) h_o h_s h_l hC ⟨by omega, by omega⟩) (cwV 1 hts (zg_V tw_555 tw_248 tw_249 tw_2 tw_250) rfl rfl rfl (by decide +kernel) ⟨Nat.le_of_ble_eq_true rfl, Nat.le_of_ble_eq_true rfl⟩) hZ hw hA h_o rfl rfl rfl rfl hl.1 (Nat.le_of_ble_eq_true rfl) d_CR_joinStrands_25 ⟨Nat.le_of_ble_eq_true rfl, Nat.le_of_ble_eq_true rfl⟩ (fun v M6 H locs hp hw => ?_)
    obtain ⟨rfl, hMe⟩ := hp
    rw [hMe] at hw
    refine W.eq (g2 := F0 m 28 ls [.int (iI (lb (4 * k + zuo (sg k)))), .int (iI (lb (4 * k))), .ref o]) rfl ?_
    refine zq_callV (As := [.int (iI (lb (4 * k))), .int (iI (lb (4 * k + zuo (sg k))))]) (rest := []) ⟨hx, hb, hml, hown, hts⟩ (c_CR_makeOne l D K M o sA lA cnt sg lb (lb (4 * k)) (lb (4 * k + zuo (sg k))) h_o h_s h_l hC (hc4 _) (hc4 _)) (cwV 2 hts (zg_V tw_570 tw_572 ts_24 tw_2 tw_573) rfl rfl rfl (by decide +kernel) ⟨Nat.le_of_ble_eq_true rfl, Nat.le_of_ble_eq_true rfl⟩) hZ hw hA h_o rfl rfl rfl rfl hl.1 (Nat.le_of_ble_eq_true rfl) d_CR_joinStrands_28 ⟨Nat.le_of_ble_eq_true rfl, Nat.le_of_ble_eq_true rfl⟩ (fun v M7 H locs hp hw => ?_)
    obtain ⟨rfl, hs1, ho⟩ := hp
    have h_o : M7 o = some (.inr (2, [.ref sA, .ref lA, .int (iI cnt)])) := (ho _ (zq_ne h_o h_l (by simp))).trans h_o
    have h_s : M7 sA = some (cI (K 0) 12 sg) := (ho _ (zq_ne h_s h_l (by simp))).trans h_s
    have h_l : M7 lA = some (cI (K 0) 48 (zmk lb (lb (4 * k)) (lb (4 * k + zuo (sg k))))) := hs1
    have hfr : ∀ q, q ≠ o → q ≠ sA → q ≠ lA → M7 q = M q := fun q g0 g1 g2 => (ho q g2).trans (hfr q g0 g1 g2)
    refine W.eq (g2 := F0 m 31 ls []) rfl ?_
    have hC1 := zmk_C hC (hc4 (4 * k)) (hc4 (4 * k + zuo (sg k)))
    refine lv_aload_n hx hb d_CR_joinStrands_31 rfl (lv_at hl 0 rfl) ?_
    refine lv_aload_n hx hb d_CR_joinStrands_32 rfl (lv_at hl 0 rfl) ?_
    refine lv_aload_n hx hb d_CR_joinStrands_33 rfl (lv_at hl 0 rfl) ?_
    refine lv_iload_n hx hb d_CR_joinStrands_34 rfl (lv_at hl 1 rfl) ?_
    refine zq_callV (As := [.int (iI k)]) (rest := [.ref o, .ref o]) ⟨hx, hb, hml, hown, hts⟩ (c_CR_upperIn l D K M7 o sA lA cnt sg (zmk lb (lb (4 * k)) (lb (4 * k + zuo (sg k)))) k h_o h_s h_l hC1 ⟨by omega, by omega⟩) (cwV 1 hts (zg_V tw_264 tw_265 tw_266 tw_2 tw_267) rfl rfl rfl (by decide +kernel) ⟨Nat.le_of_ble_eq_true rfl, Nat.le_of_ble_eq_true rfl⟩) hZ hw hA h_o rfl rfl rfl rfl hl.1 (Nat.le_of_ble_eq_true rfl) d_CR_joinStrands_35 ⟨Nat.le_of_ble_eq_true rfl, Nat.le_of_ble_eq_true rfl⟩ (fun v M8 H locs hp hw => ?_)
    obtain ⟨rfl, hMe⟩ := hp
    rw [hMe] at hw
    refine W.eq (g2 := F0 m 38 ls [.int (iI (4 * k + zup (sg k))), .ref o, .ref o]) rfl ?_
    refine zq_callV (As := [.int (iI (4 * k + zup (sg k)))]) (rest := [.ref o]) ⟨hx, hb, hml, hown, hts⟩ (c_CR_labelAt l D K M7 o sA lA cnt sg (zmk lb (lb (4 * k)) (lb (4 * k + zuo (sg k)))) (4 * k + zup (sg k)) h_o h_s h_l hC1 ⟨by omega, by omega⟩) (cwV 1 hts (zg_V tw_555 tw_248 tw_249 tw_2 tw_250) rfl rfl rfl (by decide +kernel) ⟨Nat.le_of_ble_eq_true rfl, Nat.le_of_ble_eq_true rfl⟩) hZ hw hA h_o rfl rfl rfl rfl hl.1 (Nat.le_of_ble_eq_true rfl) d_CR_joinStrands_38 ⟨Nat.le_of_ble_eq_true rfl, Nat.le_of_ble_eq_true rfl⟩ (fun v M9 H locs hp hw => ?_)
    obtain ⟨rfl, hMe⟩ := hp
    rw [hMe] at hw
    refine W.eq (g2 := F0 m 41 ls [.int (iI ((zmk lb (lb (4 * k)) (lb (4 * k + zuo (sg k)))) (4 * k + zup (sg k)))), .ref o]) rfl ?_
    refine lv_aload_n hx hb d_CR_joinStrands_41 rfl (lv_at hl 0 rfl) ?_
    refine lv_aload_n hx hb d_CR_joinStrands_42 rfl (lv_at hl 0 rfl) ?_
    refine lv_iload_n hx hb d_CR_joinStrands_43 rfl (lv_at hl 1 rfl) ?_
    refine zq_callV (As := [.int (iI k)]) (rest := [.ref o, .int (iI ((zmk lb (lb (4 * k)) (lb (4 * k + zuo (sg k)))) (4 * k + zup (sg k)))), .ref o]) ⟨hx, hb, hml, hown, hts⟩ (c_CR_lowerOut l D K M7 o sA lA cnt sg (zmk lb (lb (4 * k)) (lb (4 * k + zuo (sg k)))) k h_o h_s h_l hC1 ) (cwV 1 hts (zg_V tw_565 tw_358 tw_359 tw_2 tw_360) rfl rfl rfl (by decide +kernel) ⟨Nat.le_of_ble_eq_true rfl, Nat.le_of_ble_eq_true rfl⟩) hZ hw hA h_o rfl rfl rfl rfl hl.1 (Nat.le_of_ble_eq_true rfl) d_CR_joinStrands_44 ⟨Nat.le_of_ble_eq_true rfl, Nat.le_of_ble_eq_true rfl⟩ (fun v M10 H locs hp hw => ?_)
    obtain ⟨rfl, hMe⟩ := hp
    rw [hMe] at hw
    refine W.eq (g2 := F0 m 47 ls [.int (iI (4 * k + 2)), .ref o, .int (iI ((zmk lb (lb (4 * k)) (lb (4 * k + zuo (sg k)))) (4 * k + zup (sg k)))), .ref o]) rfl ?_
    refine zq_callV (As := [.int (iI (4 * k + 2))]) (rest := [.int (iI ((zmk lb (lb (4 * k)) (lb (4 * k + zuo (sg k)))) (4 * k + zup (sg k)))), .ref o]) ⟨hx, hb, hml, hown, hts⟩ (c_CR_labelAt l D K M7 o sA lA cnt sg (zmk lb (lb (4 * k)) (lb (4 * k + zuo (sg k)))) (4 * k + 2) h_o h_s h_l hC1 ⟨by omega, by omega⟩) (cwV 1 hts (zg_V tw_555 tw_248 tw_249 tw_2 tw_250) rfl rfl rfl (by decide +kernel) ⟨Nat.le_of_ble_eq_true rfl, Nat.le_of_ble_eq_true rfl⟩) hZ hw hA h_o rfl rfl rfl rfl hl.1 (Nat.le_of_ble_eq_true rfl) d_CR_joinStrands_47 ⟨Nat.le_of_ble_eq_true rfl, Nat.le_of_ble_eq_true rfl⟩ (fun v M11 H locs hp hw => ?_)
    obtain ⟨rfl, hMe⟩ := hp
    rw [hMe] at hw
    refine W.eq (g2 := F0 m 50 ls [.int (iI ((zmk lb (lb (4 * k)) (lb (4 * k + zuo (sg k)))) (4 * k + 2))), .int (iI ((zmk lb (lb (4 * k)) (lb (4 * k + zuo (sg k)))) (4 * k + zup (sg k)))), .ref o]) rfl ?_
    refine zq_callV (As := [.int (iI ((zmk lb (lb (4 * k)) (lb (4 * k + zuo (sg k)))) (4 * k + zup (sg k)))), .int (iI ((zmk lb (lb (4 * k)) (lb (4 * k + zuo (sg k)))) (4 * k + 2)))]) (rest := []) ⟨hx, hb, hml, hown, hts⟩ (c_CR_makeOne l D K M7 o sA lA cnt sg (zmk lb (lb (4 * k)) (lb (4 * k + zuo (sg k)))) ((zmk lb (lb (4 * k)) (lb (4 * k + zuo (sg k)))) (4 * k + zup (sg k))) ((zmk lb (lb (4 * k)) (lb (4 * k + zuo (sg k)))) (4 * k + 2)) h_o h_s h_l hC1 (hC1.2.2.2 _) (hC1.2.2.2 _)) (cwV 2 hts (zg_V tw_570 tw_572 ts_24 tw_2 tw_573) rfl rfl rfl (by decide +kernel) ⟨Nat.le_of_ble_eq_true rfl, Nat.le_of_ble_eq_true rfl⟩) hZ hw hA h_o rfl rfl rfl rfl hl.1 (Nat.le_of_ble_eq_true rfl) d_CR_joinStrands_50 ⟨Nat.le_of_ble_eq_true rfl, Nat.le_of_ble_eq_true rfl⟩ (fun v M12 H locs hp hw => ?_)
    obtain ⟨rfl, hs1, ho⟩ := hp
    have h_o : M12 o = some (.inr (2, [.ref sA, .ref lA, .int (iI cnt)])) := (ho _ (zq_ne h_o h_l (by simp))).trans h_o
    have h_s : M12 sA = some (cI (K 0) 12 sg) := (ho _ (zq_ne h_s h_l (by simp))).trans h_s
    have h_l : M12 lA = some (cI (K 0) 48 (zmk (zmk lb (lb (4 * k)) (lb (4 * k + zuo (sg k)))) ((zmk lb (lb (4 * k)) (lb (4 * k + zuo (sg k)))) (4 * k + zup (sg k))) ((zmk lb (lb (4 * k)) (lb (4 * k + zuo (sg k)))) (4 * k + 2)))) := hs1
    have hfr : ∀ q, q ≠ o → q ≠ sA → q ≠ lA → M12 q = M q := fun q g0 g1 g2 => (ho q g2).trans (hfr q g0 g1 g2)
    refine W.eq (g2 := F0 m 53 ls []) rfl ?_
    have hC2 := zmk_C hC1 (hC1.2.2.2 (4 * k + zup (sg k))) (hC1.2.2.2 (4 * k + 2))
    refine lv_aload_n hx hb d_CR_joinStrands_53 rfl (lv_at hl 0 rfl) ?_
    refine lv_iload_n hx hb d_CR_joinStrands_54 rfl (lv_at hl 1 rfl) ?_
    refine zq_callV (As := [.int (iI k)]) (rest := []) ⟨hx, hb, hml, hown, hts⟩ (c_CR_remove l D K M12 o sA lA cnt sg (zmk (zmk lb (lb (4 * k)) (lb (4 * k + zuo (sg k)))) ((zmk lb (lb (4 * k)) (lb (4 * k + zuo (sg k)))) (4 * k + zup (sg k))) ((zmk lb (lb (4 * k)) (lb (4 * k + zuo (sg k)))) (4 * k + 2))) k h_o h_s h_l hC2 ⟨by omega, by omega⟩) (cwV 1 hts (zg_V tw_576 tw_578 ts_25 tw_2 tw_579) rfl rfl rfl (by decide +kernel) ⟨Nat.le_of_ble_eq_true rfl, Nat.le_of_ble_eq_true rfl⟩) hZ hw hA h_o rfl rfl rfl rfl hl.1 (Nat.le_of_ble_eq_true rfl) d_CR_joinStrands_55 ⟨Nat.le_of_ble_eq_true rfl, Nat.le_of_ble_eq_true rfl⟩ (fun v M13 H locs hp hw => ?_)
    obtain ⟨rfl, hs1, hs2, hs3, ho⟩ := hp
    have h_o : M13 o = some (.inr (2, [.ref sA, .ref lA, .int (iI (cnt - 1))])) := hs1
    have h_s : M13 sA = some (cI (K 0) 12 (zrs sg cnt k)) := hs2
    have h_l : M13 lA = some (cI (K 0) 48 (zrl (zmk (zmk lb (lb (4 * k)) (lb (4 * k + zuo (sg k)))) ((zmk lb (lb (4 * k)) (lb (4 * k + zuo (sg k)))) (4 * k + zup (sg k))) ((zmk lb (lb (4 * k)) (lb (4 * k + zuo (sg k)))) (4 * k + 2))) cnt k)) := hs3
    have hfr : ∀ q, q ≠ o → q ≠ sA → q ≠ lA → M13 q = M q := fun q g0 g1 g2 => (ho q g0 g1 g2).trans (hfr q g0 g1 g2)
    refine W.eq (g2 := F0 m 58 ls []) rfl ?_
    exact zq_vret hx hb hr hlocks hZ hw ⟨rfl, h_o, h_s, h_l, hfr⟩ d_CR_joinStrands_58
  · exact absurd hc2 (by rw [if_pos (by omega)]; decide)
abbrev P_CR_init (K : Nat → ClassId) (M : zq_M) (o : Nat) : Option Value → zq_M → Prop := fun v M' => v = none ∧ ∃ sA lA, M sA = none ∧ M lA = none ∧ M' o = some (.inr (2, [.ref sA, .ref lA, .int (iI 0)])) ∧ M' sA = some (cI (K 0) 12 (fun _ => 0)) ∧ M' lA = some (cI (K 0) 48 (fun _ => 0)) ∧ ∀ q, q ≠ o → q ≠ sA → q ≠ lA → M' q = M q
set_option maxHeartbeats 4000000 in
set_option maxRecDepth 100000 in
theorem c_CR_init (l : Launch) (D : va_G) (K : Nat → ClassId) (M : zq_M) (o : Nat) (h_o : M o = some (.inr (2, [.null, .null, .int (iI 0)]))) : zq_Met l y_CR_init (.code y_CR_init b_CR_init 1 none :: lw_gd) { frames := 1, cells := 2, slots := 60, locals := 12 } D vwCl (zT K) [.ref o] M (P_CR_init K M o) 2 60 := by
  refine zq_start (cc := b_CR_init) (maxL := 1) (ret := none) (by decide) rfl (Nat.le_of_ble_eq_true rfl) ?_
  intro p e s m below meth c A ls hx hb hr hml hts hown hnm hlocks hA hZ hw hl
  have hts : ∀ w ∈ lw_gd, w.before [.ref o].toArray s = true := fun w h => hts w (List.mem_cons_of_mem _ h)
  have hown : s.vm.findClass R_CR = some m.cls := hown
  have hK := hZ.1
  have hnm : meth.name = "<init>" := hnm
  have hl : lv_has ls 1 [(0, .ref o)] := hl
  have hfr : ∀ q, q ≠ o → M q = M q := fun q _ => rfl
  refine lv_aload_n hx hb d_CR_init_0 rfl (lv_at hl 0 rfl) ?_
  refine W.objInit hx hb hown (hts _ tw_27) (hts _ tw_20) (hts _ tw_21) rfl (by rw [hml]; exact hl.1) rfl d_CR_init_1 (Nat.le_of_ble_eq_true rfl) (Nat.le_of_ble_eq_true rfl) ?_
  refine W.eq (g2 := F0 m 4 ls []) rfl ?_
  refine lv_aload_n hx hb d_CR_init_4 rfl (lv_at hl 0 rfl) ?_
  refine lv_bipush (v := iI 12) hx hb d_CR_init_5 (by decide) ?_
  refine zq_newI hx hb (hts _ tw_38) hK hw hA 0 rfl (N' := 12) rfl (by decide) (Nat.le_of_ble_eq_true rfl) (Nat.le_of_ble_eq_true rfl) d_CR_init_7 (fun sA M1 H hqsA hs ho hw => ?_)
  have hmsA : M sA = none := (hfr sA (zq_nn hqsA h_o).symm).symm.trans hqsA
  have h_o : M1 o = some (.inr (2, [.null, .null, .int (iI 0)])) := (ho _ (zq_nn hqsA h_o)).trans h_o
  have h_sA : M1 sA = some (cI (K 0) 12 (fun _ => 0)) := hs
  have hfr : ∀ x, x ≠ o → x ≠ sA → M1 x = M x := fun x g0 g1 => (ho x g1).trans (hfr x g0)
  refine zq_putF (ci := 2) (v := .ref sA) (ty := .array .int) hx hb hts i_CR t_CR t_CR_ok n_CR hown hK hw h_o rfl 0 (by decide) (hts _ tw_28) rfl hnm rfl (by decide +kernel) rfl rfl (Nat.le_of_ble_eq_true rfl) d_CR_init_9 (fun M2 H locs hs ho hw => ?_)
  have h_sA : M2 sA = some (cI (K 0) 12 (fun _ => 0)) := (ho _ (zq_ne h_sA h_o (by simp))).trans h_sA
  have h_o : M2 o = some (.inr (2, [.ref sA, .null, .int (iI 0)])) := hs
  have hfr : ∀ q, q ≠ o → q ≠ sA → M2 q = M q := fun q g0 g1 => (ho q g0).trans (hfr q g0 g1)
  refine lv_aload_n hx hb d_CR_init_12 rfl (lv_at hl 0 rfl) ?_
  refine lv_bipush (v := iI 48) hx hb d_CR_init_13 (by decide) ?_
  refine zq_newI hx hb (hts _ tw_38) hK hw hA 0 rfl (N' := 48) rfl (by decide) (Nat.le_of_ble_eq_true rfl) (Nat.le_of_ble_eq_true rfl) d_CR_init_15 (fun lA M3 H hqlA hs ho hw => ?_)
  have hmlA : M lA = none := (hfr lA (zq_nn hqlA h_o).symm (zq_nn hqlA h_sA).symm).symm.trans hqlA
  have h_o : M3 o = some (.inr (2, [.ref sA, .null, .int (iI 0)])) := (ho _ (zq_nn hqlA h_o)).trans h_o
  have h_sA : M3 sA = some (cI (K 0) 12 (fun _ => 0)) := (ho _ (zq_nn hqlA h_sA)).trans h_sA
  have h_lA : M3 lA = some (cI (K 0) 48 (fun _ => 0)) := hs
  have hfr : ∀ x, x ≠ o → x ≠ sA → x ≠ lA → M3 x = M x := fun x g0 g1 g2 => (ho x g2).trans (hfr x g0 g1)
  refine zq_putF (ci := 2) (v := .ref lA) (ty := .array .int) hx hb hts i_CR t_CR t_CR_ok n_CR hown hK hw h_o rfl 1 (by decide) (hts _ tw_29) rfl hnm rfl (by decide +kernel) rfl rfl (Nat.le_of_ble_eq_true rfl) d_CR_init_17 (fun M4 H locs hs ho hw => ?_)
  have h_sA : M4 sA = some (cI (K 0) 12 (fun _ => 0)) := (ho _ (zq_ne h_sA h_o (by simp))).trans h_sA
  have h_lA : M4 lA = some (cI (K 0) 48 (fun _ => 0)) := (ho _ (zq_ne h_lA h_o (by simp))).trans h_lA
  have h_o : M4 o = some (.inr (2, [.ref sA, .ref lA, .int (iI 0)])) := hs
  have hfr : ∀ q, q ≠ o → q ≠ sA → q ≠ lA → M4 q = M q := fun q g0 g1 g2 => (ho q g0).trans (hfr q g0 g1 g2)
  refine lv_aload_n hx hb d_CR_init_20 rfl (lv_at hl 0 rfl) ?_
  refine lv_iconst (v := iI 0) hx hb d_CR_init_21 rfl ?_
  refine zq_put (ci := 2) (v := .int (iI 0)) (ty := .int) hx hb hts i_CR t_CR t_CR_ok n_CR hown hK hw h_o rfl 2 (by decide) (hts _ tw_30) rfl (by decide +kernel) rfl rfl (Nat.le_of_ble_eq_true rfl) d_CR_init_22 (fun M5 H locs hs ho hw => ?_)
  have h_sA : M5 sA = some (cI (K 0) 12 (fun _ => 0)) := (ho _ (zq_ne h_sA h_o (by simp))).trans h_sA
  have h_lA : M5 lA = some (cI (K 0) 48 (fun _ => 0)) := (ho _ (zq_ne h_lA h_o (by simp))).trans h_lA
  have h_o : M5 o = some (.inr (2, [.ref sA, .ref lA, .int (iI 0)])) := hs
  have hfr : ∀ q, q ≠ o → q ≠ sA → q ≠ lA → M5 q = M q := fun q g0 g1 g2 => (ho q g0).trans (hfr q g0 g1 g2)
  exact zq_vret hx hb hr hlocks hZ hw ⟨rfl, sA, lA, hmsA, hmlA, h_o, h_sA, h_lA, hfr⟩ d_CR_init_25
