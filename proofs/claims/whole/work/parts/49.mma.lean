abbrev P_MM_arcOf (K : Nat → ClassId) (M : zq_M) (o : Nat) (bd : Nat → Nat) (th : Int) (put : Int) (wr : Int) (nn : Int) (cir : Int) (oN : Int) (oC : Int) (lbs : Int) (fcs : Int) (arcs : Int) (mns : Int) (kn : Int) (sg : Int → Int) (lb : Int → Int) (y : Int) : Option Value → zq_M → Prop := fun v M' => ∃ r, v = some (.int (iI r)) ∧ zAo lb (4 * nn) y r ∧ M' = M
set_option maxHeartbeats 4000000 in
set_option maxRecDepth 100000 in
theorem c_MM_arcOf (l : Launch) (D : va_G) (K : Nat → ClassId) (M : zq_M) (o : Nat) (bd : Nat → Nat) (th : Int) (put : Int) (wr : Int) (nn : Int) (cir : Int) (oN : Int) (oC : Int) (lbs : Int) (fcs : Int) (arcs : Int) (mns : Int) (kn : Int) (sg : Int → Int) (lb : Int → Int) (y : Int) (h_o : M o = some (.inr (9, [.int (iI th), .int (iI put), .int (iI wr), .ref (bd 0), .ref (bd 1), .int (iI nn), .int (iI cir), .int (iI oN), .int (iI oC), .ref (bd 2), .ref (bd 3), .ref (bd 4), .ref (bd 5), .int (iI lbs), .ref (bd 6), .ref (bd 7), .ref (bd 8), .int (iI fcs), .ref (bd 9), .int (iI arcs), .ref (bd 10), .ref (bd 11), .ref (bd 12), .ref (bd 13), .int (iI mns), .ref (bd 14), .ref (bd 15), .ref (bd 16), .int (iI kn), .ref (bd 17)]))) (hbd : ∀ i j, i < 18 → j < 18 → bd i = bd j → i = j) (h_sg : M (bd 2) = some (cI (K 0) 12 sg)) (h_lb : M (bd 3) = some (cI (K 0) 48 lb)) (hsg : ∀ j, inI (sg j)) (hlb : ∀ j, inI (lb j)) (hnn : 0 ≤ nn ∧ nn ≤ 12) (hgd : zGd sg lb (4 * nn)) (hyl : ∃ x, 0 ≤ x ∧ x < 4 * nn ∧ lb x = y) : zq_Met l y_MM_arcOf (.code y_MM_arcOf b_MM_arcOf 6 (some .int) :: lw_gd) { frames := 3, cells := 0, slots := 0, locals := 67 } D vwCl (zT K) [.ref o, .int (iI y)] M (P_MM_arcOf K M o bd th put wr nn cir oN oC lbs fcs arcs mns kn sg lb y) 0 0 := by
  refine zq_start (cc := b_MM_arcOf) (maxL := 6) (ret := (some .int)) (by decide) rfl (Nat.le_of_ble_eq_true rfl) ?_
  intro p e s m below meth co A ls hx hb hr hml hts hown hnm hlocks hA hZ hw hl
  have hts : ∀ w ∈ lw_gd, w.before [.ref o, .int (iI y)].toArray s = true := fun w h => hts w (List.mem_cons_of_mem _ h)
  have hown : s.vm.findClass R_MM = some m.cls := hown
  have hK := hZ.1
  have hl : lv_has ls 6 [(0, .ref o), (1, .int (iI y))] := hl
  obtain ⟨p0, p01, p02, hy0, hp0k⟩ : ∃ z, 0 ≤ z ∧ z < 4 * nn ∧ lb z = y ∧ zki sg z = 1 := zGd_e hgd hyl
  have hp0r : 0 ≤ p0 ∧ p0 < 4 * nn := ⟨p01, p02⟩
  have hB : ∀ (n : Nat) (fst : Int) (mo : Int) (pp : Int) (vs : Int → Int) (H : Heap) (locs : List Loc) (ls : Array Slot), (0 ≤ pp ∧ pp < 4 * nn) → (lb pp = fst) → (zki sg pp = 1) → ((mo = 1 ∧ pp % 2 = 1 ∧ zBk sg lb (4 * nn) p0 pp vs) ∨ (mo = 0 ∧ zBe sg lb (4 * nn) p0 pp vs)) → (2 * znv vs + mo).toNat < n → zq_W D vwCl A s.heap M H locs → lv_has ls 6 [(0, .ref o), (1, .int (iI y)), (2, .int (iI fst)), (3, .int (iI mo))] → W p l e ({ frames := 3, cells := 0, slots := 0, locals := 67 } : Room) s m [.ref o, .int (iI y)].toArray below meth co H locs 0 0 (MQ below (zq_Q D vwCl (zT K) (P_MM_arcOf K M o bd th put wr nn cir oN oC lbs fcs arcs mns kn sg lb y) A) [.ref o, .int (iI y)].toArray s 0 0 A) (F0 m 12 ls []) := by
    intro n
    induction n with
    | zero =>
      intro fst mo pp vs H locs ls hpr hpl hpk hmo hms hw hl
      exact absurd hms (Nat.not_lt_zero _)
    | succ n ih_hB =>
      intro fst mo pp vs H locs ls hpr hpl hpk hmo hms hw hl
      refine lv_iload_n hx hb d_MM_arcOf_12 rfl (lv_at hl 3 rfl) ?_
      refine zq_if_eq (tgt := 57) hx hb d_MM_arcOf_13 (by decide) ⟨by omega, by omega⟩ (fun hc1 => ?_) (fun hc1 => ?_)
      · have hBe := (hmo.resolve_left (fun q => by omega)).2
        obtain ⟨r0, r01, r02, r03, r04⟩ : ∃ z, 0 ≤ z ∧ z < 4 * nn ∧ lb z = lb pp ∧ zki sg z = 0 := zGd_e hgd ⟨pp, hpr.1, hpr.2, rfl⟩
        have hr0 : lb r0 = lb pp := r03
        have hF : ∀ (n : Nat) (le : Int) (k : Int) (rr : Int) (ws : Int → Int) (H : Heap) (locs : List Loc) (ls : Array Slot), (0 ≤ rr ∧ rr < 4 * nn) → (lb rr = k) → (zki sg rr = 0) → (zFw sg lb (4 * nn) r0 rr ws le) → (pp = p0 → zCi sg lb (4 * nn) p0 vs → zFc lb ws vs) → (znv ws).toNat < n → zq_W D vwCl A s.heap M H locs → lv_has ls 6 [(0, .ref o), (1, .int (iI y)), (2, .int (iI fst)), (4, .int (iI le)), (5, .int (iI k))] → W p l e ({ frames := 3, cells := 0, slots := 0, locals := 67 } : Room) s m [.ref o, .int (iI y)].toArray below meth co H locs 0 0 (MQ below (zq_Q D vwCl (zT K) (P_MM_arcOf K M o bd th put wr nn cir oN oC lbs fcs arcs mns kn sg lb y) A) [.ref o, .int (iI y)].toArray s 0 0 A) (F0 m 63 ls []) := by
          intro n
          induction n with
          | zero =>
            intro le k rr ws H locs ls hrr hrl hrk hFw hFc hms hw hl
            exact absurd hms (Nat.not_lt_zero _)
          | succ n ih_hF =>
            intro le k rr ws H locs ls hrr hrl hrk hFw hFc hms hw hl
            refine lv_aload_n hx hb d_MM_arcOf_63 rfl (lv_at hl 0 rfl) ?_
            refine lv_iload hx hb d_MM_arcOf_64 (lv_at hl 4 rfl) ?_
            refine lv_iconst (v := iI 0) hx hb d_MM_arcOf_66 rfl ?_
            refine zq_callV (As := [.int (iI k), .int (iI 0)]) (rest := []) ⟨hx, hb, hml, hown, hts⟩ (c_MM_placeOf l D K M o bd th put wr nn cir oN oC lbs fcs arcs mns kn sg lb  k 0 h_o hbd h_sg h_lb hsg hlb hnn (by rw [← hrl]; exact hlb _) (Or.inl rfl)) (cwV 2 hts (zg_V tw_701 tw_703 ts_30 tw_10 tw_704) rfl rfl rfl (by decide +kernel) ⟨Nat.le_of_ble_eq_true rfl, Nat.le_of_ble_eq_true rfl⟩) hZ hw hA h_o rfl rfl rfl rfl hl.1 (Nat.le_of_ble_eq_true rfl) d_MM_arcOf_67 ⟨Nat.le_of_ble_eq_true rfl, Nat.le_of_ble_eq_true rfl⟩ (fun v M3 H locs hp hw => ?_)
            obtain ⟨rp2, rfl, hPrp2, hMe⟩ := hp
            rw [hMe] at hw
            refine W.eq (g2 := F0 m 70 ls [.int (iI rp2)]) rfl ?_
            have hLrp2 := zPl_lt hPrp2
            have hrp2 : rp2 = rr := zGd_pl hgd hPrp2 hrr hrl hrk
            rw [hrp2]
            refine zq_callS (b := 0) (C := "") (As := [.int (iI rr)]) (rest := []) ⟨hx, hb, hml, hown, hts⟩ (c_MM_isUpper l D K M    rr  ⟨by omega, by omega⟩) (va_cwS 1 hts (zg_T tw_757 tw_758 tw_10 tw_759) rfl rfl rfl (by decide +kernel) ⟨Nat.le_of_ble_eq_true rfl, Nat.le_of_ble_eq_true rfl⟩) hZ hw hA rfl rfl hl.1 (Nat.le_of_ble_eq_true rfl) d_MM_arcOf_70 ⟨Nat.le_of_ble_eq_true rfl, Nat.le_of_ble_eq_true rfl⟩ (fun v M4 H locs hp hw => ?_)
            obtain ⟨rfl, hMe⟩ := hp
            rw [hMe] at hw
            refine W.eq (g2 := F0 m 73 ls [.int (iI (if rr % 2 = 1 then 1 else 0))]) rfl ?_
            refine zq_if_eq (tgt := 113) hx hb d_MM_arcOf_73 (by decide) (by split <;> decide) (fun hc5 => ?_) (fun hc5 => ?_)
            · have hup : ¬ rr % 2 = 1 := fun z => by rw [if_pos z] at hc5; exact absurd hc5 (by decide)
              refine lv_iload hx hb d_MM_arcOf_113 (lv_at hl 3 rfl) ?_
              exact zq_iret hx hb hr hlocks hZ hw ⟨le, rfl, zAo_of (by omega) hgd hy0 hBe hFc hFw hr0 hpk hpr (Or.inl (by omega)), rfl⟩ d_MM_arcOf_115
            · have hup : rr % 2 = 1 := Decidable.byContradiction fun z => hc5 (if_neg z)
              refine lv_aload_n hx hb d_MM_arcOf_76 rfl (lv_at hl 0 rfl) ?_
              refine lv_iload hx hb d_MM_arcOf_77 (lv_at hl 4 rfl) ?_
              refine zq_callV (As := [.int (iI k)]) (rest := []) ⟨hx, hb, hml, hown, hts⟩ (c_MM_next l D K M o bd th put wr nn cir oN oC lbs fcs arcs mns kn sg lb  k h_o hbd h_sg h_lb hsg hlb hnn ⟨by have := hlb rr; omega, by have := hlb rr; omega⟩ ⟨rr, hrr.1, hrr.2, hrl, fun q => by have h9 : zki sg rr = 1 := if_pos q; omega⟩) (cwV 1 hts (zg_V tw_763 tw_765 ts_43 tw_10 tw_766) rfl rfl rfl (by decide +kernel) ⟨Nat.le_of_ble_eq_true rfl, Nat.le_of_ble_eq_true rfl⟩) hZ hw hA h_o rfl rfl rfl rfl hl.1 (Nat.le_of_ble_eq_true rfl) d_MM_arcOf_79 ⟨Nat.le_of_ble_eq_true rfl, Nat.le_of_ble_eq_true rfl⟩ (fun v M7 H locs hp hw => ?_)
              obtain ⟨rn6, rfl, hPrn6, hQrn6, hMe⟩ := hp
              rw [hMe] at hw
              refine W.eq (g2 := F0 m 82 ls [.int (iI (lb (zac rn6)))]) rfl ?_
              have hrn6 : rn6 = rr := zGd_pl hgd hPrn6 hrr hrl hrk
              rw [hrn6]
              refine lv_iload_n hx hb d_MM_arcOf_82 rfl (lv_at hl 2 rfl) ?_
              refine zq_icmp_eq (tgt := 113) hx hb d_MM_arcOf_83 (by decide) (hlb _) (by rw [← hpl]; exact hlb _) (fun hc8 => ?_) (fun hc8 => ?_)
              · skip
                refine lv_iload hx hb d_MM_arcOf_113 (lv_at hl 3 rfl) ?_
                exact zq_iret hx hb hr hlocks hZ hw ⟨le, rfl, zAo_of (by omega) hgd hy0 hBe hFc hFw hr0 hpk hpr (Or.inr (by omega)), rfl⟩ d_MM_arcOf_115
              · refine lv_aload_n hx hb d_MM_arcOf_86 rfl (lv_at hl 0 rfl) ?_
                refine lv_iload hx hb d_MM_arcOf_87 (lv_at hl 4 rfl) ?_
                refine zq_callV (As := [.int (iI k)]) (rest := []) ⟨hx, hb, hml, hown, hts⟩ (c_MM_next l D K M o bd th put wr nn cir oN oC lbs fcs arcs mns kn sg lb  k h_o hbd h_sg h_lb hsg hlb hnn ⟨by have := hlb rr; omega, by have := hlb rr; omega⟩ ⟨rr, hrr.1, hrr.2, hrl, fun q => by have h9 : zki sg rr = 1 := if_pos q; omega⟩) (cwV 1 hts (zg_V tw_763 tw_765 ts_43 tw_10 tw_766) rfl rfl rfl (by decide +kernel) ⟨Nat.le_of_ble_eq_true rfl, Nat.le_of_ble_eq_true rfl⟩) hZ hw hA h_o rfl rfl rfl rfl hl.1 (Nat.le_of_ble_eq_true rfl) d_MM_arcOf_89 ⟨Nat.le_of_ble_eq_true rfl, Nat.le_of_ble_eq_true rfl⟩ (fun v M10 H locs hp hw => ?_)
                obtain ⟨rn9, rfl, hPrn9, hQrn9, hMe⟩ := hp
                rw [hMe] at hw
                refine W.eq (g2 := F0 m 92 ls [.int (iI (lb (zac rn9)))]) rfl ?_
                have hrn9 : rn9 = rr := zGd_pl hgd hPrn9 hrr hrl hrk
                rw [hrn9]
                refine lv_istore (lv' := [(5, .int (iI (lb (zac rr)))), (0, .ref o), (1, .int (iI y)), (2, .int (iI fst)), (4, .int (iI le))]) hx hb d_MM_arcOf_92 hl (by decide) rfl (fun ls hl => ?_)
                refine lv_iload hx hb d_MM_arcOf_94 (lv_at hl 0 rfl) ?_
                refine lv_iload hx hb d_MM_arcOf_96 (lv_at hl 4 rfl) ?_
                refine zq_icmp_ge (tgt := 106) hx hb d_MM_arcOf_98 (by decide) (hlb _) (by obtain ⟨x, _, e9⟩ := hFw.2.2.2.2.2.2.2; rw [← e9]; exact hlb x) (fun hc11 => ?_) (fun hc11 => ?_)
                · have hac := zac_in (by omega) hrr
                  obtain ⟨rn, rn1, rn2, rn3, rn4⟩ : ∃ z, 0 ≤ z ∧ z < 4 * nn ∧ lb z = lb (zac rr) ∧ zki sg z = 0 := zGd_e hgd ⟨zac rr, hac.1, hac.2, rfl⟩
                  have hne : rn ≠ r0 := fun e => by rw [e, hr0, hpl] at rn3; omega
                  have hsF := zFw_step (le' := le) (by omega) hgd hFw hup ⟨rn1, rn2⟩ rn3 rn4 hne (Or.inl ⟨rfl, by omega⟩)
                  have hsr : 0 ≤ rn ∧ rn < 4 * nn := ⟨rn1, rn2⟩
                  have hsl := rn3
                  have hsk := rn4
                  have hzl := znv_lt (k := rn) ⟨by omega, by omega⟩ hsF.2
                  have hz0 := znv_nn (zu ws rn 1)
                  have hsd : (znv (zu ws rn 1)).toNat < n := by omega
                  have hsc : pp = p0 → zCi sg lb (4 * nn) p0 vs → zFc lb (zu ws rn 1) vs := fun e1 hC x hx => by by_cases q : x = rn; rw [q, rn3]; exact (zFc_odd (by omega) hgd hC (hFc e1 hC) hFw.2.1.1 hrr hrk).2; rw [zu_ne _ _ q] at hx; exact hFc e1 hC x hx
                  refine lv_iload hx hb d_MM_arcOf_106 (lv_at hl 4 rfl) ?_
                  refine lv_istore (lv' := [(4, .int (iI le)), (5, .int (iI (lb (zac rr)))), (0, .ref o), (1, .int (iI y)), (2, .int (iI fst))]) hx hb d_MM_arcOf_108 hl (by decide) rfl (fun ls hl => ?_)
                  refine lv_goto (tgt := 63) hx hb d_MM_arcOf_110 (by decide) ?_
                  exact ih_hF le (lb (zac rr)) rn (zu ws rn 1) _ _ _ hsr hsl hsk hsF.1 hsc hsd hw (lv_sub hl [2, 3, 4, 0, 1] rfl)
                · have hac := zac_in (by omega) hrr
                  obtain ⟨rn, rn1, rn2, rn3, rn4⟩ : ∃ z, 0 ≤ z ∧ z < 4 * nn ∧ lb z = lb (zac rr) ∧ zki sg z = 0 := zGd_e hgd ⟨zac rr, hac.1, hac.2, rfl⟩
                  have hne : rn ≠ r0 := fun e => by rw [e, hr0, hpl] at rn3; omega
                  have hsF := zFw_step (le' := lb (zac rr)) (by omega) hgd hFw hup ⟨rn1, rn2⟩ rn3 rn4 hne (Or.inr ⟨rn3.symm, by omega⟩)
                  have hsr : 0 ≤ rn ∧ rn < 4 * nn := ⟨rn1, rn2⟩
                  have hsl := rn3
                  have hsk := rn4
                  have hzl := znv_lt (k := rn) ⟨by omega, by omega⟩ hsF.2
                  have hz0 := znv_nn (zu ws rn 1)
                  have hsd : (znv (zu ws rn 1)).toNat < n := by omega
                  have hsc : pp = p0 → zCi sg lb (4 * nn) p0 vs → zFc lb (zu ws rn 1) vs := fun e1 hC x hx => by by_cases q : x = rn; rw [q, rn3]; exact (zFc_odd (by omega) hgd hC (hFc e1 hC) hFw.2.1.1 hrr hrk).2; rw [zu_ne _ _ q] at hx; exact hFc e1 hC x hx
                  refine lv_iload hx hb d_MM_arcOf_101 (lv_at hl 0 rfl) ?_
                  refine lv_goto (tgt := 108) hx hb d_MM_arcOf_103 (by decide) ?_
                  refine lv_istore (lv' := [(4, .int (iI (lb (zac rr)))), (5, .int (iI (lb (zac rr)))), (0, .ref o), (1, .int (iI y)), (2, .int (iI fst))]) hx hb d_MM_arcOf_108 hl (by decide) rfl (fun ls hl => ?_)
                  refine lv_goto (tgt := 63) hx hb d_MM_arcOf_110 (by decide) ?_
                  exact ih_hF (lb (zac rr)) (lb (zac rr)) rn (zu ws rn 1) _ _ _ hsr hsl hsk hsF.1 hsc hsd hw (lv_sub hl [2, 3, 4, 0, 1] rfl)
        have hsr : 0 ≤ r0 ∧ r0 < 4 * nn := ⟨r01, r02⟩
        have hsl : lb r0 = fst := r03.trans hpl
        have hsk := r04
        have hsF : zFw sg lb (4 * nn) r0 r0 (zu (fun _ => 0) r0 1) fst := by rw [← hsl]; exact zFw_0 hsr r04
        have hsc : pp = p0 → zCi sg lb (4 * nn) p0 vs → zFc lb (zu (fun _ => 0) r0 1) vs := fun e1 hC x hx => by by_cases q : x = r0; exact ⟨p0, hC.2.1, by rw [q, hr0, e1]⟩; rw [zu_ne _ _ q] at hx; omega
        refine lv_iload_n hx hb d_MM_arcOf_57 rfl (lv_at hl 2 rfl) ?_
        refine lv_istore (lv' := [(4, .int (iI fst)), (0, .ref o), (1, .int (iI y)), (2, .int (iI fst)), (3, .int (iI mo))]) hx hb d_MM_arcOf_58 hl (by decide) rfl (fun ls hl => ?_)
        refine lv_iload_n hx hb d_MM_arcOf_60 rfl (lv_at hl 3 rfl) ?_
        refine lv_istore (lv' := [(5, .int (iI fst)), (4, .int (iI fst)), (0, .ref o), (1, .int (iI y)), (2, .int (iI fst)), (3, .int (iI mo))]) hx hb d_MM_arcOf_61 hl (by decide) rfl (fun ls hl => ?_)
        exact hF _ fst fst r0 (zu (fun _ => 0) r0 1) _ _ _ hsr hsl hsk hsF hsc (Nat.lt_succ_self _) hw (lv_sub hl [2, 3, 4, 1, 0] rfl)
      · refine lv_aload_n hx hb d_MM_arcOf_16 rfl (lv_at hl 0 rfl) ?_
        refine zq_get hx hb hts i_MM hown hK hw h_o rfl 10 (by decide) (hts _ tw_596) rfl d_MM_arcOf_17 ?_
        refine lv_aload_n hx hb d_MM_arcOf_20 rfl (lv_at hl 0 rfl) ?_
        refine lv_iload_n hx hb d_MM_arcOf_21 rfl (lv_at hl 2 rfl) ?_
        refine lv_iconst (v := iI 1) hx hb d_MM_arcOf_22 rfl ?_
        refine zq_callV (As := [.int (iI fst), .int (iI 1)]) (rest := [.ref (bd 3)]) ⟨hx, hb, hml, hown, hts⟩ (c_MM_placeOf l D K M o bd th put wr nn cir oN oC lbs fcs arcs mns kn sg lb  fst 1 h_o hbd h_sg h_lb hsg hlb hnn (by rw [← hpl]; exact hlb _) (Or.inr rfl)) (cwV 2 hts (zg_V tw_701 tw_703 ts_30 tw_10 tw_704) rfl rfl rfl (by decide +kernel) ⟨Nat.le_of_ble_eq_true rfl, Nat.le_of_ble_eq_true rfl⟩) hZ hw hA h_o rfl rfl rfl rfl hl.1 (Nat.le_of_ble_eq_true rfl) d_MM_arcOf_23 ⟨Nat.le_of_ble_eq_true rfl, Nat.le_of_ble_eq_true rfl⟩ (fun v M13 H locs hp hw => ?_)
        obtain ⟨rp12, rfl, hPrp12, hMe⟩ := hp
        rw [hMe] at hw
        refine W.eq (g2 := F0 m 26 ls [.int (iI rp12), .ref (bd 3)]) rfl ?_
        have hLrp12 := zPl_lt hPrp12
        have hrp12 : rp12 = pp := zGd_pl hgd hPrp12 hpr hpl hpk
        rw [hrp12]
        refine zq_callS (b := 0) (C := "") (As := [.int (iI pp)]) (rest := [.ref (bd 3)]) ⟨hx, hb, hml, hown, hts⟩ (c_MM_across l D K M    pp  ⟨by omega, by omega⟩) (va_cwS 1 hts (zg_T tw_760 tw_761 tw_10 tw_762) rfl rfl rfl (by decide +kernel) ⟨Nat.le_of_ble_eq_true rfl, Nat.le_of_ble_eq_true rfl⟩) hZ hw hA rfl rfl hl.1 (Nat.le_of_ble_eq_true rfl) d_MM_arcOf_26 ⟨Nat.le_of_ble_eq_true rfl, Nat.le_of_ble_eq_true rfl⟩ (fun v M14 H locs hp hw => ?_)
        obtain ⟨rfl, hMe⟩ := hp
        rw [hMe] at hw
        refine W.eq (g2 := F0 m 29 ls [.int (iI (zac pp)), .ref (bd 3)]) rfl ?_
        refine zq_iald hx hb hK hw 0 h_lb rfl (zac_in (P := 48) (by decide) ⟨by omega, by omega⟩).1 (zac_in (P := 48) (by decide) ⟨by omega, by omega⟩).2 (by decide) d_MM_arcOf_29 ?_
        have hB1 := (hmo.resolve_right (fun q => by omega)).2
        have hac := zac_in (by omega) hpr
        have hak := zki_ac sg pp
        obtain ⟨pn, pn1, pn2, pn3, pn4⟩ : ∃ z, 0 ≤ z ∧ z < 4 * nn ∧ lb z = lb (zac pp) ∧ zki sg z = 1 := zGd_e hgd ⟨zac pp, hac.1, hac.2, rfl⟩
        refine lv_istore_n (lv' := [(2, .int (iI (lb (zac pp)))), (0, .ref o), (1, .int (iI y)), (3, .int (iI mo))]) hx hb d_MM_arcOf_30 rfl hl (by decide) rfl (fun ls hl => ?_)
        refine lv_iload_n hx hb d_MM_arcOf_31 rfl (lv_at hl 0 rfl) ?_
        refine lv_iload_n hx hb d_MM_arcOf_32 rfl (lv_at hl 2 rfl) ?_
        refine zq_icmp_eq (tgt := 52) hx hb d_MM_arcOf_33 (by decide) (hlb _) (by rw [← hy0]; exact hlb _) (fun hc15 => ?_) (fun hc15 => ?_)
        · skip
          have hcl : lb (zac pp) = y := by omega
          have hnr : 0 ≤ p0 ∧ p0 < 4 * nn := hp0r
          have hnl : lb p0 = lb (zac pp) := by rw [hy0, hcl]
          have hnk : zki sg p0 = 1 := hp0k
          have hnm : ((0 : Int) = 1 ∧ p0 % 2 = 1 ∧ zBk sg lb (4 * nn) p0 p0 vs) ∨ ((0 : Int) = 0 ∧ zBe sg lb (4 * nn) p0 p0 vs) := Or.inr ⟨rfl, Or.inr ⟨rfl, zBk_circle hB1.2 hB1.1 hnl⟩⟩
          have hz0 := znv_nn vs
          have hmo1 : mo = 1 := by omega
          have hnd : (2 * znv vs + 0).toNat < n := by omega
          refine lv_iconst (v := iI 0) hx hb d_MM_arcOf_52 rfl ?_
          refine lv_istore_n (lv' := [(3, .int (iI 0)), (2, .int (iI (lb (zac pp)))), (0, .ref o), (1, .int (iI y))]) hx hb d_MM_arcOf_53 rfl hl (by decide) rfl (fun ls hl => ?_)
          refine lv_goto (tgt := 12) hx hb d_MM_arcOf_54 (by decide) ?_
          exact ih_hB (lb (zac pp)) 0 p0 vs _ _ _ hnr hnl hnk hnm hnd hw (lv_sub hl [2, 3, 1, 0] rfl)
        · skip
          refine lv_aload_n hx hb d_MM_arcOf_36 rfl (lv_at hl 1 rfl) ?_
          refine lv_iload_n hx hb d_MM_arcOf_37 rfl (lv_at hl 0 rfl) ?_
          refine lv_iconst (v := iI 1) hx hb d_MM_arcOf_38 rfl ?_
          refine zq_callV (As := [.int (iI (lb (zac pp))), .int (iI 1)]) (rest := []) ⟨hx, hb, hml, hown, hts⟩ (c_MM_placeOf l D K M o bd th put wr nn cir oN oC lbs fcs arcs mns kn sg lb  (lb (zac pp)) 1 h_o hbd h_sg h_lb hsg hlb hnn (hlb _) (Or.inr rfl)) (cwV 2 hts (zg_V tw_701 tw_703 ts_30 tw_10 tw_704) rfl rfl rfl (by decide +kernel) ⟨Nat.le_of_ble_eq_true rfl, Nat.le_of_ble_eq_true rfl⟩) hZ hw hA h_o rfl rfl rfl rfl hl.1 (Nat.le_of_ble_eq_true rfl) d_MM_arcOf_39 ⟨Nat.le_of_ble_eq_true rfl, Nat.le_of_ble_eq_true rfl⟩ (fun v M17 H locs hp hw => ?_)
          obtain ⟨rp16, rfl, hPrp16, hMe⟩ := hp
          rw [hMe] at hw
          refine W.eq (g2 := F0 m 42 ls [.int (iI rp16)]) rfl ?_
          have hLrp16 := zPl_lt hPrp16
          have hrp16 : rp16 = pn := zGd_pl hgd hPrp16 ⟨pn1, pn2⟩ pn3 pn4
          rw [hrp16]
          refine zq_callS (b := 0) (C := "") (As := [.int (iI pn)]) (rest := []) ⟨hx, hb, hml, hown, hts⟩ (c_MM_isUpper l D K M    pn  ⟨by omega, by omega⟩) (va_cwS 1 hts (zg_T tw_757 tw_758 tw_10 tw_759) rfl rfl rfl (by decide +kernel) ⟨Nat.le_of_ble_eq_true rfl, Nat.le_of_ble_eq_true rfl⟩) hZ hw hA rfl rfl hl.1 (Nat.le_of_ble_eq_true rfl) d_MM_arcOf_42 ⟨Nat.le_of_ble_eq_true rfl, Nat.le_of_ble_eq_true rfl⟩ (fun v M18 H locs hp hw => ?_)
          obtain ⟨rfl, hMe⟩ := hp
          rw [hMe] at hw
          refine W.eq (g2 := F0 m 45 ls [.int (iI (if pn % 2 = 1 then 1 else 0))]) rfl ?_
          refine zq_if_eq (tgt := 52) hx hb d_MM_arcOf_45 (by decide) (by split <;> decide) (fun hc19 => ?_) (fun hc19 => ?_)
          · have hup : ¬ pn % 2 = 1 := fun z => by rw [if_pos z] at hc19; exact absurd hc19 (by decide)
            have hne : pn ≠ p0 := fun e => by rw [e, hy0] at pn3; omega
            have hst := zBk_step (by omega) hgd hB1.2 hB1.1 ⟨pn1, pn2⟩ pn3 pn4 hne
            have hnr : 0 ≤ pn ∧ pn < 4 * nn := ⟨pn1, pn2⟩
            have hnl := pn3
            have hnk := pn4
            have hzl := znv_lt (k := pn) ⟨by omega, by omega⟩ hst.2
            have hz0 := znv_nn (zu vs pn 1)
            have hnm : ((0 : Int) = 1 ∧ pn % 2 = 1 ∧ zBk sg lb (4 * nn) p0 pn (zu vs pn 1)) ∨ ((0 : Int) = 0 ∧ zBe sg lb (4 * nn) p0 pn (zu vs pn 1)) := Or.inr ⟨rfl, Or.inl ⟨by omega, hst.1⟩⟩
            have hnd : (2 * znv (zu vs pn 1) + 0).toNat < n := by omega
            refine lv_iconst (v := iI 0) hx hb d_MM_arcOf_52 rfl ?_
            refine lv_istore_n (lv' := [(3, .int (iI 0)), (2, .int (iI (lb (zac pp)))), (0, .ref o), (1, .int (iI y))]) hx hb d_MM_arcOf_53 rfl hl (by decide) rfl (fun ls hl => ?_)
            refine lv_goto (tgt := 12) hx hb d_MM_arcOf_54 (by decide) ?_
            exact ih_hB (lb (zac pp)) 0 pn (zu vs pn 1) _ _ _ hnr hnl hnk hnm hnd hw (lv_sub hl [2, 3, 1, 0] rfl)
          · have hup : pn % 2 = 1 := Decidable.byContradiction fun z => hc19 (if_neg z)
            have hne : pn ≠ p0 := fun e => by rw [e, hy0] at pn3; omega
            have hst := zBk_step (by omega) hgd hB1.2 hB1.1 ⟨pn1, pn2⟩ pn3 pn4 hne
            have hnr : 0 ≤ pn ∧ pn < 4 * nn := ⟨pn1, pn2⟩
            have hnl := pn3
            have hnk := pn4
            have hzl := znv_lt (k := pn) ⟨by omega, by omega⟩ hst.2
            have hz0 := znv_nn (zu vs pn 1)
            have hnm : ((1 : Int) = 1 ∧ pn % 2 = 1 ∧ zBk sg lb (4 * nn) p0 pn (zu vs pn 1)) ∨ ((1 : Int) = 0 ∧ zBe sg lb (4 * nn) p0 pn (zu vs pn 1)) := Or.inl ⟨rfl, hup, hst.1⟩
            have hnd : (2 * znv (zu vs pn 1) + 1).toNat < n := by omega
            refine lv_iconst (v := iI 1) hx hb d_MM_arcOf_48 rfl ?_
            refine lv_goto (tgt := 53) hx hb d_MM_arcOf_49 (by decide) ?_
            refine lv_istore_n (lv' := [(3, .int (iI 1)), (2, .int (iI (lb (zac pp)))), (0, .ref o), (1, .int (iI y))]) hx hb d_MM_arcOf_53 rfl hl (by decide) rfl (fun ls hl => ?_)
            refine lv_goto (tgt := 12) hx hb d_MM_arcOf_54 (by decide) ?_
            exact ih_hB (lb (zac pp)) 1 pn (zu vs pn 1) _ _ _ hnr hnl hnk hnm hnd hw (lv_sub hl [2, 3, 1, 0] rfl)
  refine lv_iload_n hx hb d_MM_arcOf_0 rfl (lv_at hl 1 rfl) ?_
  refine lv_istore_n (lv' := [(2, .int (iI y)), (0, .ref o), (1, .int (iI y))]) hx hb d_MM_arcOf_1 rfl hl (by decide) rfl (fun ls hl => ?_)
  refine lv_aload_n hx hb d_MM_arcOf_2 rfl (lv_at hl 1 rfl) ?_
  refine lv_iload_n hx hb d_MM_arcOf_3 rfl (lv_at hl 0 rfl) ?_
  refine lv_iconst (v := iI 1) hx hb d_MM_arcOf_4 rfl ?_
  refine zq_callV (As := [.int (iI y), .int (iI 1)]) (rest := []) ⟨hx, hb, hml, hown, hts⟩ (c_MM_placeOf l D K M o bd th put wr nn cir oN oC lbs fcs arcs mns kn sg lb  y 1 h_o hbd h_sg h_lb hsg hlb hnn (by rw [← hy0]; exact hlb _) (Or.inr rfl)) (cwV 2 hts (zg_V tw_701 tw_703 ts_30 tw_10 tw_704) rfl rfl rfl (by decide +kernel) ⟨Nat.le_of_ble_eq_true rfl, Nat.le_of_ble_eq_true rfl⟩) hZ hw hA h_o rfl rfl rfl rfl hl.1 (Nat.le_of_ble_eq_true rfl) d_MM_arcOf_5 ⟨Nat.le_of_ble_eq_true rfl, Nat.le_of_ble_eq_true rfl⟩ (fun v M21 H locs hp hw => ?_)
  obtain ⟨rp20, rfl, hPrp20, hMe⟩ := hp
  rw [hMe] at hw
  refine W.eq (g2 := F0 m 8 ls [.int (iI rp20)]) rfl ?_
  have hLrp20 := zPl_lt hPrp20
  have hrp20 : rp20 = p0 := zGd_pl hgd hPrp20 hp0r hy0 hp0k
  rw [hrp20]
  refine zq_callS (b := 0) (C := "") (As := [.int (iI p0)]) (rest := []) ⟨hx, hb, hml, hown, hts⟩ (c_MM_isUpper l D K M    p0  ⟨by omega, by omega⟩) (va_cwS 1 hts (zg_T tw_757 tw_758 tw_10 tw_759) rfl rfl rfl (by decide +kernel) ⟨Nat.le_of_ble_eq_true rfl, Nat.le_of_ble_eq_true rfl⟩) hZ hw hA rfl rfl hl.1 (Nat.le_of_ble_eq_true rfl) d_MM_arcOf_8 ⟨Nat.le_of_ble_eq_true rfl, Nat.le_of_ble_eq_true rfl⟩ (fun v M22 H locs hp hw => ?_)
  obtain ⟨rfl, hMe⟩ := hp
  rw [hMe] at hw
  refine W.eq (g2 := F0 m 11 ls [.int (iI (if p0 % 2 = 1 then 1 else 0))]) rfl ?_
  have hnr := hp0r
  have hnl := hy0
  have hnk := hp0k
  have hnm : ((if p0 % 2 = 1 then (1 : Int) else 0) = 1 ∧ p0 % 2 = 1 ∧ zBk sg lb (4 * nn) p0 p0 (zu (fun _ => 0) p0 1)) ∨ ((if p0 % 2 = 1 then (1 : Int) else 0) = 0 ∧ zBe sg lb (4 * nn) p0 p0 (zu (fun _ => 0) p0 1)) := by by_cases q : p0 % 2 = 1; exact Or.inl ⟨if_pos q, q, zBk_0 hp0r hp0k⟩; exact Or.inr ⟨if_neg q, Or.inl ⟨by omega, zBk_0 hp0r hp0k⟩⟩
  refine lv_istore_n (lv' := [(3, .int (iI (if p0 % 2 = 1 then 1 else 0))), (2, .int (iI y)), (0, .ref o), (1, .int (iI y))]) hx hb d_MM_arcOf_11 rfl hl (by decide) rfl (fun ls hl => ?_)
  exact hB _ y (if p0 % 2 = 1 then 1 else 0) p0 (zu (fun _ => 0) p0 1) _ _ _ hnr hnl hnk hnm (Nat.lt_succ_self _) hw (lv_sub hl [2, 3, 1, 0] rfl)
abbrev P_MM_findArcs (K : Nat → ClassId) (M : zq_M) (o : Nat) (bd : Nat → Nat) (th : Int) (put : Int) (wr : Int) (nn : Int) (cir : Int) (oN : Int) (oC : Int) (lbs : Int) (fcs : Int) (arcs : Int) (mns : Int) (kn : Int) (sg : Int → Int) (lb : Int → Int) (rw : Int → Int) (al : Int → Int) : Option Value → zq_M → Prop := fun v M' => v = none ∧ ∃ (c' : Int) (f' : Int → Int) (c0 : Int) (al' : Int → Int), zLs lb (4 * nn) f' c' ∧ zAl lb (4 * nn) c0 al' ∧ (∀ z, c0 ≤ z → z < c0 + cir → al' z = 0) ∧ (∀ j, inI (al' j)) ∧ M' o = some (.inr (9, [.int (iI th), .int (iI put), .int (iI wr), .ref (bd 0), .ref (bd 1), .int (iI nn), .int (iI cir), .int (iI oN), .int (iI oC), .ref (bd 2), .ref (bd 3), .ref (bd 4), .ref (bd 5), .int (iI c'), .ref (bd 6), .ref (bd 7), .ref (bd 8), .int (iI fcs), .ref (bd 9), .int (iI (c0 + cir)), .ref (bd 10), .ref (bd 11), .ref (bd 12), .ref (bd 13), .int (iI mns), .ref (bd 14), .ref (bd 15), .ref (bd 16), .int (iI kn), .ref (bd 17)])) ∧ M' (bd 6) = some (cI (K 0) 48 f') ∧ M' (bd 10) = some (cI (K 0) 40 al') ∧ ∀ q, q ≠ o → q ≠ (bd 6) → q ≠ (bd 10) → M' q = M q
set_option maxHeartbeats 4000000 in
set_option maxRecDepth 100000 in
theorem c_MM_findArcs (l : Launch) (D : va_G) (K : Nat → ClassId) (M : zq_M) (o : Nat) (bd : Nat → Nat) (th : Int) (put : Int) (wr : Int) (nn : Int) (cir : Int) (oN : Int) (oC : Int) (lbs : Int) (fcs : Int) (arcs : Int) (mns : Int) (kn : Int) (sg : Int → Int) (lb : Int → Int) (rw : Int → Int) (al : Int → Int) (h_o : M o = some (.inr (9, [.int (iI th), .int (iI put), .int (iI wr), .ref (bd 0), .ref (bd 1), .int (iI nn), .int (iI cir), .int (iI oN), .int (iI oC), .ref (bd 2), .ref (bd 3), .ref (bd 4), .ref (bd 5), .int (iI lbs), .ref (bd 6), .ref (bd 7), .ref (bd 8), .int (iI fcs), .ref (bd 9), .int (iI arcs), .ref (bd 10), .ref (bd 11), .ref (bd 12), .ref (bd 13), .int (iI mns), .ref (bd 14), .ref (bd 15), .ref (bd 16), .int (iI kn), .ref (bd 17)]))) (hbd : ∀ i j, i < 18 → j < 18 → bd i = bd j → i = j) (h_sg : M (bd 2) = some (cI (K 0) 12 sg)) (h_lb : M (bd 3) = some (cI (K 0) 48 lb)) (h_rw : M (bd 6) = some (cI (K 0) 48 rw)) (h_al : M (bd 10) = some (cI (K 0) 40 al)) (hsg : ∀ j, inI (sg j)) (hlb : ∀ j, inI (lb j)) (hnn : 0 ≤ nn ∧ nn ≤ 12) (hrw : ∀ j, inI (rw j)) (hal : ∀ j, inI (al j)) (hgd : zGd sg lb (4 * nn)) (hcir : 0 ≤ cir ∧ cir ≤ 9) : zq_Met l y_MM_findArcs (.code y_MM_findArcs b_MM_findArcs 2 none :: lw_gd) { frames := 4, cells := 0, slots := 0, locals := 92 } D vwCl (zT K) [.ref o] M (P_MM_findArcs K M o bd th put wr nn cir oN oC lbs fcs arcs mns kn sg lb rw al) 0 0 := by
  refine zq_start (cc := b_MM_findArcs) (maxL := 2) (ret := none) (by decide) rfl (Nat.le_of_ble_eq_true rfl) ?_
  intro p e s m below meth co A ls hx hb hr hml hts hown hnm hlocks hA hZ hw hl
  have hts : ∀ w ∈ lw_gd, w.before [.ref o].toArray s = true := fun w h => hts w (List.mem_cons_of_mem _ h)
  have hown : s.vm.findClass R_MM = some m.cls := hown
  have hK := hZ.1
  have hl : lv_has ls 2 [(0, .ref o)] := hl
  have hfr : ∀ q, q ≠ o → q ≠ (bd 6) → q ≠ (bd 10) → M q = M q := fun q _ _ _ => rfl
  refine lv_aload_n hx hb d_MM_findArcs_0 rfl (lv_at hl 0 rfl) ?_
  refine lv_iconst (v := iI 0) hx hb d_MM_findArcs_1 rfl ?_
  refine zq_put (ci := 9) (v := .int (iI 0)) (ty := .int) hx hb hts i_MM t_MM t_MM_ok n_MM hown hK hw h_o rfl 19 (by decide) (hts _ tw_605) rfl (by decide +kernel) rfl rfl (Nat.le_of_ble_eq_true rfl) d_MM_findArcs_2 (fun M1 H locs hs ho hw => ?_)
  have h_sg : M1 (bd 2) = some (cI (K 0) 12 sg) := (ho _ (zq_ne h_sg h_o (by simp))).trans h_sg
  have h_lb : M1 (bd 3) = some (cI (K 0) 48 lb) := (ho _ (zq_ne h_lb h_o (by simp))).trans h_lb
  have h_rw : M1 (bd 6) = some (cI (K 0) 48 rw) := (ho _ (zq_ne h_rw h_o (by simp))).trans h_rw
  have h_al : M1 (bd 10) = some (cI (K 0) 40 al) := (ho _ (zq_ne h_al h_o (by simp))).trans h_al
  have h_o : M1 o = some (.inr (9, [.int (iI th), .int (iI put), .int (iI wr), .ref (bd 0), .ref (bd 1), .int (iI nn), .int (iI cir), .int (iI oN), .int (iI oC), .ref (bd 2), .ref (bd 3), .ref (bd 4), .ref (bd 5), .int (iI lbs), .ref (bd 6), .ref (bd 7), .ref (bd 8), .int (iI fcs), .ref (bd 9), .int (iI 0), .ref (bd 10), .ref (bd 11), .ref (bd 12), .ref (bd 13), .int (iI mns), .ref (bd 14), .ref (bd 15), .ref (bd 16), .int (iI kn), .ref (bd 17)])) := hs
  have hfr : ∀ q, q ≠ o → q ≠ (bd 6) → q ≠ (bd 10) → M1 q = M q := fun q g0 g1 g2 => (ho q g0).trans (hfr q g0 g1 g2)
  refine lv_aload_n hx hb d_MM_findArcs_5 rfl (lv_at hl 0 rfl) ?_
  refine zq_callV (As := []) (rest := []) ⟨hx, hb, hml, hown, hts⟩ (c_MM_sort l D K M1 o bd th put wr nn cir oN oC lbs fcs 0 mns kn lb rw   h_o hbd h_lb h_rw hlb hnn hrw) (cwV 0 hts (zg_V tw_697 tw_699 ts_29 tw_10 tw_700) rfl rfl rfl (by decide +kernel) ⟨Nat.le_of_ble_eq_true rfl, Nat.le_of_ble_eq_true rfl⟩) hZ hw hA h_o rfl rfl rfl rfl hl.1 (Nat.le_of_ble_eq_true rfl) d_MM_findArcs_6 ⟨Nat.le_of_ble_eq_true rfl, Nat.le_of_ble_eq_true rfl⟩ (fun v M2 H locs hp hw => ?_)
  obtain ⟨rfl, cS, fS, hLs, hs1, hs2, ho⟩ := hp
  have h_sg : M2 (bd 2) = some (cI (K 0) 12 sg) := (ho _ (zq_ne h_sg h_o (by simp)) (zbd hbd 2 6)).trans h_sg
  have h_lb : M2 (bd 3) = some (cI (K 0) 48 lb) := (ho _ (zq_ne h_lb h_o (by simp)) (zbd hbd 3 6)).trans h_lb
  have h_al : M2 (bd 10) = some (cI (K 0) 40 al) := (ho _ (zq_ne h_al h_o (by simp)) (Ne.symm (zbd hbd 6 10))).trans h_al
  have h_o : M2 o = some (.inr (9, [.int (iI th), .int (iI put), .int (iI wr), .ref (bd 0), .ref (bd 1), .int (iI nn), .int (iI cir), .int (iI oN), .int (iI oC), .ref (bd 2), .ref (bd 3), .ref (bd 4), .ref (bd 5), .int (iI cS), .ref (bd 6), .ref (bd 7), .ref (bd 8), .int (iI fcs), .ref (bd 9), .int (iI 0), .ref (bd 10), .ref (bd 11), .ref (bd 12), .ref (bd 13), .int (iI mns), .ref (bd 14), .ref (bd 15), .ref (bd 16), .int (iI kn), .ref (bd 17)])) := hs1
  have h_rw : M2 (bd 6) = some (cI (K 0) 48 fS) := hs2
  have hfr : ∀ q, q ≠ o → q ≠ (bd 6) → q ≠ (bd 10) → M2 q = M q := fun q g0 g1 g2 => (ho q g0 g1).trans (hfr q g0 g1 g2)
  refine W.eq (g2 := F0 m 9 ls []) rfl ?_
  have hcS := hLs.2.2
  obtain ⟨ix, dv, ta, hIx⟩ := zIx_ex (by omega) hLs hgd
  have h24 := zLs_24 hgd hnn hLs hIx
  have hL1 : ∀ (n : Nat) (i : Int) (c0 : Int) (g : Int → Int) (Mq : zq_M) (H : Heap) (locs : List Loc) (ls : Array Slot), (0 ≤ i ∧ i ≤ cS) → (zAs lb fS (4 * nn) i c0 g) → (cS - i).toNat < n → (∀ q, q ≠ o → q ≠ (bd 6) → q ≠ (bd 10) → Mq q = M q) → Mq o = some (.inr (9, [.int (iI th), .int (iI put), .int (iI wr), .ref (bd 0), .ref (bd 1), .int (iI nn), .int (iI cir), .int (iI oN), .int (iI oC), .ref (bd 2), .ref (bd 3), .ref (bd 4), .ref (bd 5), .int (iI cS), .ref (bd 6), .ref (bd 7), .ref (bd 8), .int (iI fcs), .ref (bd 9), .int (iI c0), .ref (bd 10), .ref (bd 11), .ref (bd 12), .ref (bd 13), .int (iI mns), .ref (bd 14), .ref (bd 15), .ref (bd 16), .int (iI kn), .ref (bd 17)])) → Mq (bd 2) = some (cI (K 0) 12 sg) → Mq (bd 3) = some (cI (K 0) 48 lb) → Mq (bd 6) = some (cI (K 0) 48 fS) → Mq (bd 10) = some (cI (K 0) 40 g) → zq_W D vwCl A s.heap Mq H locs → lv_has ls 2 [(0, .ref o), (1, .int (iI i))] → W p l e ({ frames := 4, cells := 0, slots := 0, locals := 92 } : Room) s m [.ref o].toArray below meth co H locs 0 0 (MQ below (zq_Q D vwCl (zT K) (P_MM_findArcs K M o bd th put wr nn cir oN oC lbs fcs arcs mns kn sg lb rw al) A) [.ref o].toArray s 0 0 A) (F0 m 11 ls []) := by
    intro n
    induction n with
    | zero =>
      intro i c0 g Mq H locs ls hi hAs hms hfr h_o h_sg h_lb h_rw h_al hw hl
      exact absurd hms (Nat.not_lt_zero _)
    | succ n ih_hL1 =>
      intro i c0 g Mq H locs ls hi hAs hms hfr h_o h_sg h_lb h_rw h_al hw hl
      refine lv_iload_n hx hb d_MM_findArcs_11 rfl (lv_at hl 1 rfl) ?_
      refine lv_aload_n hx hb d_MM_findArcs_12 rfl (lv_at hl 0 rfl) ?_
      refine zq_get hx hb hts i_MM hown hK hw h_o rfl 13 (by decide) (hts _ tw_599) rfl d_MM_findArcs_13 ?_
      refine zq_icmp_ge (tgt := 69) hx hb d_MM_findArcs_16 (by decide) ⟨by omega, by omega⟩ ⟨by omega, by omega⟩ (fun hc3 => ?_) (fun hc3 => ?_)
      · have hc0 := hAs.2.2.1
        have hL2 : ∀ (n : Nat) (k : Int) (ca : Int) (g2 : Int → Int) (Mq : zq_M) (H : Heap) (locs : List Loc) (ls : Array Slot), ((0 ≤ k ∧ k ≤ cir) ∧ ca = c0 + k) → (∀ z, g2 z = if c0 ≤ z ∧ z < c0 + k then 0 else g z) → (cir - k).toNat < n → (∀ q, q ≠ o → q ≠ (bd 6) → q ≠ (bd 10) → Mq q = M q) → Mq o = some (.inr (9, [.int (iI th), .int (iI put), .int (iI wr), .ref (bd 0), .ref (bd 1), .int (iI nn), .int (iI cir), .int (iI oN), .int (iI oC), .ref (bd 2), .ref (bd 3), .ref (bd 4), .ref (bd 5), .int (iI cS), .ref (bd 6), .ref (bd 7), .ref (bd 8), .int (iI fcs), .ref (bd 9), .int (iI ca), .ref (bd 10), .ref (bd 11), .ref (bd 12), .ref (bd 13), .int (iI mns), .ref (bd 14), .ref (bd 15), .ref (bd 16), .int (iI kn), .ref (bd 17)])) → Mq (bd 2) = some (cI (K 0) 12 sg) → Mq (bd 3) = some (cI (K 0) 48 lb) → Mq (bd 6) = some (cI (K 0) 48 fS) → Mq (bd 10) = some (cI (K 0) 40 g2) → zq_W D vwCl A s.heap Mq H locs → lv_has ls 2 [(0, .ref o), (1, .int (iI k))] → W p l e ({ frames := 4, cells := 0, slots := 0, locals := 92 } : Room) s m [.ref o].toArray below meth co H locs 0 0 (MQ below (zq_Q D vwCl (zT K) (P_MM_findArcs K M o bd th put wr nn cir oN oC lbs fcs arcs mns kn sg lb rw al) A) [.ref o].toArray s 0 0 A) (F0 m 71 ls []) := by
          intro n
          induction n with
          | zero =>
            intro k ca g2 Mq H locs ls hk hg2 hms hfr h_o h_sg h_lb h_rw h_al hw hl
            exact absurd hms (Nat.not_lt_zero _)
          | succ n ih_hL2 =>
            intro k ca g2 Mq H locs ls hk hg2 hms hfr h_o h_sg h_lb h_rw h_al hw hl
            refine lv_iload_n hx hb d_MM_findArcs_71 rfl (lv_at hl 1 rfl) ?_
            refine lv_aload_n hx hb d_MM_findArcs_72 rfl (lv_at hl 0 rfl) ?_
            refine zq_get hx hb hts i_MM hown hK hw h_o rfl 6 (by decide) (hts _ tw_592) rfl d_MM_findArcs_73 ?_
            refine zq_icmp_ge (tgt := 105) hx hb d_MM_findArcs_76 (by decide) ⟨by omega, by omega⟩ ⟨by omega, by omega⟩ (fun hc4 => ?_) (fun hc4 => ?_)
            · exact zq_vret hx hb hr hlocks hZ hw ⟨rfl, cS, fS, c0, g2, hLs, zAs_end (by rw [show cS = i by omega]; exact hAs) hLs h24 (fun z h1 h2 => by rw [hg2, if_neg (by omega)]), (fun z h1 h2 => by rw [hg2, if_pos (by omega)]), (fun z => by rw [hg2]; split; decide; exact hAs.2.2.2 z), (by rw [show c0 + cir = ca by omega]; exact h_o), h_rw, h_al, hfr⟩ d_MM_findArcs_105
            · refine lv_aload_n hx hb d_MM_findArcs_79 rfl (lv_at hl 0 rfl) ?_
              refine zq_get hx hb hts i_MM hown hK hw h_o rfl 20 (by decide) (hts _ tw_606) rfl d_MM_findArcs_80 ?_
              refine lv_aload_n hx hb d_MM_findArcs_83 rfl (lv_at hl 0 rfl) ?_
              refine zq_get hx hb hts i_MM hown hK hw h_o rfl 19 (by decide) (hts _ tw_605) rfl d_MM_findArcs_84 ?_
              refine lv_iconst (v := iI 0) hx hb d_MM_findArcs_87 rfl ?_
              refine zq_iast hx hb hK hw 0 h_al rfl (by omega) (by omega) (by decide) d_MM_findArcs_88 (fun M5 H locs hs ho hw => ?_)
              have h_o : M5 o = some (.inr (9, [.int (iI th), .int (iI put), .int (iI wr), .ref (bd 0), .ref (bd 1), .int (iI nn), .int (iI cir), .int (iI oN), .int (iI oC), .ref (bd 2), .ref (bd 3), .ref (bd 4), .ref (bd 5), .int (iI cS), .ref (bd 6), .ref (bd 7), .ref (bd 8), .int (iI fcs), .ref (bd 9), .int (iI ca), .ref (bd 10), .ref (bd 11), .ref (bd 12), .ref (bd 13), .int (iI mns), .ref (bd 14), .ref (bd 15), .ref (bd 16), .int (iI kn), .ref (bd 17)])) := (ho _ (zq_ne h_o h_al (by simp))).trans h_o
              have h_sg : M5 (bd 2) = some (cI (K 0) 12 sg) := (ho _ (zbd hbd 2 10)).trans h_sg
              have h_lb : M5 (bd 3) = some (cI (K 0) 48 lb) := (ho _ (zbd hbd 3 10)).trans h_lb
              have h_rw : M5 (bd 6) = some (cI (K 0) 48 fS) := (ho _ (zbd hbd 6 10)).trans h_rw
              have h_al : M5 (bd 10) = some (cI (K 0) 40 (zu g2 ca 0)) := hs
              have hfr : ∀ q, q ≠ o → q ≠ (bd 6) → q ≠ (bd 10) → M5 q = M q := fun q g0 g1 g2 => (ho q g2).trans (hfr q g0 g1 g2)
              refine lv_aload_n hx hb d_MM_findArcs_89 rfl (lv_at hl 0 rfl) ?_
              refine lv_dup hx hb d_MM_findArcs_90 rfl ?_
              refine zq_get hx hb hts i_MM hown hK hw h_o rfl 19 (by decide) (hts _ tw_605) rfl d_MM_findArcs_91 ?_
              refine lv_iconst (v := iI 1) hx hb d_MM_findArcs_94 rfl ?_
              refine zq_iadd hx hb d_MM_findArcs_95 ?_
              refine zq_put (ci := 9) (v := .int (iI (ca + 1))) (ty := .int) hx hb hts i_MM t_MM t_MM_ok n_MM hown hK hw h_o rfl 19 (by decide) (hts _ tw_605) rfl (by decide +kernel) rfl rfl (Nat.le_of_ble_eq_true rfl) d_MM_findArcs_96 (fun M6 H locs hs ho hw => ?_)
              have h_sg : M6 (bd 2) = some (cI (K 0) 12 sg) := (ho _ (zq_ne h_sg h_o (by simp))).trans h_sg
              have h_lb : M6 (bd 3) = some (cI (K 0) 48 lb) := (ho _ (zq_ne h_lb h_o (by simp))).trans h_lb
              have h_rw : M6 (bd 6) = some (cI (K 0) 48 fS) := (ho _ (zq_ne h_rw h_o (by simp))).trans h_rw
              have h_al : M6 (bd 10) = some (cI (K 0) 40 (zu g2 ca 0)) := (ho _ (zq_ne h_al h_o (by simp))).trans h_al
              have h_o : M6 o = some (.inr (9, [.int (iI th), .int (iI put), .int (iI wr), .ref (bd 0), .ref (bd 1), .int (iI nn), .int (iI cir), .int (iI oN), .int (iI oC), .ref (bd 2), .ref (bd 3), .ref (bd 4), .ref (bd 5), .int (iI cS), .ref (bd 6), .ref (bd 7), .ref (bd 8), .int (iI fcs), .ref (bd 9), .int (iI (ca + 1)), .ref (bd 10), .ref (bd 11), .ref (bd 12), .ref (bd 13), .int (iI mns), .ref (bd 14), .ref (bd 15), .ref (bd 16), .int (iI kn), .ref (bd 17)])) := hs
              have hfr : ∀ q, q ≠ o → q ≠ (bd 6) → q ≠ (bd 10) → M6 q = M q := fun q g0 g1 g2 => (ho q g0).trans (hfr q g0 g1 g2)
              refine lv_iinc (v := iI (k + 1)) (lv' := [(1, .int (iI (k + 1))), (0, .ref o)]) hx hb d_MM_findArcs_99 hl (k := 1) rfl (iI_add _ _) (by decide) rfl (fun ls hl => ?_)
              refine lv_goto (tgt := 71) hx hb d_MM_findArcs_102 (by decide) ?_
              exact ih_hL2 (k + 1) (ca + 1) (zu g2 ca 0) M6 _ _ _ (by omega) (by rw [hk.2]; exact zup_r hg2 hk.1.1) (by omega) hfr h_o h_sg h_lb h_rw h_al hw (lv_sub hl [1, 0] rfl)
        refine lv_iconst (v := iI 0) hx hb d_MM_findArcs_69 rfl ?_
        refine lv_istore_n (lv' := [(1, .int (iI 0)), (0, .ref o)]) hx hb d_MM_findArcs_70 rfl hl (by decide) rfl (fun ls hl => ?_)
        exact hL2 _ 0 c0 g Mq _ _ _ ⟨⟨by omega, by omega⟩, by omega⟩ (fun z => (if_neg (by omega)).symm) (Nat.lt_succ_self _) hfr h_o h_sg h_lb h_rw h_al hw (lv_sub hl [1, 0] rfl)
      · refine lv_aload_n hx hb d_MM_findArcs_19 rfl (lv_at hl 0 rfl) ?_
        refine lv_aload_n hx hb d_MM_findArcs_20 rfl (lv_at hl 0 rfl) ?_
        refine zq_get hx hb hts i_MM hown hK hw h_o rfl 14 (by decide) (hts _ tw_600) rfl d_MM_findArcs_21 ?_
        refine lv_iload_n hx hb d_MM_findArcs_24 rfl (lv_at hl 1 rfl) ?_
        refine zq_iald hx hb hK hw 0 h_rw rfl (by omega) (by omega) (by decide) d_MM_findArcs_25 ?_
        refine zq_callV (As := [.int (iI (fS i))]) (rest := []) ⟨hx, hb, hml, hown, hts⟩ (c_MM_arcOf l D K Mq o bd th put wr nn cir oN oC cS fcs c0 mns kn sg lb  (fS i) h_o hbd h_sg h_lb hsg hlb hnn hgd ((hLs.2.1 _).mp ⟨i, by omega, by omega, rfl⟩)) (cwV 1 hts (zg_V tw_753 tw_755 ts_42 tw_10 tw_756) rfl rfl rfl (by decide +kernel) ⟨Nat.le_of_ble_eq_true rfl, Nat.le_of_ble_eq_true rfl⟩) hZ hw hA h_o rfl rfl rfl rfl hl.1 (Nat.le_of_ble_eq_true rfl) d_MM_findArcs_26 ⟨Nat.le_of_ble_eq_true rfl, Nat.le_of_ble_eq_true rfl⟩ (fun v M8 H locs hp hw => ?_)
        obtain ⟨ra7, rfl, hAra7, hMe⟩ := hp
        rw [hMe] at hw
        refine W.eq (g2 := F0 m 29 ls [.int (iI ra7)]) rfl ?_
        refine lv_aload_n hx hb d_MM_findArcs_29 rfl (lv_at hl 0 rfl) ?_
        refine zq_get hx hb hts i_MM hown hK hw h_o rfl 14 (by decide) (hts _ tw_600) rfl d_MM_findArcs_30 ?_
        refine lv_iload_n hx hb d_MM_findArcs_33 rfl (lv_at hl 1 rfl) ?_
        refine zq_iald hx hb hK hw 0 h_rw rfl (by omega) (by omega) (by decide) d_MM_findArcs_34 ?_
        refine zq_icmp_ne (tgt := 63) hx hb d_MM_findArcs_35 (by decide) (by obtain ⟨x, _, _, e9⟩ := hAra7.1; rw [← e9]; exact hlb x) (hLs.2.2.2.2 _) (fun hc9 => ?_) (fun hc9 => ?_)
        · refine lv_iinc (v := iI (i + 1)) (lv' := [(1, .int (iI (i + 1))), (0, .ref o)]) hx hb d_MM_findArcs_63 hl (k := 1) rfl (iI_add _ _) (by decide) rfl (fun ls hl => ?_)
          refine lv_goto (tgt := 11) hx hb d_MM_findArcs_66 (by decide) ?_
          exact ih_hL1 (i + 1) c0 g Mq _ _ _ (by omega) (zAs_no hAs hi.1 hAra7 (by omega)) (by omega) hfr h_o h_sg h_lb h_rw h_al hw (lv_sub hl [1, 0] rfl)
        · refine lv_aload_n hx hb d_MM_findArcs_38 rfl (lv_at hl 0 rfl) ?_
          refine zq_get hx hb hts i_MM hown hK hw h_o rfl 20 (by decide) (hts _ tw_606) rfl d_MM_findArcs_39 ?_
          refine lv_aload_n hx hb d_MM_findArcs_42 rfl (lv_at hl 0 rfl) ?_
          refine zq_get hx hb hts i_MM hown hK hw h_o rfl 19 (by decide) (hts _ tw_605) rfl d_MM_findArcs_43 ?_
          refine lv_aload_n hx hb d_MM_findArcs_46 rfl (lv_at hl 0 rfl) ?_
          refine zq_get hx hb hts i_MM hown hK hw h_o rfl 14 (by decide) (hts _ tw_600) rfl d_MM_findArcs_47 ?_
          refine lv_iload_n hx hb d_MM_findArcs_50 rfl (lv_at hl 1 rfl) ?_
          refine zq_iald hx hb hK hw 0 h_rw rfl (by omega) (by omega) (by decide) d_MM_findArcs_51 ?_
          refine zq_iast hx hb hK hw 0 h_al rfl (by have := hAs.2.2.1; omega) (by have := hAs.2.2.1; omega) (by decide) d_MM_findArcs_52 (fun M10 H locs hs ho hw => ?_)
          have h_o : M10 o = some (.inr (9, [.int (iI th), .int (iI put), .int (iI wr), .ref (bd 0), .ref (bd 1), .int (iI nn), .int (iI cir), .int (iI oN), .int (iI oC), .ref (bd 2), .ref (bd 3), .ref (bd 4), .ref (bd 5), .int (iI cS), .ref (bd 6), .ref (bd 7), .ref (bd 8), .int (iI fcs), .ref (bd 9), .int (iI c0), .ref (bd 10), .ref (bd 11), .ref (bd 12), .ref (bd 13), .int (iI mns), .ref (bd 14), .ref (bd 15), .ref (bd 16), .int (iI kn), .ref (bd 17)])) := (ho _ (zq_ne h_o h_al (by simp))).trans h_o
          have h_sg : M10 (bd 2) = some (cI (K 0) 12 sg) := (ho _ (zbd hbd 2 10)).trans h_sg
          have h_lb : M10 (bd 3) = some (cI (K 0) 48 lb) := (ho _ (zbd hbd 3 10)).trans h_lb
          have h_rw : M10 (bd 6) = some (cI (K 0) 48 fS) := (ho _ (zbd hbd 6 10)).trans h_rw
          have h_al : M10 (bd 10) = some (cI (K 0) 40 (zu g c0 (fS i))) := hs
          have hfr : ∀ q, q ≠ o → q ≠ (bd 6) → q ≠ (bd 10) → M10 q = M q := fun q g0 g1 g2 => (ho q g2).trans (hfr q g0 g1 g2)
          refine lv_aload_n hx hb d_MM_findArcs_53 rfl (lv_at hl 0 rfl) ?_
          refine lv_dup hx hb d_MM_findArcs_54 rfl ?_
          refine zq_get hx hb hts i_MM hown hK hw h_o rfl 19 (by decide) (hts _ tw_605) rfl d_MM_findArcs_55 ?_
          refine lv_iconst (v := iI 1) hx hb d_MM_findArcs_58 rfl ?_
          refine zq_iadd hx hb d_MM_findArcs_59 ?_
          refine zq_put (ci := 9) (v := .int (iI (c0 + 1))) (ty := .int) hx hb hts i_MM t_MM t_MM_ok n_MM hown hK hw h_o rfl 19 (by decide) (hts _ tw_605) rfl (by decide +kernel) rfl rfl (Nat.le_of_ble_eq_true rfl) d_MM_findArcs_60 (fun M11 H locs hs ho hw => ?_)
          have h_sg : M11 (bd 2) = some (cI (K 0) 12 sg) := (ho _ (zq_ne h_sg h_o (by simp))).trans h_sg
          have h_lb : M11 (bd 3) = some (cI (K 0) 48 lb) := (ho _ (zq_ne h_lb h_o (by simp))).trans h_lb
          have h_rw : M11 (bd 6) = some (cI (K 0) 48 fS) := (ho _ (zq_ne h_rw h_o (by simp))).trans h_rw
          have h_al : M11 (bd 10) = some (cI (K 0) 40 (zu g c0 (fS i))) := (ho _ (zq_ne h_al h_o (by simp))).trans h_al
          have h_o : M11 o = some (.inr (9, [.int (iI th), .int (iI put), .int (iI wr), .ref (bd 0), .ref (bd 1), .int (iI nn), .int (iI cir), .int (iI oN), .int (iI oC), .ref (bd 2), .ref (bd 3), .ref (bd 4), .ref (bd 5), .int (iI cS), .ref (bd 6), .ref (bd 7), .ref (bd 8), .int (iI fcs), .ref (bd 9), .int (iI (c0 + 1)), .ref (bd 10), .ref (bd 11), .ref (bd 12), .ref (bd 13), .int (iI mns), .ref (bd 14), .ref (bd 15), .ref (bd 16), .int (iI kn), .ref (bd 17)])) := hs
          have hfr : ∀ q, q ≠ o → q ≠ (bd 6) → q ≠ (bd 10) → M11 q = M q := fun q g0 g1 g2 => (ho q g0).trans (hfr q g0 g1 g2)
          refine lv_iinc (v := iI (i + 1)) (lv' := [(1, .int (iI (i + 1))), (0, .ref o)]) hx hb d_MM_findArcs_63 hl (k := 1) rfl (iI_add _ _) (by decide) rfl (fun ls hl => ?_)
          refine lv_goto (tgt := 11) hx hb d_MM_findArcs_66 (by decide) ?_
          exact ih_hL1 (i + 1) (c0 + 1) (zu g c0 (fS i)) M11 _ _ _ (by omega) (zAs_yes hAs ⟨hi.1, by omega⟩ hLs.1 (by rw [show fS i = ra7 by omega] at hAra7; rw [show fS i = ra7 by omega]; exact hAra7) (hLs.2.2.2.2 _)) (by omega) hfr h_o h_sg h_lb h_rw h_al hw (lv_sub hl [1, 0] rfl)
  refine lv_iconst (v := iI 0) hx hb d_MM_findArcs_9 rfl ?_
  refine lv_istore_n (lv' := [(1, .int (iI 0)), (0, .ref o)]) hx hb d_MM_findArcs_10 rfl hl (by decide) rfl (fun ls hl => ?_)
  exact hL1 _ 0 0 al M2 _ _ _ ⟨by omega, by omega⟩ ⟨fun a b h1 h2 h3 => by omega, fun v => ⟨fun ⟨j, h1, h2, _⟩ => by omega, fun ⟨j, h1, h2, _⟩ => by omega⟩, ⟨by omega, by omega⟩, hal⟩ (Nat.lt_succ_self _) hfr h_o h_sg h_lb h_rw h_al hw (lv_sub hl [1, 0] rfl)
abbrev P_MM_arcNumber (K : Nat → ClassId) (M : zq_M) (o : Nat) (bd : Nat → Nat) (th : Int) (put : Int) (wr : Int) (nn : Int) (cir : Int) (oN : Int) (oC : Int) (lbs : Int) (fcs : Int) (arcs : Int) (mns : Int) (kn : Int) (sg : Int → Int) (lb : Int → Int) (al : Int → Int) (y : Int) : Option Value → zq_M → Prop := fun v M' => ∃ r m, v = some (.int (iI r)) ∧ zAo lb (4 * nn) y m ∧ (0 ≤ r ∧ r < 40) ∧ al r = m ∧ (∀ j, 0 ≤ j → j < r → ¬ al j = m) ∧ M' = M
set_option maxHeartbeats 4000000 in
set_option maxRecDepth 100000 in
theorem c_MM_arcNumber (l : Launch) (D : va_G) (K : Nat → ClassId) (M : zq_M) (o : Nat) (bd : Nat → Nat) (th : Int) (put : Int) (wr : Int) (nn : Int) (cir : Int) (oN : Int) (oC : Int) (lbs : Int) (fcs : Int) (arcs : Int) (mns : Int) (kn : Int) (sg : Int → Int) (lb : Int → Int) (al : Int → Int) (y : Int) (h_o : M o = some (.inr (9, [.int (iI th), .int (iI put), .int (iI wr), .ref (bd 0), .ref (bd 1), .int (iI nn), .int (iI cir), .int (iI oN), .int (iI oC), .ref (bd 2), .ref (bd 3), .ref (bd 4), .ref (bd 5), .int (iI lbs), .ref (bd 6), .ref (bd 7), .ref (bd 8), .int (iI fcs), .ref (bd 9), .int (iI arcs), .ref (bd 10), .ref (bd 11), .ref (bd 12), .ref (bd 13), .int (iI mns), .ref (bd 14), .ref (bd 15), .ref (bd 16), .int (iI kn), .ref (bd 17)]))) (hbd : ∀ i j, i < 18 → j < 18 → bd i = bd j → i = j) (h_sg : M (bd 2) = some (cI (K 0) 12 sg)) (h_lb : M (bd 3) = some (cI (K 0) 48 lb)) (h_al : M (bd 10) = some (cI (K 0) 40 al)) (hsg : ∀ j, inI (sg j)) (hlb : ∀ j, inI (lb j)) (hnn : 0 ≤ nn ∧ nn ≤ 12) (hgd : zGd sg lb (4 * nn)) (hyl : ∃ x, 0 ≤ x ∧ x < 4 * nn ∧ lb x = y) (hal : ∀ j, inI (al j)) (hexm : ∀ m, zAo lb (4 * nn) y m → ∃ j, 0 ≤ j ∧ j < 40 ∧ al j = m) : zq_Met l y_MM_arcNumber (.code y_MM_arcNumber b_MM_arcNumber 4 (some .int) :: lw_gd) { frames := 4, cells := 0, slots := 0, locals := 92 } D vwCl (zT K) [.ref o, .int (iI y)] M (P_MM_arcNumber K M o bd th put wr nn cir oN oC lbs fcs arcs mns kn sg lb al y) 0 0 := by
  refine zq_start (cc := b_MM_arcNumber) (maxL := 4) (ret := (some .int)) (by decide) rfl (Nat.le_of_ble_eq_true rfl) ?_
  intro p e s m below meth co A ls hx hb hr hml hts hown hnm hlocks hA hZ hw hl
  have hts : ∀ w ∈ lw_gd, w.before [.ref o, .int (iI y)].toArray s = true := fun w h => hts w (List.mem_cons_of_mem _ h)
  have hown : s.vm.findClass R_MM = some m.cls := hown
  have hK := hZ.1
  have hl : lv_has ls 4 [(0, .ref o), (1, .int (iI y))] := hl
  refine lv_aload_n hx hb d_MM_arcNumber_0 rfl (lv_at hl 0 rfl) ?_
  refine lv_iload_n hx hb d_MM_arcNumber_1 rfl (lv_at hl 1 rfl) ?_
  refine zq_callV (As := [.int (iI y)]) (rest := []) ⟨hx, hb, hml, hown, hts⟩ (c_MM_arcOf l D K M o bd th put wr nn cir oN oC lbs fcs arcs mns kn sg lb  y h_o hbd h_sg h_lb hsg hlb hnn hgd hyl) (cwV 1 hts (zg_V tw_753 tw_755 ts_42 tw_10 tw_756) rfl rfl rfl (by decide +kernel) ⟨Nat.le_of_ble_eq_true rfl, Nat.le_of_ble_eq_true rfl⟩) hZ hw hA h_o rfl rfl rfl rfl hl.1 (Nat.le_of_ble_eq_true rfl) d_MM_arcNumber_2 ⟨Nat.le_of_ble_eq_true rfl, Nat.le_of_ble_eq_true rfl⟩ (fun v M2 H locs hp hw => ?_)
  obtain ⟨ra1, rfl, hAra1, hMe⟩ := hp
  rw [hMe] at hw
  refine W.eq (g2 := F0 m 5 ls [.int (iI ra1)]) rfl ?_
  obtain ⟨mm0, hmm⟩ : ∃ z, z = ra1 := ⟨_, rfl⟩
  rw [← hmm]
  have hAm : zAo lb (4 * nn) y mm0 := by rw [hmm]; exact hAra1
  obtain ⟨je, je1, je2, je3⟩ := hexm mm0 hAm
  have hL : ∀ (n : Nat) (k : Int) (H : Heap) (locs : List Loc) (ls : Array Slot), (0 ≤ k ∧ k ≤ 40) → (∀ j, 0 ≤ j → j < k → ¬ al j = mm0) → (40 - k).toNat < n → zq_W D vwCl A s.heap M H locs → lv_has ls 4 [(0, .ref o), (1, .int (iI y)), (2, .int (iI mm0)), (3, .int (iI k))] → W p l e ({ frames := 4, cells := 0, slots := 0, locals := 92 } : Room) s m [.ref o, .int (iI y)].toArray below meth co H locs 0 0 (MQ below (zq_Q D vwCl (zT K) (P_MM_arcNumber K M o bd th put wr nn cir oN oC lbs fcs arcs mns kn sg lb al y) A) [.ref o, .int (iI y)].toArray s 0 0 A) (F0 m 8 ls []) := by
    intro n
    induction n with
    | zero =>
      intro k H locs ls hk hno hms hw hl
      exact absurd hms (Nat.not_lt_zero _)
    | succ n ih_hL =>
      intro k H locs ls hk hno hms hw hl
      have hkl : k < 40 := by by_cases q : je < k; exact absurd je3 (hno je je1 q); omega
      refine lv_aload_n hx hb d_MM_arcNumber_8 rfl (lv_at hl 0 rfl) ?_
      refine zq_get hx hb hts i_MM hown hK hw h_o rfl 20 (by decide) (hts _ tw_606) rfl d_MM_arcNumber_9 ?_
      refine lv_iload_n hx hb d_MM_arcNumber_12 rfl (lv_at hl 3 rfl) ?_
      refine zq_iald hx hb hK hw 0 h_al rfl (by omega) (by omega) (by decide) d_MM_arcNumber_13 ?_
      refine lv_iload_n hx hb d_MM_arcNumber_14 rfl (lv_at hl 2 rfl) ?_
      refine zq_icmp_eq (tgt := 24) hx hb d_MM_arcNumber_15 (by decide) (hal _) (by obtain ⟨x, _, _, e9⟩ := hAm.1; rw [← e9]; exact hlb x) (fun hc3 => ?_) (fun hc3 => ?_)
      · refine lv_iload_n hx hb d_MM_arcNumber_24 rfl (lv_at hl 3 rfl) ?_
        exact zq_iret hx hb hr hlocks hZ hw ⟨k, mm0, rfl, hAm, ⟨by omega, by omega⟩, by assumption, hno, rfl⟩ d_MM_arcNumber_25
      · refine lv_iinc (v := iI (k + 1)) (lv' := [(3, .int (iI (k + 1))), (0, .ref o), (1, .int (iI y)), (2, .int (iI mm0))]) hx hb d_MM_arcNumber_18 hl (k := 3) rfl (iI_add _ _) (by decide) rfl (fun ls hl => ?_)
        refine lv_goto (tgt := 8) hx hb d_MM_arcNumber_21 (by decide) ?_
        exact ih_hL (k + 1) _ _ _ (by omega) (fun j h1 h2 => by by_cases q : j = k; rw [q]; assumption; exact hno j h1 (by omega)) (by omega) hw (lv_sub hl [1, 2, 3, 0] rfl)
  refine lv_istore_n (lv' := [(2, .int (iI mm0)), (0, .ref o), (1, .int (iI y))]) hx hb d_MM_arcNumber_5 rfl hl (by decide) rfl (fun ls hl => ?_)
  refine lv_iconst (v := iI 0) hx hb d_MM_arcNumber_6 rfl ?_
  refine lv_istore_n (lv' := [(3, .int (iI 0)), (2, .int (iI mm0)), (0, .ref o), (1, .int (iI y))]) hx hb d_MM_arcNumber_7 rfl hl (by decide) rfl (fun ls hl => ?_)
  exact hL _ 0 _ _ _ ⟨by omega, by omega⟩ (fun j h1 h2 => by omega) (Nat.lt_succ_self _) hw (lv_sub hl [2, 3, 1, 0] rfl)
abbrev P_MM_addEntry (K : Nat → ClassId) (M : zq_M) (o : Nat) (bd : Nat → Nat) (th : Int) (put : Int) (wr : Int) (nn : Int) (cir : Int) (oN : Int) (oC : Int) (lbs : Int) (fcs : Int) (arcs : Int) (mns : Int) (kn : Int) (on : Int → Int) (tw : Int → Int) (k : Int) (a : Int) (pl : Int) (t : Int) : Option Value → zq_M → Prop := fun v M' => v = none ∧ M' (bd 11) = some (cI (K 0) 384 (zaD on (32 * k + a) pl)) ∧ M' (bd 12) = some (cI (K 0) 384 (zaD tw (32 * k + a) t)) ∧ ∀ q, q ≠ (bd 11) → q ≠ (bd 12) → M' q = M q
set_option maxHeartbeats 4000000 in
set_option maxRecDepth 100000 in
theorem c_MM_addEntry (l : Launch) (D : va_G) (K : Nat → ClassId) (M : zq_M) (o : Nat) (bd : Nat → Nat) (th : Int) (put : Int) (wr : Int) (nn : Int) (cir : Int) (oN : Int) (oC : Int) (lbs : Int) (fcs : Int) (arcs : Int) (mns : Int) (kn : Int) (on : Int → Int) (tw : Int → Int) (k : Int) (a : Int) (pl : Int) (t : Int) (h_o : M o = some (.inr (9, [.int (iI th), .int (iI put), .int (iI wr), .ref (bd 0), .ref (bd 1), .int (iI nn), .int (iI cir), .int (iI oN), .int (iI oC), .ref (bd 2), .ref (bd 3), .ref (bd 4), .ref (bd 5), .int (iI lbs), .ref (bd 6), .ref (bd 7), .ref (bd 8), .int (iI fcs), .ref (bd 9), .int (iI arcs), .ref (bd 10), .ref (bd 11), .ref (bd 12), .ref (bd 13), .int (iI mns), .ref (bd 14), .ref (bd 15), .ref (bd 16), .int (iI kn), .ref (bd 17)]))) (hbd : ∀ i j, i < 18 → j < 18 → bd i = bd j → i = j) (h_on : M (bd 11) = some (cI (K 0) 384 on)) (h_tw : M (bd 12) = some (cI (K 0) 384 tw)) (hk : 0 ≤ k ∧ k < 12) (ha : 0 ≤ a ∧ a < 32) : zq_Met l y_MM_addEntry (.code y_MM_addEntry b_MM_addEntry 5 none :: lw_gd) { frames := 0, cells := 0, slots := 0, locals := 0 } D vwCl (zT K) [.ref o, .int (iI k), .int (iI a), .int (iI pl), .int (iI t)] M (P_MM_addEntry K M o bd th put wr nn cir oN oC lbs fcs arcs mns kn on tw k a pl t) 0 0 := by
  refine zq_start (cc := b_MM_addEntry) (maxL := 5) (ret := none) (by decide) rfl (Nat.le_of_ble_eq_true rfl) ?_
  intro p e s m below meth co A ls hx hb hr hml hts hown hnm hlocks hA hZ hw hl
  have hts : ∀ w ∈ lw_gd, w.before [.ref o, .int (iI k), .int (iI a), .int (iI pl), .int (iI t)].toArray s = true := fun w h => hts w (List.mem_cons_of_mem _ h)
  have hown : s.vm.findClass R_MM = some m.cls := hown
  have hK := hZ.1
  have hl : lv_has ls 5 [(0, .ref o), (1, .int (iI k)), (2, .int (iI a)), (3, .int (iI pl)), (4, .int (iI t))] := hl
  have hfr : ∀ q, q ≠ (bd 11) → q ≠ (bd 12) → M q = M q := fun q _ _ => rfl
  refine lv_aload_n hx hb d_MM_addEntry_0 rfl (lv_at hl 0 rfl) ?_
  refine zq_get hx hb hts i_MM hown hK hw h_o rfl 21 (by decide) (hts _ tw_607) rfl d_MM_addEntry_1 ?_
  refine lv_bipush (v := iI 32) hx hb d_MM_addEntry_4 (by decide) ?_
  refine lv_iload_n hx hb d_MM_addEntry_6 rfl (lv_at hl 1 rfl) ?_
  refine zq_imul hx hb d_MM_addEntry_7 ?_
  refine lv_iload_n hx hb d_MM_addEntry_8 rfl (lv_at hl 2 rfl) ?_
  refine zq_iadd hx hb d_MM_addEntry_9 ?_
  refine lv_dup2_11 hx hb d_MM_addEntry_10 rfl rfl ?_
  refine zq_iald hx hb hK hw 0 h_on rfl (by omega) (by omega) (by decide) d_MM_addEntry_11 ?_
  refine lv_iload_n hx hb d_MM_addEntry_12 rfl (lv_at hl 3 rfl) ?_
  refine zq_iadd hx hb d_MM_addEntry_13 ?_
  refine zq_iast hx hb hK hw 0 h_on rfl (by omega) (by omega) (by decide) d_MM_addEntry_14 (fun M1 H locs hs ho hw => ?_)
  have h_o : M1 o = some (.inr (9, [.int (iI th), .int (iI put), .int (iI wr), .ref (bd 0), .ref (bd 1), .int (iI nn), .int (iI cir), .int (iI oN), .int (iI oC), .ref (bd 2), .ref (bd 3), .ref (bd 4), .ref (bd 5), .int (iI lbs), .ref (bd 6), .ref (bd 7), .ref (bd 8), .int (iI fcs), .ref (bd 9), .int (iI arcs), .ref (bd 10), .ref (bd 11), .ref (bd 12), .ref (bd 13), .int (iI mns), .ref (bd 14), .ref (bd 15), .ref (bd 16), .int (iI kn), .ref (bd 17)])) := (ho _ (zq_ne h_o h_on (by simp))).trans h_o
  have h_tw : M1 (bd 12) = some (cI (K 0) 384 tw) := (ho _ (Ne.symm (zbd hbd 11 12))).trans h_tw
  have h_on : M1 (bd 11) = some (cI (K 0) 384 (zu on ((32 * k) + a) ((on ((32 * k) + a)) + pl))) := hs
  have hfr : ∀ q, q ≠ (bd 11) → q ≠ (bd 12) → M1 q = M q := fun q g0 g1 => (ho q g0).trans (hfr q g0 g1)
  refine lv_aload_n hx hb d_MM_addEntry_15 rfl (lv_at hl 0 rfl) ?_
  refine zq_get hx hb hts i_MM hown hK hw h_o rfl 22 (by decide) (hts _ tw_608) rfl d_MM_addEntry_16 ?_
  refine lv_bipush (v := iI 32) hx hb d_MM_addEntry_19 (by decide) ?_
  refine lv_iload_n hx hb d_MM_addEntry_21 rfl (lv_at hl 1 rfl) ?_
  refine zq_imul hx hb d_MM_addEntry_22 ?_
  refine lv_iload_n hx hb d_MM_addEntry_23 rfl (lv_at hl 2 rfl) ?_
  refine zq_iadd hx hb d_MM_addEntry_24 ?_
  refine lv_dup2_11 hx hb d_MM_addEntry_25 rfl rfl ?_
  refine zq_iald hx hb hK hw 0 h_tw rfl (by omega) (by omega) (by decide) d_MM_addEntry_26 ?_
  refine lv_iload hx hb d_MM_addEntry_27 (lv_at hl 4 rfl) ?_
  refine zq_iadd hx hb d_MM_addEntry_29 ?_
  refine zq_iast hx hb hK hw 0 h_tw rfl (by omega) (by omega) (by decide) d_MM_addEntry_30 (fun M2 H locs hs ho hw => ?_)
  have h_o : M2 o = some (.inr (9, [.int (iI th), .int (iI put), .int (iI wr), .ref (bd 0), .ref (bd 1), .int (iI nn), .int (iI cir), .int (iI oN), .int (iI oC), .ref (bd 2), .ref (bd 3), .ref (bd 4), .ref (bd 5), .int (iI lbs), .ref (bd 6), .ref (bd 7), .ref (bd 8), .int (iI fcs), .ref (bd 9), .int (iI arcs), .ref (bd 10), .ref (bd 11), .ref (bd 12), .ref (bd 13), .int (iI mns), .ref (bd 14), .ref (bd 15), .ref (bd 16), .int (iI kn), .ref (bd 17)])) := (ho _ (zq_ne h_o h_tw (by simp))).trans h_o
  have h_on : M2 (bd 11) = some (cI (K 0) 384 (zu on ((32 * k) + a) ((on ((32 * k) + a)) + pl))) := (ho _ (zbd hbd 11 12)).trans h_on
  have h_tw : M2 (bd 12) = some (cI (K 0) 384 (zu tw ((32 * k) + a) ((tw ((32 * k) + a)) + t))) := hs
  have hfr : ∀ q, q ≠ (bd 11) → q ≠ (bd 12) → M2 q = M q := fun q g0 g1 => (ho q g1).trans (hfr q g0 g1)
  exact zq_vret hx hb hr hlocks hZ hw ⟨rfl, h_on, h_tw, hfr⟩ d_MM_addEntry_31
abbrev P_MM_fill (K : Nat → ClassId) (M : zq_M) (o : Nat) (bd : Nat → Nat) (th : Int) (put : Int) (wr : Int) (nn : Int) (cir : Int) (oN : Int) (oC : Int) (lbs : Int) (fcs : Int) (arcs : Int) (mns : Int) (kn : Int) (sg : Int → Int) (lb : Int → Int) (rw : Int → Int) (al : Int → Int) (on : Int → Int) (tw : Int → Int) : Option Value → zq_M → Prop := fun v M' => v = none ∧ ∃ (c' : Int) (f' : Int → Int) (c0 : Int) (al' N on' tw' : Int → Int), zLs lb (4 * nn) f' c' ∧ zAl lb (4 * nn) c0 al' ∧ (∀ z, c0 ≤ z → z < c0 + cir → al' z = 0) ∧ (∀ j, inI (al' j)) ∧ (∀ x, 0 ≤ x → x < 4 * nn → x % 4 ≠ 3 → zNx lb (4 * nn) al' x (N x)) ∧ zFi sg N nn on' tw' ∧ M' o = some (.inr (9, [.int (iI th), .int (iI put), .int (iI wr), .ref (bd 0), .ref (bd 1), .int (iI nn), .int (iI cir), .int (iI oN), .int (iI oC), .ref (bd 2), .ref (bd 3), .ref (bd 4), .ref (bd 5), .int (iI c'), .ref (bd 6), .ref (bd 7), .ref (bd 8), .int (iI fcs), .ref (bd 9), .int (iI (c0 + cir)), .ref (bd 10), .ref (bd 11), .ref (bd 12), .ref (bd 13), .int (iI mns), .ref (bd 14), .ref (bd 15), .ref (bd 16), .int (iI kn), .ref (bd 17)])) ∧ M' (bd 6) = some (cI (K 0) 48 f') ∧ M' (bd 10) = some (cI (K 0) 40 al') ∧ M' (bd 11) = some (cI (K 0) 384 on') ∧ M' (bd 12) = some (cI (K 0) 384 tw') ∧ ∀ q, q ≠ o → q ≠ (bd 6) → q ≠ (bd 10) → q ≠ (bd 11) → q ≠ (bd 12) → M' q = M q
set_option maxHeartbeats 4000000 in
set_option maxRecDepth 100000 in
theorem c_MM_fill (l : Launch) (D : va_G) (K : Nat → ClassId) (M : zq_M) (o : Nat) (bd : Nat → Nat) (th : Int) (put : Int) (wr : Int) (nn : Int) (cir : Int) (oN : Int) (oC : Int) (lbs : Int) (fcs : Int) (arcs : Int) (mns : Int) (kn : Int) (sg : Int → Int) (lb : Int → Int) (rw : Int → Int) (al : Int → Int) (on : Int → Int) (tw : Int → Int) (h_o : M o = some (.inr (9, [.int (iI th), .int (iI put), .int (iI wr), .ref (bd 0), .ref (bd 1), .int (iI nn), .int (iI cir), .int (iI oN), .int (iI oC), .ref (bd 2), .ref (bd 3), .ref (bd 4), .ref (bd 5), .int (iI lbs), .ref (bd 6), .ref (bd 7), .ref (bd 8), .int (iI fcs), .ref (bd 9), .int (iI arcs), .ref (bd 10), .ref (bd 11), .ref (bd 12), .ref (bd 13), .int (iI mns), .ref (bd 14), .ref (bd 15), .ref (bd 16), .int (iI kn), .ref (bd 17)]))) (hbd : ∀ i j, i < 18 → j < 18 → bd i = bd j → i = j) (h_sg : M (bd 2) = some (cI (K 0) 12 sg)) (h_lb : M (bd 3) = some (cI (K 0) 48 lb)) (h_rw : M (bd 6) = some (cI (K 0) 48 rw)) (h_al : M (bd 10) = some (cI (K 0) 40 al)) (h_on : M (bd 11) = some (cI (K 0) 384 on)) (h_tw : M (bd 12) = some (cI (K 0) 384 tw)) (hsg : ∀ j, inI (sg j)) (hlb : ∀ j, inI (lb j)) (hnn : 0 ≤ nn ∧ nn ≤ 12) (hrw : ∀ j, inI (rw j)) (hal : ∀ j, inI (al j)) (hgd : zGd sg lb (4 * nn)) (hcir : 0 ≤ cir ∧ cir ≤ 9) : zq_Met l y_MM_fill (.code y_MM_fill b_MM_fill 5 none :: lw_gd) { frames := 5, cells := 0, slots := 0, locals := 115 } D vwCl (zT K) [.ref o] M (P_MM_fill K M o bd th put wr nn cir oN oC lbs fcs arcs mns kn sg lb rw al on tw) 0 0 := by
  refine zq_start (cc := b_MM_fill) (maxL := 5) (ret := none) (by decide) rfl (Nat.le_of_ble_eq_true rfl) ?_
  intro p e s m below meth co A ls hx hb hr hml hts hown hnm hlocks hA hZ hw hl
  have hts : ∀ w ∈ lw_gd, w.before [.ref o].toArray s = true := fun w h => hts w (List.mem_cons_of_mem _ h)
  have hown : s.vm.findClass R_MM = some m.cls := hown
  have hK := hZ.1
  have hl : lv_has ls 5 [(0, .ref o)] := hl
  have hfr : ∀ q, q ≠ o → q ≠ (bd 6) → q ≠ (bd 10) → q ≠ (bd 11) → q ≠ (bd 12) → M q = M q := fun q _ _ _ _ _ => rfl
  refine lv_aload_n hx hb d_MM_fill_0 rfl (lv_at hl 0 rfl) ?_
  refine zq_callV (As := []) (rest := []) ⟨hx, hb, hml, hown, hts⟩ (c_MM_findArcs l D K M o bd th put wr nn cir oN oC lbs fcs arcs mns kn sg lb rw al   h_o hbd h_sg h_lb h_rw h_al hsg hlb hnn hrw hal hgd hcir) (cwV 0 hts (zg_V tw_749 tw_751 ts_41 tw_10 tw_752) rfl rfl rfl (by decide +kernel) ⟨Nat.le_of_ble_eq_true rfl, Nat.le_of_ble_eq_true rfl⟩) hZ hw hA h_o rfl rfl rfl rfl hl.1 (Nat.le_of_ble_eq_true rfl) d_MM_fill_1 ⟨Nat.le_of_ble_eq_true rfl, Nat.le_of_ble_eq_true rfl⟩ (fun v M1 H locs hp hw => ?_)
  obtain ⟨rfl, cW, fW, c0, alW, hLsW, hAl, hAz, hAi, hs1, hs2, hs3, ho⟩ := hp
  have h_sg : M1 (bd 2) = some (cI (K 0) 12 sg) := (ho _ (zq_ne h_sg h_o (by simp)) (zbd hbd 2 6) (zbd hbd 2 10)).trans h_sg
  have h_lb : M1 (bd 3) = some (cI (K 0) 48 lb) := (ho _ (zq_ne h_lb h_o (by simp)) (zbd hbd 3 6) (zbd hbd 3 10)).trans h_lb
  have h_on : M1 (bd 11) = some (cI (K 0) 384 on) := (ho _ (zq_ne h_on h_o (by simp)) (Ne.symm (zbd hbd 6 11)) (Ne.symm (zbd hbd 10 11))).trans h_on
  have h_tw : M1 (bd 12) = some (cI (K 0) 384 tw) := (ho _ (zq_ne h_tw h_o (by simp)) (Ne.symm (zbd hbd 6 12)) (Ne.symm (zbd hbd 10 12))).trans h_tw
  have h_o : M1 o = some (.inr (9, [.int (iI th), .int (iI put), .int (iI wr), .ref (bd 0), .ref (bd 1), .int (iI nn), .int (iI cir), .int (iI oN), .int (iI oC), .ref (bd 2), .ref (bd 3), .ref (bd 4), .ref (bd 5), .int (iI cW), .ref (bd 6), .ref (bd 7), .ref (bd 8), .int (iI fcs), .ref (bd 9), .int (iI (c0 + cir)), .ref (bd 10), .ref (bd 11), .ref (bd 12), .ref (bd 13), .int (iI mns), .ref (bd 14), .ref (bd 15), .ref (bd 16), .int (iI kn), .ref (bd 17)])) := hs1
  have h_rw : M1 (bd 6) = some (cI (K 0) 48 fW) := hs2
  have h_al : M1 (bd 10) = some (cI (K 0) 40 alW) := hs3
  have hfr : ∀ q, q ≠ o → q ≠ (bd 6) → q ≠ (bd 10) → q ≠ (bd 11) → q ≠ (bd 12) → M1 q = M q := fun q g0 g1 g2 g3 g4 => (ho q g0 g1 g2).trans (hfr q g0 g1 g2 g3 g4)
  refine W.eq (g2 := F0 m 4 ls []) rfl ?_
  have hL2 : ∀ (n : Nat) (k : Int) (N : Int → Int) (g1 : Int → Int) (g2 : Int → Int) (Mq : zq_M) (H : Heap) (locs : List Loc) (ls : Array Slot), (0 ≤ k ∧ k ≤ nn) → (∀ x, 0 ≤ x → x < 4 * k → x % 4 ≠ 3 → zNx lb (4 * nn) alW x (N x)) → (zFi sg N k g1 g2) → (nn - k).toNat < n → (∀ q, q ≠ o → q ≠ (bd 6) → q ≠ (bd 10) → q ≠ (bd 11) → q ≠ (bd 12) → Mq q = M q) → Mq o = some (.inr (9, [.int (iI th), .int (iI put), .int (iI wr), .ref (bd 0), .ref (bd 1), .int (iI nn), .int (iI cir), .int (iI oN), .int (iI oC), .ref (bd 2), .ref (bd 3), .ref (bd 4), .ref (bd 5), .int (iI cW), .ref (bd 6), .ref (bd 7), .ref (bd 8), .int (iI fcs), .ref (bd 9), .int (iI (c0 + cir)), .ref (bd 10), .ref (bd 11), .ref (bd 12), .ref (bd 13), .int (iI mns), .ref (bd 14), .ref (bd 15), .ref (bd 16), .int (iI kn), .ref (bd 17)])) → Mq (bd 2) = some (cI (K 0) 12 sg) → Mq (bd 3) = some (cI (K 0) 48 lb) → Mq (bd 6) = some (cI (K 0) 48 fW) → Mq (bd 10) = some (cI (K 0) 40 alW) → Mq (bd 11) = some (cI (K 0) 384 g1) → Mq (bd 12) = some (cI (K 0) 384 g2) → zq_W D vwCl A s.heap Mq H locs → lv_has ls 5 [(0, .ref o), (1, .int (iI k))] → W p l e ({ frames := 5, cells := 0, slots := 0, locals := 115 } : Room) s m [.ref o].toArray below meth co H locs 0 0 (MQ below (zq_Q D vwCl (zT K) (P_MM_fill K M o bd th put wr nn cir oN oC lbs fcs arcs mns kn sg lb rw al on tw) A) [.ref o].toArray s 0 0 A) (F0 m 35 ls []) := by
    intro n
    induction n with
    | zero =>
      intro k N g1 g2 Mq H locs ls hk hN hFi hms hfr h_o h_sg h_lb h_rw h_al h_on h_tw hw hl
      exact absurd hms (Nat.not_lt_zero _)
    | succ n ih_hL2 =>
      intro k N g1 g2 Mq H locs ls hk hN hFi hms hfr h_o h_sg h_lb h_rw h_al h_on h_tw hw hl
      refine lv_iload_n hx hb d_MM_fill_35 rfl (lv_at hl 1 rfl) ?_
      refine lv_aload_n hx hb d_MM_fill_36 rfl (lv_at hl 0 rfl) ?_
      refine zq_get hx hb hts i_MM hown hK hw h_o rfl 5 (by decide) (hts _ tw_591) rfl d_MM_fill_37 ?_
      refine zq_icmp_ge (tgt := 144) hx hb d_MM_fill_40 (by decide) ⟨by omega, by omega⟩ ⟨by omega, by omega⟩ (fun hc2 => ?_) (fun hc2 => ?_)
      · exact zq_vret hx hb hr hlocks hZ hw ⟨rfl, cW, fW, c0, alW, N, g1, g2, hLsW, hAl, hAz, hAi, (fun x h1 h2 h3 => hN x h1 (by omega) h3), (by rw [show nn = k by omega]; exact hFi), h_o, h_rw, h_al, h_on, h_tw, hfr⟩ d_MM_fill_144
      · refine lv_aload_n hx hb d_MM_fill_43 rfl (lv_at hl 0 rfl) ?_
        refine lv_aload_n hx hb d_MM_fill_44 rfl (lv_at hl 0 rfl) ?_
        refine zq_get hx hb hts i_MM hown hK hw h_o rfl 10 (by decide) (hts _ tw_596) rfl d_MM_fill_45 ?_
        refine lv_iconst (v := iI 4) hx hb d_MM_fill_48 rfl ?_
        refine lv_iload_n hx hb d_MM_fill_49 rfl (lv_at hl 1 rfl) ?_
        refine zq_imul hx hb d_MM_fill_50 ?_
        refine zq_iald hx hb hK hw 0 h_lb rfl (by omega) (by omega) (by decide) d_MM_fill_51 ?_
        refine zq_callV (As := [.int (iI (lb (4 * k)))]) (rest := []) ⟨hx, hb, hml, hown, hts⟩ (c_MM_arcNumber l D K Mq o bd th put wr nn cir oN oC cW fcs (c0 + cir) mns kn sg lb alW  (lb (4 * k)) h_o hbd h_sg h_lb h_al hsg hlb hnn hgd ⟨4 * k, by omega, by omega, rfl⟩ hAi (fun m9 h9 => by obtain ⟨j, j1, j2, j3⟩ := zAl_ex hAl h9; exact ⟨j, j1, by have := hAl.2.2; omega, j3⟩)) (cwV 1 hts (zg_V tw_767 tw_769 ts_44 tw_10 tw_770) rfl rfl rfl (by decide +kernel) ⟨Nat.le_of_ble_eq_true rfl, Nat.le_of_ble_eq_true rfl⟩) hZ hw hA h_o rfl rfl rfl rfl hl.1 (Nat.le_of_ble_eq_true rfl) d_MM_fill_52 ⟨Nat.le_of_ble_eq_true rfl, Nat.le_of_ble_eq_true rfl⟩ (fun v M4 H locs hp hw => ?_)
        obtain ⟨an3, man3, rfl, hAan3, hRan3, hEan3, hFan3, hMe⟩ := hp
        rw [hMe] at hw
        refine W.eq (g2 := F0 m 55 ls [.int (iI an3)]) rfl ?_
        refine lv_istore_n (lv' := [(2, .int (iI an3)), (0, .ref o), (1, .int (iI k))]) hx hb d_MM_fill_55 rfl hl (by decide) rfl (fun ls hl => ?_)
        refine lv_aload_n hx hb d_MM_fill_56 rfl (lv_at hl 1 rfl) ?_
        refine lv_aload_n hx hb d_MM_fill_57 rfl (lv_at hl 1 rfl) ?_
        refine zq_get hx hb hts i_MM hown hK hw h_o rfl 10 (by decide) (hts _ tw_596) rfl d_MM_fill_58 ?_
        refine lv_iconst (v := iI 4) hx hb d_MM_fill_61 rfl ?_
        refine lv_iload_n hx hb d_MM_fill_62 rfl (lv_at hl 2 rfl) ?_
        refine zq_imul hx hb d_MM_fill_63 ?_
        refine lv_iconst (v := iI 2) hx hb d_MM_fill_64 rfl ?_
        refine zq_iadd hx hb d_MM_fill_65 ?_
        refine zq_iald hx hb hK hw 0 h_lb rfl (by omega) (by omega) (by decide) d_MM_fill_66 ?_
        refine zq_callV (As := [.int (iI (lb ((4 * k) + 2)))]) (rest := []) ⟨hx, hb, hml, hown, hts⟩ (c_MM_arcNumber l D K Mq o bd th put wr nn cir oN oC cW fcs (c0 + cir) mns kn sg lb alW  (lb ((4 * k) + 2)) h_o hbd h_sg h_lb h_al hsg hlb hnn hgd ⟨4 * k + 2, by omega, by omega, rfl⟩ hAi (fun m9 h9 => by obtain ⟨j, j1, j2, j3⟩ := zAl_ex hAl h9; exact ⟨j, j1, by have := hAl.2.2; omega, j3⟩)) (cwV 1 hts (zg_V tw_767 tw_769 ts_44 tw_10 tw_770) rfl rfl rfl (by decide +kernel) ⟨Nat.le_of_ble_eq_true rfl, Nat.le_of_ble_eq_true rfl⟩) hZ hw hA h_o rfl rfl rfl rfl hl.1 (Nat.le_of_ble_eq_true rfl) d_MM_fill_67 ⟨Nat.le_of_ble_eq_true rfl, Nat.le_of_ble_eq_true rfl⟩ (fun v M6 H locs hp hw => ?_)
        obtain ⟨an5, man5, rfl, hAan5, hRan5, hEan5, hFan5, hMe⟩ := hp
        rw [hMe] at hw
        refine W.eq (g2 := F0 m 70 ls [.int (iI an5)]) rfl ?_
        refine lv_istore_n (lv' := [(3, .int (iI an5)), (2, .int (iI an3)), (0, .ref o), (1, .int (iI k))]) hx hb d_MM_fill_70 rfl hl (by decide) rfl (fun ls hl => ?_)
        refine lv_aload_n hx hb d_MM_fill_71 rfl (lv_at hl 2 rfl) ?_
        refine lv_aload_n hx hb d_MM_fill_72 rfl (lv_at hl 2 rfl) ?_
        refine zq_get hx hb hts i_MM hown hK hw h_o rfl 10 (by decide) (hts _ tw_596) rfl d_MM_fill_73 ?_
        refine lv_iconst (v := iI 4) hx hb d_MM_fill_76 rfl ?_
        refine lv_iload_n hx hb d_MM_fill_77 rfl (lv_at hl 3 rfl) ?_
        refine zq_imul hx hb d_MM_fill_78 ?_
        refine lv_iconst (v := iI 1) hx hb d_MM_fill_79 rfl ?_
        refine zq_iadd hx hb d_MM_fill_80 ?_
        refine zq_iald hx hb hK hw 0 h_lb rfl (by omega) (by omega) (by decide) d_MM_fill_81 ?_
        refine zq_callV (As := [.int (iI (lb ((4 * k) + 1)))]) (rest := []) ⟨hx, hb, hml, hown, hts⟩ (c_MM_arcNumber l D K Mq o bd th put wr nn cir oN oC cW fcs (c0 + cir) mns kn sg lb alW  (lb ((4 * k) + 1)) h_o hbd h_sg h_lb h_al hsg hlb hnn hgd ⟨4 * k + 1, by omega, by omega, rfl⟩ hAi (fun m9 h9 => by obtain ⟨j, j1, j2, j3⟩ := zAl_ex hAl h9; exact ⟨j, j1, by have := hAl.2.2; omega, j3⟩)) (cwV 1 hts (zg_V tw_767 tw_769 ts_44 tw_10 tw_770) rfl rfl rfl (by decide +kernel) ⟨Nat.le_of_ble_eq_true rfl, Nat.le_of_ble_eq_true rfl⟩) hZ hw hA h_o rfl rfl rfl rfl hl.1 (Nat.le_of_ble_eq_true rfl) d_MM_fill_82 ⟨Nat.le_of_ble_eq_true rfl, Nat.le_of_ble_eq_true rfl⟩ (fun v M8 H locs hp hw => ?_)
        obtain ⟨an7, man7, rfl, hAan7, hRan7, hEan7, hFan7, hMe⟩ := hp
        rw [hMe] at hw
        refine W.eq (g2 := F0 m 85 ls [.int (iI an7)]) rfl ?_
        refine lv_istore (lv' := [(4, .int (iI an7)), (3, .int (iI an5)), (2, .int (iI an3)), (0, .ref o), (1, .int (iI k))]) hx hb d_MM_fill_85 hl (by decide) rfl (fun ls hl => ?_)
        have hnan3 : zNx lb (4 * nn) alW (4 * k) an3 := ⟨hRan3, man3, hAan3, hEan3, hFan3⟩
        have hx1 : 0 ≤ an3 ∧ an3 < 32 := by have h8 := zNx_lt hAl hnan3; have h9 := hAl.2.2; omega
        have hnan5 : zNx lb (4 * nn) alW (4 * k + 2) an5 := ⟨hRan5, man5, hAan5, hEan5, hFan5⟩
        have hx2 : 0 ≤ an5 ∧ an5 < 32 := by have h8 := zNx_lt hAl hnan5; have h9 := hAl.2.2; omega
        have hnan7 : zNx lb (4 * nn) alW (4 * k + 1) an7 := ⟨hRan7, man7, hAan7, hEan7, hFan7⟩
        have hx3 : 0 ≤ an7 ∧ an7 < 32 := by have h8 := zNx_lt hAl hnan7; have h9 := hAl.2.2; omega
        have h3n := zN3_0 N k an3 an5 an7
        have hNn : ∀ x, 0 ≤ x → x < 4 * (k + 1) → x % 4 ≠ 3 → zNx lb (4 * nn) alW x (zN3 N k an3 an5 an7 x) := fun x h1 h2 h9 => by by_cases q : x < 4 * k; rw [h3n.2.2.2 x q]; exact hN x h1 q h9; rcases (show x = 4 * k ∨ x = 4 * k + 1 ∨ x = 4 * k + 2 by omega) with e | e | e; rw [e, h3n.1]; exact hnan3; rw [e, h3n.2.2.1]; exact hnan7; rw [e, h3n.2.1]; exact hnan5
        refine lv_aload_n hx hb d_MM_fill_87 rfl (lv_at hl 3 rfl) ?_
        refine lv_iload_n hx hb d_MM_fill_88 rfl (lv_at hl 4 rfl) ?_
        refine lv_aload_n hx hb d_MM_fill_89 rfl (lv_at hl 3 rfl) ?_
        refine zq_get hx hb hts i_MM hown hK hw h_o rfl 9 (by decide) (hts _ tw_595) rfl d_MM_fill_90 ?_
        refine lv_iload_n hx hb d_MM_fill_93 rfl (lv_at hl 4 rfl) ?_
        refine zq_iald hx hb hK hw 0 h_sg rfl (by omega) (by omega) (by decide) d_MM_fill_94 ?_
        refine zq_if_le (tgt := 102) hx hb d_MM_fill_95 (by decide) (hsg _) (fun hc9 => ?_) (fun hc9 => ?_)
        · refine lv_iload_n hx hb d_MM_fill_102 rfl (lv_at hl 1 rfl) ?_
          refine lv_iconst (v := iI 0) hx hb d_MM_fill_103 rfl ?_
          refine lv_iconst (v := iI 1) hx hb d_MM_fill_104 rfl ?_
          refine zq_callV (As := [.int (iI k), .int (iI an5), .int (iI 0), .int (iI 1)]) (rest := []) ⟨hx, hb, hml, hown, hts⟩ (c_MM_addEntry l D K Mq o bd th put wr nn cir oN oC cW fcs (c0 + cir) mns kn g1 g2  k an5 0 1 h_o hbd h_on h_tw ⟨by omega, by omega⟩ ⟨by omega, by omega⟩) (cwV 4 hts (zg_V tw_771 tw_773 ts_45 tw_10 tw_774) rfl rfl rfl (by decide +kernel) ⟨Nat.le_of_ble_eq_true rfl, Nat.le_of_ble_eq_true rfl⟩) hZ hw hA h_o rfl rfl rfl rfl hl.1 (Nat.le_of_ble_eq_true rfl) d_MM_fill_105 ⟨Nat.le_of_ble_eq_true rfl, Nat.le_of_ble_eq_true rfl⟩ (fun v M10 H locs hp hw => ?_)
          obtain ⟨rfl, hs1, hs2, ho⟩ := hp
          have h_o : M10 o = some (.inr (9, [.int (iI th), .int (iI put), .int (iI wr), .ref (bd 0), .ref (bd 1), .int (iI nn), .int (iI cir), .int (iI oN), .int (iI oC), .ref (bd 2), .ref (bd 3), .ref (bd 4), .ref (bd 5), .int (iI cW), .ref (bd 6), .ref (bd 7), .ref (bd 8), .int (iI fcs), .ref (bd 9), .int (iI (c0 + cir)), .ref (bd 10), .ref (bd 11), .ref (bd 12), .ref (bd 13), .int (iI mns), .ref (bd 14), .ref (bd 15), .ref (bd 16), .int (iI kn), .ref (bd 17)])) := (ho _ (zq_ne h_o h_on (by simp)) (zq_ne h_o h_tw (by simp))).trans h_o
          have h_sg : M10 (bd 2) = some (cI (K 0) 12 sg) := (ho _ (zbd hbd 2 11) (zbd hbd 2 12)).trans h_sg
          have h_lb : M10 (bd 3) = some (cI (K 0) 48 lb) := (ho _ (zbd hbd 3 11) (zbd hbd 3 12)).trans h_lb
          have h_rw : M10 (bd 6) = some (cI (K 0) 48 fW) := (ho _ (zbd hbd 6 11) (zbd hbd 6 12)).trans h_rw
          have h_al : M10 (bd 10) = some (cI (K 0) 40 alW) := (ho _ (zbd hbd 10 11) (zbd hbd 10 12)).trans h_al
          have h_on : M10 (bd 11) = some (cI (K 0) 384 (zaD g1 (32 * k + an5) 0)) := hs1
          have h_tw : M10 (bd 12) = some (cI (K 0) 384 (zaD g2 (32 * k + an5) 1)) := hs2
          have hfr : ∀ q, q ≠ o → q ≠ (bd 6) → q ≠ (bd 10) → q ≠ (bd 11) → q ≠ (bd 12) → M10 q = M q := fun q g0 g1 g2 g3 g4 => (ho q g3 g4).trans (hfr q g0 g1 g2 g3 g4)
          refine W.eq (g2 := F0 m 108 ls []) rfl ?_
          refine lv_aload_n hx hb d_MM_fill_108 rfl (lv_at hl 3 rfl) ?_
          refine lv_iload_n hx hb d_MM_fill_109 rfl (lv_at hl 4 rfl) ?_
          refine lv_aload_n hx hb d_MM_fill_110 rfl (lv_at hl 3 rfl) ?_
          refine zq_get hx hb hts i_MM hown hK hw h_o rfl 9 (by decide) (hts _ tw_595) rfl d_MM_fill_111 ?_
          refine lv_iload_n hx hb d_MM_fill_114 rfl (lv_at hl 4 rfl) ?_
          refine zq_iald hx hb hK hw 0 h_sg rfl (by omega) (by omega) (by decide) d_MM_fill_115 ?_
          refine zq_if_le (tgt := 123) hx hb d_MM_fill_116 (by decide) (hsg _) (fun hc11 => ?_) (fun hc11 => ?_)
          · refine lv_iload_n hx hb d_MM_fill_123 rfl (lv_at hl 2 rfl) ?_
            refine lv_iconst (v := iI (-1)) hx hb d_MM_fill_124 rfl ?_
            refine lv_iconst (v := iI 0) hx hb d_MM_fill_125 rfl ?_
            refine zq_callV (As := [.int (iI k), .int (iI an3), .int (iI (-1)), .int (iI 0)]) (rest := []) ⟨hx, hb, hml, hown, hts⟩ (c_MM_addEntry l D K M10 o bd th put wr nn cir oN oC cW fcs (c0 + cir) mns kn (zaD g1 (32 * k + an5) 0) (zaD g2 (32 * k + an5) 1)  k an3 (-1) 0 h_o hbd h_on h_tw ⟨by omega, by omega⟩ ⟨by omega, by omega⟩) (cwV 4 hts (zg_V tw_771 tw_773 ts_45 tw_10 tw_774) rfl rfl rfl (by decide +kernel) ⟨Nat.le_of_ble_eq_true rfl, Nat.le_of_ble_eq_true rfl⟩) hZ hw hA h_o rfl rfl rfl rfl hl.1 (Nat.le_of_ble_eq_true rfl) d_MM_fill_126 ⟨Nat.le_of_ble_eq_true rfl, Nat.le_of_ble_eq_true rfl⟩ (fun v M12 H locs hp hw => ?_)
            obtain ⟨rfl, hs1, hs2, ho⟩ := hp
            have h_o : M12 o = some (.inr (9, [.int (iI th), .int (iI put), .int (iI wr), .ref (bd 0), .ref (bd 1), .int (iI nn), .int (iI cir), .int (iI oN), .int (iI oC), .ref (bd 2), .ref (bd 3), .ref (bd 4), .ref (bd 5), .int (iI cW), .ref (bd 6), .ref (bd 7), .ref (bd 8), .int (iI fcs), .ref (bd 9), .int (iI (c0 + cir)), .ref (bd 10), .ref (bd 11), .ref (bd 12), .ref (bd 13), .int (iI mns), .ref (bd 14), .ref (bd 15), .ref (bd 16), .int (iI kn), .ref (bd 17)])) := (ho _ (zq_ne h_o h_on (by simp)) (zq_ne h_o h_tw (by simp))).trans h_o
            have h_sg : M12 (bd 2) = some (cI (K 0) 12 sg) := (ho _ (zbd hbd 2 11) (zbd hbd 2 12)).trans h_sg
            have h_lb : M12 (bd 3) = some (cI (K 0) 48 lb) := (ho _ (zbd hbd 3 11) (zbd hbd 3 12)).trans h_lb
            have h_rw : M12 (bd 6) = some (cI (K 0) 48 fW) := (ho _ (zbd hbd 6 11) (zbd hbd 6 12)).trans h_rw
            have h_al : M12 (bd 10) = some (cI (K 0) 40 alW) := (ho _ (zbd hbd 10 11) (zbd hbd 10 12)).trans h_al
            have h_on : M12 (bd 11) = some (cI (K 0) 384 (zaD (zaD g1 (32 * k + an5) 0) (32 * k + an3) (-1))) := hs1
            have h_tw : M12 (bd 12) = some (cI (K 0) 384 (zaD (zaD g2 (32 * k + an5) 1) (32 * k + an3) 0)) := hs2
            have hfr : ∀ q, q ≠ o → q ≠ (bd 6) → q ≠ (bd 10) → q ≠ (bd 11) → q ≠ (bd 12) → M12 q = M q := fun q g0 g1 g2 g3 g4 => (ho q g3 g4).trans (hfr q g0 g1 g2 g3 g4)
            refine W.eq (g2 := F0 m 129 ls []) rfl ?_
            refine lv_aload_n hx hb d_MM_fill_129 rfl (lv_at hl 3 rfl) ?_
            refine lv_iload_n hx hb d_MM_fill_130 rfl (lv_at hl 4 rfl) ?_
            refine lv_iload hx hb d_MM_fill_131 (lv_at hl 0 rfl) ?_
            refine lv_iconst (v := iI 1) hx hb d_MM_fill_133 rfl ?_
            refine lv_iconst (v := iI (-1)) hx hb d_MM_fill_134 rfl ?_
            refine zq_callV (As := [.int (iI k), .int (iI an7), .int (iI 1), .int (iI (-1))]) (rest := []) ⟨hx, hb, hml, hown, hts⟩ (c_MM_addEntry l D K M12 o bd th put wr nn cir oN oC cW fcs (c0 + cir) mns kn (zaD (zaD g1 (32 * k + an5) 0) (32 * k + an3) (-1)) (zaD (zaD g2 (32 * k + an5) 1) (32 * k + an3) 0)  k an7 1 (-1) h_o hbd h_on h_tw ⟨by omega, by omega⟩ ⟨by omega, by omega⟩) (cwV 4 hts (zg_V tw_771 tw_773 ts_45 tw_10 tw_774) rfl rfl rfl (by decide +kernel) ⟨Nat.le_of_ble_eq_true rfl, Nat.le_of_ble_eq_true rfl⟩) hZ hw hA h_o rfl rfl rfl rfl hl.1 (Nat.le_of_ble_eq_true rfl) d_MM_fill_135 ⟨Nat.le_of_ble_eq_true rfl, Nat.le_of_ble_eq_true rfl⟩ (fun v M13 H locs hp hw => ?_)
            obtain ⟨rfl, hs1, hs2, ho⟩ := hp
            have h_o : M13 o = some (.inr (9, [.int (iI th), .int (iI put), .int (iI wr), .ref (bd 0), .ref (bd 1), .int (iI nn), .int (iI cir), .int (iI oN), .int (iI oC), .ref (bd 2), .ref (bd 3), .ref (bd 4), .ref (bd 5), .int (iI cW), .ref (bd 6), .ref (bd 7), .ref (bd 8), .int (iI fcs), .ref (bd 9), .int (iI (c0 + cir)), .ref (bd 10), .ref (bd 11), .ref (bd 12), .ref (bd 13), .int (iI mns), .ref (bd 14), .ref (bd 15), .ref (bd 16), .int (iI kn), .ref (bd 17)])) := (ho _ (zq_ne h_o h_on (by simp)) (zq_ne h_o h_tw (by simp))).trans h_o
            have h_sg : M13 (bd 2) = some (cI (K 0) 12 sg) := (ho _ (zbd hbd 2 11) (zbd hbd 2 12)).trans h_sg
            have h_lb : M13 (bd 3) = some (cI (K 0) 48 lb) := (ho _ (zbd hbd 3 11) (zbd hbd 3 12)).trans h_lb
            have h_rw : M13 (bd 6) = some (cI (K 0) 48 fW) := (ho _ (zbd hbd 6 11) (zbd hbd 6 12)).trans h_rw
            have h_al : M13 (bd 10) = some (cI (K 0) 40 alW) := (ho _ (zbd hbd 10 11) (zbd hbd 10 12)).trans h_al
            have h_on : M13 (bd 11) = some (cI (K 0) 384 (zaD (zaD (zaD g1 (32 * k + an5) 0) (32 * k + an3) (-1)) (32 * k + an7) 1)) := hs1
            have h_tw : M13 (bd 12) = some (cI (K 0) 384 (zaD (zaD (zaD g2 (32 * k + an5) 1) (32 * k + an3) 0) (32 * k + an7) (-1))) := hs2
            have hfr : ∀ q, q ≠ o → q ≠ (bd 6) → q ≠ (bd 10) → q ≠ (bd 11) → q ≠ (bd 12) → M13 q = M q := fun q g0 g1 g2 g3 g4 => (ho q g3 g4).trans (hfr q g0 g1 g2 g3 g4)
            refine W.eq (g2 := F0 m 138 ls []) rfl ?_
            refine lv_iinc (v := iI (k + 1)) (lv' := [(1, .int (iI (k + 1))), (4, .int (iI an7)), (3, .int (iI an5)), (2, .int (iI an3)), (0, .ref o)]) hx hb d_MM_fill_138 hl (k := 4) rfl (iI_add _ _) (by decide) rfl (fun ls hl => ?_)
            refine lv_goto (tgt := 35) hx hb d_MM_fill_141 (by decide) ?_
            exact ih_hL2 (k + 1) (zN3 N k an3 an5 an7) (zaD (zaD (zaD g1 (32 * k + an5) 0) (32 * k + an3) (-1)) (32 * k + an7) 1) (zaD (zaD (zaD g2 (32 * k + an5) 1) (32 * k + an3) 0) (32 * k + an7) (-1)) M13 _ _ _ (by omega) hNn (zFi_step hFi hk.1 hx1 hx2 hx3 (by omega)) (by omega) hfr h_o h_sg h_lb h_rw h_al h_on h_tw hw (lv_sub hl [4, 0] rfl)
          · refine lv_iload_n hx hb d_MM_fill_119 rfl (lv_at hl 1 rfl) ?_
            refine lv_goto (tgt := 124) hx hb d_MM_fill_120 (by decide) ?_
            refine lv_iconst (v := iI (-1)) hx hb d_MM_fill_124 rfl ?_
            refine lv_iconst (v := iI 0) hx hb d_MM_fill_125 rfl ?_
            refine zq_callV (As := [.int (iI k), .int (iI an5), .int (iI (-1)), .int (iI 0)]) (rest := []) ⟨hx, hb, hml, hown, hts⟩ (c_MM_addEntry l D K M10 o bd th put wr nn cir oN oC cW fcs (c0 + cir) mns kn (zaD g1 (32 * k + an5) 0) (zaD g2 (32 * k + an5) 1)  k an5 (-1) 0 h_o hbd h_on h_tw ⟨by omega, by omega⟩ ⟨by omega, by omega⟩) (cwV 4 hts (zg_V tw_771 tw_773 ts_45 tw_10 tw_774) rfl rfl rfl (by decide +kernel) ⟨Nat.le_of_ble_eq_true rfl, Nat.le_of_ble_eq_true rfl⟩) hZ hw hA h_o rfl rfl rfl rfl hl.1 (Nat.le_of_ble_eq_true rfl) d_MM_fill_126 ⟨Nat.le_of_ble_eq_true rfl, Nat.le_of_ble_eq_true rfl⟩ (fun v M14 H locs hp hw => ?_)
            obtain ⟨rfl, hs1, hs2, ho⟩ := hp
            have h_o : M14 o = some (.inr (9, [.int (iI th), .int (iI put), .int (iI wr), .ref (bd 0), .ref (bd 1), .int (iI nn), .int (iI cir), .int (iI oN), .int (iI oC), .ref (bd 2), .ref (bd 3), .ref (bd 4), .ref (bd 5), .int (iI cW), .ref (bd 6), .ref (bd 7), .ref (bd 8), .int (iI fcs), .ref (bd 9), .int (iI (c0 + cir)), .ref (bd 10), .ref (bd 11), .ref (bd 12), .ref (bd 13), .int (iI mns), .ref (bd 14), .ref (bd 15), .ref (bd 16), .int (iI kn), .ref (bd 17)])) := (ho _ (zq_ne h_o h_on (by simp)) (zq_ne h_o h_tw (by simp))).trans h_o
            have h_sg : M14 (bd 2) = some (cI (K 0) 12 sg) := (ho _ (zbd hbd 2 11) (zbd hbd 2 12)).trans h_sg
            have h_lb : M14 (bd 3) = some (cI (K 0) 48 lb) := (ho _ (zbd hbd 3 11) (zbd hbd 3 12)).trans h_lb
            have h_rw : M14 (bd 6) = some (cI (K 0) 48 fW) := (ho _ (zbd hbd 6 11) (zbd hbd 6 12)).trans h_rw
            have h_al : M14 (bd 10) = some (cI (K 0) 40 alW) := (ho _ (zbd hbd 10 11) (zbd hbd 10 12)).trans h_al
            have h_on : M14 (bd 11) = some (cI (K 0) 384 (zaD (zaD g1 (32 * k + an5) 0) (32 * k + an5) (-1))) := hs1
            have h_tw : M14 (bd 12) = some (cI (K 0) 384 (zaD (zaD g2 (32 * k + an5) 1) (32 * k + an5) 0)) := hs2
            have hfr : ∀ q, q ≠ o → q ≠ (bd 6) → q ≠ (bd 10) → q ≠ (bd 11) → q ≠ (bd 12) → M14 q = M q := fun q g0 g1 g2 g3 g4 => (ho q g3 g4).trans (hfr q g0 g1 g2 g3 g4)
            refine W.eq (g2 := F0 m 129 ls []) rfl ?_
            refine lv_aload_n hx hb d_MM_fill_129 rfl (lv_at hl 3 rfl) ?_
            refine lv_iload_n hx hb d_MM_fill_130 rfl (lv_at hl 4 rfl) ?_
            refine lv_iload hx hb d_MM_fill_131 (lv_at hl 0 rfl) ?_
            refine lv_iconst (v := iI 1) hx hb d_MM_fill_133 rfl ?_
            refine lv_iconst (v := iI (-1)) hx hb d_MM_fill_134 rfl ?_
            refine zq_callV (As := [.int (iI k), .int (iI an7), .int (iI 1), .int (iI (-1))]) (rest := []) ⟨hx, hb, hml, hown, hts⟩ (c_MM_addEntry l D K M14 o bd th put wr nn cir oN oC cW fcs (c0 + cir) mns kn (zaD (zaD g1 (32 * k + an5) 0) (32 * k + an5) (-1)) (zaD (zaD g2 (32 * k + an5) 1) (32 * k + an5) 0)  k an7 1 (-1) h_o hbd h_on h_tw ⟨by omega, by omega⟩ ⟨by omega, by omega⟩) (cwV 4 hts (zg_V tw_771 tw_773 ts_45 tw_10 tw_774) rfl rfl rfl (by decide +kernel) ⟨Nat.le_of_ble_eq_true rfl, Nat.le_of_ble_eq_true rfl⟩) hZ hw hA h_o rfl rfl rfl rfl hl.1 (Nat.le_of_ble_eq_true rfl) d_MM_fill_135 ⟨Nat.le_of_ble_eq_true rfl, Nat.le_of_ble_eq_true rfl⟩ (fun v M15 H locs hp hw => ?_)
            obtain ⟨rfl, hs1, hs2, ho⟩ := hp
            have h_o : M15 o = some (.inr (9, [.int (iI th), .int (iI put), .int (iI wr), .ref (bd 0), .ref (bd 1), .int (iI nn), .int (iI cir), .int (iI oN), .int (iI oC), .ref (bd 2), .ref (bd 3), .ref (bd 4), .ref (bd 5), .int (iI cW), .ref (bd 6), .ref (bd 7), .ref (bd 8), .int (iI fcs), .ref (bd 9), .int (iI (c0 + cir)), .ref (bd 10), .ref (bd 11), .ref (bd 12), .ref (bd 13), .int (iI mns), .ref (bd 14), .ref (bd 15), .ref (bd 16), .int (iI kn), .ref (bd 17)])) := (ho _ (zq_ne h_o h_on (by simp)) (zq_ne h_o h_tw (by simp))).trans h_o
            have h_sg : M15 (bd 2) = some (cI (K 0) 12 sg) := (ho _ (zbd hbd 2 11) (zbd hbd 2 12)).trans h_sg
            have h_lb : M15 (bd 3) = some (cI (K 0) 48 lb) := (ho _ (zbd hbd 3 11) (zbd hbd 3 12)).trans h_lb
            have h_rw : M15 (bd 6) = some (cI (K 0) 48 fW) := (ho _ (zbd hbd 6 11) (zbd hbd 6 12)).trans h_rw
            have h_al : M15 (bd 10) = some (cI (K 0) 40 alW) := (ho _ (zbd hbd 10 11) (zbd hbd 10 12)).trans h_al
            have h_on : M15 (bd 11) = some (cI (K 0) 384 (zaD (zaD (zaD g1 (32 * k + an5) 0) (32 * k + an5) (-1)) (32 * k + an7) 1)) := hs1
            have h_tw : M15 (bd 12) = some (cI (K 0) 384 (zaD (zaD (zaD g2 (32 * k + an5) 1) (32 * k + an5) 0) (32 * k + an7) (-1))) := hs2
            have hfr : ∀ q, q ≠ o → q ≠ (bd 6) → q ≠ (bd 10) → q ≠ (bd 11) → q ≠ (bd 12) → M15 q = M q := fun q g0 g1 g2 g3 g4 => (ho q g3 g4).trans (hfr q g0 g1 g2 g3 g4)
            refine W.eq (g2 := F0 m 138 ls []) rfl ?_
            refine lv_iinc (v := iI (k + 1)) (lv' := [(1, .int (iI (k + 1))), (4, .int (iI an7)), (3, .int (iI an5)), (2, .int (iI an3)), (0, .ref o)]) hx hb d_MM_fill_138 hl (k := 4) rfl (iI_add _ _) (by decide) rfl (fun ls hl => ?_)
            refine lv_goto (tgt := 35) hx hb d_MM_fill_141 (by decide) ?_
            exact ih_hL2 (k + 1) (zN3 N k an3 an5 an7) (zaD (zaD (zaD g1 (32 * k + an5) 0) (32 * k + an5) (-1)) (32 * k + an7) 1) (zaD (zaD (zaD g2 (32 * k + an5) 1) (32 * k + an5) 0) (32 * k + an7) (-1)) M15 _ _ _ (by omega) hNn (zFi_step hFi hk.1 hx1 hx2 hx3 (by omega)) (by omega) hfr h_o h_sg h_lb h_rw h_al h_on h_tw hw (lv_sub hl [4, 0] rfl)
        · refine lv_iload_n hx hb d_MM_fill_98 rfl (lv_at hl 2 rfl) ?_
          refine lv_goto (tgt := 103) hx hb d_MM_fill_99 (by decide) ?_
          refine lv_iconst (v := iI 0) hx hb d_MM_fill_103 rfl ?_
          refine lv_iconst (v := iI 1) hx hb d_MM_fill_104 rfl ?_
          refine zq_callV (As := [.int (iI k), .int (iI an3), .int (iI 0), .int (iI 1)]) (rest := []) ⟨hx, hb, hml, hown, hts⟩ (c_MM_addEntry l D K Mq o bd th put wr nn cir oN oC cW fcs (c0 + cir) mns kn g1 g2  k an3 0 1 h_o hbd h_on h_tw ⟨by omega, by omega⟩ ⟨by omega, by omega⟩) (cwV 4 hts (zg_V tw_771 tw_773 ts_45 tw_10 tw_774) rfl rfl rfl (by decide +kernel) ⟨Nat.le_of_ble_eq_true rfl, Nat.le_of_ble_eq_true rfl⟩) hZ hw hA h_o rfl rfl rfl rfl hl.1 (Nat.le_of_ble_eq_true rfl) d_MM_fill_105 ⟨Nat.le_of_ble_eq_true rfl, Nat.le_of_ble_eq_true rfl⟩ (fun v M16 H locs hp hw => ?_)
          obtain ⟨rfl, hs1, hs2, ho⟩ := hp
          have h_o : M16 o = some (.inr (9, [.int (iI th), .int (iI put), .int (iI wr), .ref (bd 0), .ref (bd 1), .int (iI nn), .int (iI cir), .int (iI oN), .int (iI oC), .ref (bd 2), .ref (bd 3), .ref (bd 4), .ref (bd 5), .int (iI cW), .ref (bd 6), .ref (bd 7), .ref (bd 8), .int (iI fcs), .ref (bd 9), .int (iI (c0 + cir)), .ref (bd 10), .ref (bd 11), .ref (bd 12), .ref (bd 13), .int (iI mns), .ref (bd 14), .ref (bd 15), .ref (bd 16), .int (iI kn), .ref (bd 17)])) := (ho _ (zq_ne h_o h_on (by simp)) (zq_ne h_o h_tw (by simp))).trans h_o
          have h_sg : M16 (bd 2) = some (cI (K 0) 12 sg) := (ho _ (zbd hbd 2 11) (zbd hbd 2 12)).trans h_sg
          have h_lb : M16 (bd 3) = some (cI (K 0) 48 lb) := (ho _ (zbd hbd 3 11) (zbd hbd 3 12)).trans h_lb
          have h_rw : M16 (bd 6) = some (cI (K 0) 48 fW) := (ho _ (zbd hbd 6 11) (zbd hbd 6 12)).trans h_rw
          have h_al : M16 (bd 10) = some (cI (K 0) 40 alW) := (ho _ (zbd hbd 10 11) (zbd hbd 10 12)).trans h_al
          have h_on : M16 (bd 11) = some (cI (K 0) 384 (zaD g1 (32 * k + an3) 0)) := hs1
          have h_tw : M16 (bd 12) = some (cI (K 0) 384 (zaD g2 (32 * k + an3) 1)) := hs2
          have hfr : ∀ q, q ≠ o → q ≠ (bd 6) → q ≠ (bd 10) → q ≠ (bd 11) → q ≠ (bd 12) → M16 q = M q := fun q g0 g1 g2 g3 g4 => (ho q g3 g4).trans (hfr q g0 g1 g2 g3 g4)
          refine W.eq (g2 := F0 m 108 ls []) rfl ?_
          refine lv_aload_n hx hb d_MM_fill_108 rfl (lv_at hl 3 rfl) ?_
          refine lv_iload_n hx hb d_MM_fill_109 rfl (lv_at hl 4 rfl) ?_
          refine lv_aload_n hx hb d_MM_fill_110 rfl (lv_at hl 3 rfl) ?_
          refine zq_get hx hb hts i_MM hown hK hw h_o rfl 9 (by decide) (hts _ tw_595) rfl d_MM_fill_111 ?_
          refine lv_iload_n hx hb d_MM_fill_114 rfl (lv_at hl 4 rfl) ?_
          refine zq_iald hx hb hK hw 0 h_sg rfl (by omega) (by omega) (by decide) d_MM_fill_115 ?_
          refine zq_if_le (tgt := 123) hx hb d_MM_fill_116 (by decide) (hsg _) (fun hc17 => ?_) (fun hc17 => ?_)
          · refine lv_iload_n hx hb d_MM_fill_123 rfl (lv_at hl 2 rfl) ?_
            refine lv_iconst (v := iI (-1)) hx hb d_MM_fill_124 rfl ?_
            refine lv_iconst (v := iI 0) hx hb d_MM_fill_125 rfl ?_
            refine zq_callV (As := [.int (iI k), .int (iI an3), .int (iI (-1)), .int (iI 0)]) (rest := []) ⟨hx, hb, hml, hown, hts⟩ (c_MM_addEntry l D K M16 o bd th put wr nn cir oN oC cW fcs (c0 + cir) mns kn (zaD g1 (32 * k + an3) 0) (zaD g2 (32 * k + an3) 1)  k an3 (-1) 0 h_o hbd h_on h_tw ⟨by omega, by omega⟩ ⟨by omega, by omega⟩) (cwV 4 hts (zg_V tw_771 tw_773 ts_45 tw_10 tw_774) rfl rfl rfl (by decide +kernel) ⟨Nat.le_of_ble_eq_true rfl, Nat.le_of_ble_eq_true rfl⟩) hZ hw hA h_o rfl rfl rfl rfl hl.1 (Nat.le_of_ble_eq_true rfl) d_MM_fill_126 ⟨Nat.le_of_ble_eq_true rfl, Nat.le_of_ble_eq_true rfl⟩ (fun v M18 H locs hp hw => ?_)
            obtain ⟨rfl, hs1, hs2, ho⟩ := hp
            have h_o : M18 o = some (.inr (9, [.int (iI th), .int (iI put), .int (iI wr), .ref (bd 0), .ref (bd 1), .int (iI nn), .int (iI cir), .int (iI oN), .int (iI oC), .ref (bd 2), .ref (bd 3), .ref (bd 4), .ref (bd 5), .int (iI cW), .ref (bd 6), .ref (bd 7), .ref (bd 8), .int (iI fcs), .ref (bd 9), .int (iI (c0 + cir)), .ref (bd 10), .ref (bd 11), .ref (bd 12), .ref (bd 13), .int (iI mns), .ref (bd 14), .ref (bd 15), .ref (bd 16), .int (iI kn), .ref (bd 17)])) := (ho _ (zq_ne h_o h_on (by simp)) (zq_ne h_o h_tw (by simp))).trans h_o
            have h_sg : M18 (bd 2) = some (cI (K 0) 12 sg) := (ho _ (zbd hbd 2 11) (zbd hbd 2 12)).trans h_sg
            have h_lb : M18 (bd 3) = some (cI (K 0) 48 lb) := (ho _ (zbd hbd 3 11) (zbd hbd 3 12)).trans h_lb
            have h_rw : M18 (bd 6) = some (cI (K 0) 48 fW) := (ho _ (zbd hbd 6 11) (zbd hbd 6 12)).trans h_rw
            have h_al : M18 (bd 10) = some (cI (K 0) 40 alW) := (ho _ (zbd hbd 10 11) (zbd hbd 10 12)).trans h_al
            have h_on : M18 (bd 11) = some (cI (K 0) 384 (zaD (zaD g1 (32 * k + an3) 0) (32 * k + an3) (-1))) := hs1
            have h_tw : M18 (bd 12) = some (cI (K 0) 384 (zaD (zaD g2 (32 * k + an3) 1) (32 * k + an3) 0)) := hs2
            have hfr : ∀ q, q ≠ o → q ≠ (bd 6) → q ≠ (bd 10) → q ≠ (bd 11) → q ≠ (bd 12) → M18 q = M q := fun q g0 g1 g2 g3 g4 => (ho q g3 g4).trans (hfr q g0 g1 g2 g3 g4)
            refine W.eq (g2 := F0 m 129 ls []) rfl ?_
            refine lv_aload_n hx hb d_MM_fill_129 rfl (lv_at hl 3 rfl) ?_
            refine lv_iload_n hx hb d_MM_fill_130 rfl (lv_at hl 4 rfl) ?_
            refine lv_iload hx hb d_MM_fill_131 (lv_at hl 0 rfl) ?_
            refine lv_iconst (v := iI 1) hx hb d_MM_fill_133 rfl ?_
            refine lv_iconst (v := iI (-1)) hx hb d_MM_fill_134 rfl ?_
            refine zq_callV (As := [.int (iI k), .int (iI an7), .int (iI 1), .int (iI (-1))]) (rest := []) ⟨hx, hb, hml, hown, hts⟩ (c_MM_addEntry l D K M18 o bd th put wr nn cir oN oC cW fcs (c0 + cir) mns kn (zaD (zaD g1 (32 * k + an3) 0) (32 * k + an3) (-1)) (zaD (zaD g2 (32 * k + an3) 1) (32 * k + an3) 0)  k an7 1 (-1) h_o hbd h_on h_tw ⟨by omega, by omega⟩ ⟨by omega, by omega⟩) (cwV 4 hts (zg_V tw_771 tw_773 ts_45 tw_10 tw_774) rfl rfl rfl (by decide +kernel) ⟨Nat.le_of_ble_eq_true rfl, Nat.le_of_ble_eq_true rfl⟩) hZ hw hA h_o rfl rfl rfl rfl hl.1 (Nat.le_of_ble_eq_true rfl) d_MM_fill_135 ⟨Nat.le_of_ble_eq_true rfl, Nat.le_of_ble_eq_true rfl⟩ (fun v M19 H locs hp hw => ?_)
            obtain ⟨rfl, hs1, hs2, ho⟩ := hp
            have h_o : M19 o = some (.inr (9, [.int (iI th), .int (iI put), .int (iI wr), .ref (bd 0), .ref (bd 1), .int (iI nn), .int (iI cir), .int (iI oN), .int (iI oC), .ref (bd 2), .ref (bd 3), .ref (bd 4), .ref (bd 5), .int (iI cW), .ref (bd 6), .ref (bd 7), .ref (bd 8), .int (iI fcs), .ref (bd 9), .int (iI (c0 + cir)), .ref (bd 10), .ref (bd 11), .ref (bd 12), .ref (bd 13), .int (iI mns), .ref (bd 14), .ref (bd 15), .ref (bd 16), .int (iI kn), .ref (bd 17)])) := (ho _ (zq_ne h_o h_on (by simp)) (zq_ne h_o h_tw (by simp))).trans h_o
            have h_sg : M19 (bd 2) = some (cI (K 0) 12 sg) := (ho _ (zbd hbd 2 11) (zbd hbd 2 12)).trans h_sg
            have h_lb : M19 (bd 3) = some (cI (K 0) 48 lb) := (ho _ (zbd hbd 3 11) (zbd hbd 3 12)).trans h_lb
            have h_rw : M19 (bd 6) = some (cI (K 0) 48 fW) := (ho _ (zbd hbd 6 11) (zbd hbd 6 12)).trans h_rw
            have h_al : M19 (bd 10) = some (cI (K 0) 40 alW) := (ho _ (zbd hbd 10 11) (zbd hbd 10 12)).trans h_al
            have h_on : M19 (bd 11) = some (cI (K 0) 384 (zaD (zaD (zaD g1 (32 * k + an3) 0) (32 * k + an3) (-1)) (32 * k + an7) 1)) := hs1
            have h_tw : M19 (bd 12) = some (cI (K 0) 384 (zaD (zaD (zaD g2 (32 * k + an3) 1) (32 * k + an3) 0) (32 * k + an7) (-1))) := hs2
            have hfr : ∀ q, q ≠ o → q ≠ (bd 6) → q ≠ (bd 10) → q ≠ (bd 11) → q ≠ (bd 12) → M19 q = M q := fun q g0 g1 g2 g3 g4 => (ho q g3 g4).trans (hfr q g0 g1 g2 g3 g4)
            refine W.eq (g2 := F0 m 138 ls []) rfl ?_
            refine lv_iinc (v := iI (k + 1)) (lv' := [(1, .int (iI (k + 1))), (4, .int (iI an7)), (3, .int (iI an5)), (2, .int (iI an3)), (0, .ref o)]) hx hb d_MM_fill_138 hl (k := 4) rfl (iI_add _ _) (by decide) rfl (fun ls hl => ?_)
            refine lv_goto (tgt := 35) hx hb d_MM_fill_141 (by decide) ?_
            exact ih_hL2 (k + 1) (zN3 N k an3 an5 an7) (zaD (zaD (zaD g1 (32 * k + an3) 0) (32 * k + an3) (-1)) (32 * k + an7) 1) (zaD (zaD (zaD g2 (32 * k + an3) 1) (32 * k + an3) 0) (32 * k + an7) (-1)) M19 _ _ _ (by omega) hNn (zFi_step hFi hk.1 hx1 hx2 hx3 (by omega)) (by omega) hfr h_o h_sg h_lb h_rw h_al h_on h_tw hw (lv_sub hl [4, 0] rfl)
          · refine lv_iload_n hx hb d_MM_fill_119 rfl (lv_at hl 1 rfl) ?_
            refine lv_goto (tgt := 124) hx hb d_MM_fill_120 (by decide) ?_
            refine lv_iconst (v := iI (-1)) hx hb d_MM_fill_124 rfl ?_
            refine lv_iconst (v := iI 0) hx hb d_MM_fill_125 rfl ?_
            refine zq_callV (As := [.int (iI k), .int (iI an5), .int (iI (-1)), .int (iI 0)]) (rest := []) ⟨hx, hb, hml, hown, hts⟩ (c_MM_addEntry l D K M16 o bd th put wr nn cir oN oC cW fcs (c0 + cir) mns kn (zaD g1 (32 * k + an3) 0) (zaD g2 (32 * k + an3) 1)  k an5 (-1) 0 h_o hbd h_on h_tw ⟨by omega, by omega⟩ ⟨by omega, by omega⟩) (cwV 4 hts (zg_V tw_771 tw_773 ts_45 tw_10 tw_774) rfl rfl rfl (by decide +kernel) ⟨Nat.le_of_ble_eq_true rfl, Nat.le_of_ble_eq_true rfl⟩) hZ hw hA h_o rfl rfl rfl rfl hl.1 (Nat.le_of_ble_eq_true rfl) d_MM_fill_126 ⟨Nat.le_of_ble_eq_true rfl, Nat.le_of_ble_eq_true rfl⟩ (fun v M20 H locs hp hw => ?_)
            obtain ⟨rfl, hs1, hs2, ho⟩ := hp
            have h_o : M20 o = some (.inr (9, [.int (iI th), .int (iI put), .int (iI wr), .ref (bd 0), .ref (bd 1), .int (iI nn), .int (iI cir), .int (iI oN), .int (iI oC), .ref (bd 2), .ref (bd 3), .ref (bd 4), .ref (bd 5), .int (iI cW), .ref (bd 6), .ref (bd 7), .ref (bd 8), .int (iI fcs), .ref (bd 9), .int (iI (c0 + cir)), .ref (bd 10), .ref (bd 11), .ref (bd 12), .ref (bd 13), .int (iI mns), .ref (bd 14), .ref (bd 15), .ref (bd 16), .int (iI kn), .ref (bd 17)])) := (ho _ (zq_ne h_o h_on (by simp)) (zq_ne h_o h_tw (by simp))).trans h_o
            have h_sg : M20 (bd 2) = some (cI (K 0) 12 sg) := (ho _ (zbd hbd 2 11) (zbd hbd 2 12)).trans h_sg
            have h_lb : M20 (bd 3) = some (cI (K 0) 48 lb) := (ho _ (zbd hbd 3 11) (zbd hbd 3 12)).trans h_lb
            have h_rw : M20 (bd 6) = some (cI (K 0) 48 fW) := (ho _ (zbd hbd 6 11) (zbd hbd 6 12)).trans h_rw
            have h_al : M20 (bd 10) = some (cI (K 0) 40 alW) := (ho _ (zbd hbd 10 11) (zbd hbd 10 12)).trans h_al
            have h_on : M20 (bd 11) = some (cI (K 0) 384 (zaD (zaD g1 (32 * k + an3) 0) (32 * k + an5) (-1))) := hs1
            have h_tw : M20 (bd 12) = some (cI (K 0) 384 (zaD (zaD g2 (32 * k + an3) 1) (32 * k + an5) 0)) := hs2
            have hfr : ∀ q, q ≠ o → q ≠ (bd 6) → q ≠ (bd 10) → q ≠ (bd 11) → q ≠ (bd 12) → M20 q = M q := fun q g0 g1 g2 g3 g4 => (ho q g3 g4).trans (hfr q g0 g1 g2 g3 g4)
            refine W.eq (g2 := F0 m 129 ls []) rfl ?_
            refine lv_aload_n hx hb d_MM_fill_129 rfl (lv_at hl 3 rfl) ?_
            refine lv_iload_n hx hb d_MM_fill_130 rfl (lv_at hl 4 rfl) ?_
            refine lv_iload hx hb d_MM_fill_131 (lv_at hl 0 rfl) ?_
            refine lv_iconst (v := iI 1) hx hb d_MM_fill_133 rfl ?_
            refine lv_iconst (v := iI (-1)) hx hb d_MM_fill_134 rfl ?_
            refine zq_callV (As := [.int (iI k), .int (iI an7), .int (iI 1), .int (iI (-1))]) (rest := []) ⟨hx, hb, hml, hown, hts⟩ (c_MM_addEntry l D K M20 o bd th put wr nn cir oN oC cW fcs (c0 + cir) mns kn (zaD (zaD g1 (32 * k + an3) 0) (32 * k + an5) (-1)) (zaD (zaD g2 (32 * k + an3) 1) (32 * k + an5) 0)  k an7 1 (-1) h_o hbd h_on h_tw ⟨by omega, by omega⟩ ⟨by omega, by omega⟩) (cwV 4 hts (zg_V tw_771 tw_773 ts_45 tw_10 tw_774) rfl rfl rfl (by decide +kernel) ⟨Nat.le_of_ble_eq_true rfl, Nat.le_of_ble_eq_true rfl⟩) hZ hw hA h_o rfl rfl rfl rfl hl.1 (Nat.le_of_ble_eq_true rfl) d_MM_fill_135 ⟨Nat.le_of_ble_eq_true rfl, Nat.le_of_ble_eq_true rfl⟩ (fun v M21 H locs hp hw => ?_)
            obtain ⟨rfl, hs1, hs2, ho⟩ := hp
            have h_o : M21 o = some (.inr (9, [.int (iI th), .int (iI put), .int (iI wr), .ref (bd 0), .ref (bd 1), .int (iI nn), .int (iI cir), .int (iI oN), .int (iI oC), .ref (bd 2), .ref (bd 3), .ref (bd 4), .ref (bd 5), .int (iI cW), .ref (bd 6), .ref (bd 7), .ref (bd 8), .int (iI fcs), .ref (bd 9), .int (iI (c0 + cir)), .ref (bd 10), .ref (bd 11), .ref (bd 12), .ref (bd 13), .int (iI mns), .ref (bd 14), .ref (bd 15), .ref (bd 16), .int (iI kn), .ref (bd 17)])) := (ho _ (zq_ne h_o h_on (by simp)) (zq_ne h_o h_tw (by simp))).trans h_o
            have h_sg : M21 (bd 2) = some (cI (K 0) 12 sg) := (ho _ (zbd hbd 2 11) (zbd hbd 2 12)).trans h_sg
            have h_lb : M21 (bd 3) = some (cI (K 0) 48 lb) := (ho _ (zbd hbd 3 11) (zbd hbd 3 12)).trans h_lb
            have h_rw : M21 (bd 6) = some (cI (K 0) 48 fW) := (ho _ (zbd hbd 6 11) (zbd hbd 6 12)).trans h_rw
            have h_al : M21 (bd 10) = some (cI (K 0) 40 alW) := (ho _ (zbd hbd 10 11) (zbd hbd 10 12)).trans h_al
            have h_on : M21 (bd 11) = some (cI (K 0) 384 (zaD (zaD (zaD g1 (32 * k + an3) 0) (32 * k + an5) (-1)) (32 * k + an7) 1)) := hs1
            have h_tw : M21 (bd 12) = some (cI (K 0) 384 (zaD (zaD (zaD g2 (32 * k + an3) 1) (32 * k + an5) 0) (32 * k + an7) (-1))) := hs2
            have hfr : ∀ q, q ≠ o → q ≠ (bd 6) → q ≠ (bd 10) → q ≠ (bd 11) → q ≠ (bd 12) → M21 q = M q := fun q g0 g1 g2 g3 g4 => (ho q g3 g4).trans (hfr q g0 g1 g2 g3 g4)
            refine W.eq (g2 := F0 m 138 ls []) rfl ?_
            refine lv_iinc (v := iI (k + 1)) (lv' := [(1, .int (iI (k + 1))), (4, .int (iI an7)), (3, .int (iI an5)), (2, .int (iI an3)), (0, .ref o)]) hx hb d_MM_fill_138 hl (k := 4) rfl (iI_add _ _) (by decide) rfl (fun ls hl => ?_)
            refine lv_goto (tgt := 35) hx hb d_MM_fill_141 (by decide) ?_
            exact ih_hL2 (k + 1) (zN3 N k an3 an5 an7) (zaD (zaD (zaD g1 (32 * k + an3) 0) (32 * k + an5) (-1)) (32 * k + an7) 1) (zaD (zaD (zaD g2 (32 * k + an3) 1) (32 * k + an5) 0) (32 * k + an7) (-1)) M21 _ _ _ (by omega) hNn (zFi_step hFi hk.1 hx1 hx2 hx3 (by omega)) (by omega) hfr h_o h_sg h_lb h_rw h_al h_on h_tw hw (lv_sub hl [4, 0] rfl)
  have hL1 : ∀ (n : Nat) (i : Int) (g1 : Int → Int) (g2 : Int → Int) (Mq : zq_M) (H : Heap) (locs : List Loc) (ls : Array Slot), (0 ≤ i ∧ i ≤ 384) → (∀ z, g1 z = if 0 ≤ z ∧ z < i then 0 else on z) → (∀ z, g2 z = if 0 ≤ z ∧ z < i then 0 else tw z) → (384 - i).toNat < n → (∀ q, q ≠ o → q ≠ (bd 6) → q ≠ (bd 10) → q ≠ (bd 11) → q ≠ (bd 12) → Mq q = M q) → Mq o = some (.inr (9, [.int (iI th), .int (iI put), .int (iI wr), .ref (bd 0), .ref (bd 1), .int (iI nn), .int (iI cir), .int (iI oN), .int (iI oC), .ref (bd 2), .ref (bd 3), .ref (bd 4), .ref (bd 5), .int (iI cW), .ref (bd 6), .ref (bd 7), .ref (bd 8), .int (iI fcs), .ref (bd 9), .int (iI (c0 + cir)), .ref (bd 10), .ref (bd 11), .ref (bd 12), .ref (bd 13), .int (iI mns), .ref (bd 14), .ref (bd 15), .ref (bd 16), .int (iI kn), .ref (bd 17)])) → Mq (bd 2) = some (cI (K 0) 12 sg) → Mq (bd 3) = some (cI (K 0) 48 lb) → Mq (bd 6) = some (cI (K 0) 48 fW) → Mq (bd 10) = some (cI (K 0) 40 alW) → Mq (bd 11) = some (cI (K 0) 384 g1) → Mq (bd 12) = some (cI (K 0) 384 g2) → zq_W D vwCl A s.heap Mq H locs → lv_has ls 5 [(0, .ref o), (1, .int (iI i))] → W p l e ({ frames := 5, cells := 0, slots := 0, locals := 115 } : Room) s m [.ref o].toArray below meth co H locs 0 0 (MQ below (zq_Q D vwCl (zT K) (P_MM_fill K M o bd th put wr nn cir oN oC lbs fcs arcs mns kn sg lb rw al on tw) A) [.ref o].toArray s 0 0 A) (F0 m 6 ls []) := by
    intro n
    induction n with
    | zero =>
      intro i g1 g2 Mq H locs ls hi hg1 hg2 hms hfr h_o h_sg h_lb h_rw h_al h_on h_tw hw hl
      exact absurd hms (Nat.not_lt_zero _)
    | succ n ih_hL1 =>
      intro i g1 g2 Mq H locs ls hi hg1 hg2 hms hfr h_o h_sg h_lb h_rw h_al h_on h_tw hw hl
      refine lv_iload_n hx hb d_MM_fill_6 rfl (lv_at hl 1 rfl) ?_
      refine lv_sipush (v := iI 384) hx hb d_MM_fill_7 (by decide) ?_
      refine zq_icmp_ge (tgt := 33) hx hb d_MM_fill_10 (by decide) ⟨by omega, by omega⟩ (by decide) (fun hc22 => ?_) (fun hc22 => ?_)
      · refine lv_iconst (v := iI 0) hx hb d_MM_fill_33 rfl ?_
        refine lv_istore_n (lv' := [(1, .int (iI 0)), (0, .ref o)]) hx hb d_MM_fill_34 rfl hl (by decide) rfl (fun ls hl => ?_)
        exact hL2 _ 0 (fun _ => 0) g1 g2 Mq _ _ _ ⟨by omega, by omega⟩ (fun x h1 h2 => by omega) ⟨fun z h1 h2 => by rw [hg1, if_pos ⟨h1, by omega⟩, if_neg (by omega)], fun z h1 h2 => by rw [hg2, if_pos ⟨h1, by omega⟩, if_neg (by omega)]⟩ (Nat.lt_succ_self _) hfr h_o h_sg h_lb h_rw h_al h_on h_tw hw (lv_sub hl [1, 0] rfl)
      · refine lv_aload_n hx hb d_MM_fill_13 rfl (lv_at hl 0 rfl) ?_
        refine zq_get hx hb hts i_MM hown hK hw h_o rfl 21 (by decide) (hts _ tw_607) rfl d_MM_fill_14 ?_
        refine lv_iload_n hx hb d_MM_fill_17 rfl (lv_at hl 1 rfl) ?_
        refine lv_iconst (v := iI 0) hx hb d_MM_fill_18 rfl ?_
        refine zq_iast hx hb hK hw 0 h_on rfl (by omega) (by omega) (by decide) d_MM_fill_19 (fun M23 H locs hs ho hw => ?_)
        have h_o : M23 o = some (.inr (9, [.int (iI th), .int (iI put), .int (iI wr), .ref (bd 0), .ref (bd 1), .int (iI nn), .int (iI cir), .int (iI oN), .int (iI oC), .ref (bd 2), .ref (bd 3), .ref (bd 4), .ref (bd 5), .int (iI cW), .ref (bd 6), .ref (bd 7), .ref (bd 8), .int (iI fcs), .ref (bd 9), .int (iI (c0 + cir)), .ref (bd 10), .ref (bd 11), .ref (bd 12), .ref (bd 13), .int (iI mns), .ref (bd 14), .ref (bd 15), .ref (bd 16), .int (iI kn), .ref (bd 17)])) := (ho _ (zq_ne h_o h_on (by simp))).trans h_o
        have h_sg : M23 (bd 2) = some (cI (K 0) 12 sg) := (ho _ (zbd hbd 2 11)).trans h_sg
        have h_lb : M23 (bd 3) = some (cI (K 0) 48 lb) := (ho _ (zbd hbd 3 11)).trans h_lb
        have h_rw : M23 (bd 6) = some (cI (K 0) 48 fW) := (ho _ (zbd hbd 6 11)).trans h_rw
        have h_al : M23 (bd 10) = some (cI (K 0) 40 alW) := (ho _ (zbd hbd 10 11)).trans h_al
        have h_tw : M23 (bd 12) = some (cI (K 0) 384 g2) := (ho _ (Ne.symm (zbd hbd 11 12))).trans h_tw
        have h_on : M23 (bd 11) = some (cI (K 0) 384 (zu g1 i 0)) := hs
        have hfr : ∀ q, q ≠ o → q ≠ (bd 6) → q ≠ (bd 10) → q ≠ (bd 11) → q ≠ (bd 12) → M23 q = M q := fun q g0 g1 g2 g3 g4 => (ho q g3).trans (hfr q g0 g1 g2 g3 g4)
        refine lv_aload_n hx hb d_MM_fill_20 rfl (lv_at hl 0 rfl) ?_
        refine zq_get hx hb hts i_MM hown hK hw h_o rfl 22 (by decide) (hts _ tw_608) rfl d_MM_fill_21 ?_
        refine lv_iload_n hx hb d_MM_fill_24 rfl (lv_at hl 1 rfl) ?_
        refine lv_iconst (v := iI 0) hx hb d_MM_fill_25 rfl ?_
        refine zq_iast hx hb hK hw 0 h_tw rfl (by omega) (by omega) (by decide) d_MM_fill_26 (fun M24 H locs hs ho hw => ?_)
        have h_o : M24 o = some (.inr (9, [.int (iI th), .int (iI put), .int (iI wr), .ref (bd 0), .ref (bd 1), .int (iI nn), .int (iI cir), .int (iI oN), .int (iI oC), .ref (bd 2), .ref (bd 3), .ref (bd 4), .ref (bd 5), .int (iI cW), .ref (bd 6), .ref (bd 7), .ref (bd 8), .int (iI fcs), .ref (bd 9), .int (iI (c0 + cir)), .ref (bd 10), .ref (bd 11), .ref (bd 12), .ref (bd 13), .int (iI mns), .ref (bd 14), .ref (bd 15), .ref (bd 16), .int (iI kn), .ref (bd 17)])) := (ho _ (zq_ne h_o h_tw (by simp))).trans h_o
        have h_sg : M24 (bd 2) = some (cI (K 0) 12 sg) := (ho _ (zbd hbd 2 12)).trans h_sg
        have h_lb : M24 (bd 3) = some (cI (K 0) 48 lb) := (ho _ (zbd hbd 3 12)).trans h_lb
        have h_rw : M24 (bd 6) = some (cI (K 0) 48 fW) := (ho _ (zbd hbd 6 12)).trans h_rw
        have h_al : M24 (bd 10) = some (cI (K 0) 40 alW) := (ho _ (zbd hbd 10 12)).trans h_al
        have h_on : M24 (bd 11) = some (cI (K 0) 384 (zu g1 i 0)) := (ho _ (zbd hbd 11 12)).trans h_on
        have h_tw : M24 (bd 12) = some (cI (K 0) 384 (zu g2 i 0)) := hs
        have hfr : ∀ q, q ≠ o → q ≠ (bd 6) → q ≠ (bd 10) → q ≠ (bd 11) → q ≠ (bd 12) → M24 q = M q := fun q g0 g1 g2 g3 g4 => (ho q g4).trans (hfr q g0 g1 g2 g3 g4)
        refine lv_iinc (v := iI (i + 1)) (lv' := [(1, .int (iI (i + 1))), (0, .ref o)]) hx hb d_MM_fill_27 hl (k := 1) rfl (iI_add _ _) (by decide) rfl (fun ls hl => ?_)
        refine lv_goto (tgt := 6) hx hb d_MM_fill_30 (by decide) ?_
        exact ih_hL1 (i + 1) (zu g1 i 0) (zu g2 i 0) M24 _ _ _ (by omega) (zup_c hg1 hi.1) (zup_c hg2 hi.1) (by omega) hfr h_o h_sg h_lb h_rw h_al h_on h_tw hw (lv_sub hl [1, 0] rfl)
  refine lv_iconst (v := iI 0) hx hb d_MM_fill_4 rfl ?_
  refine lv_istore_n (lv' := [(1, .int (iI 0)), (0, .ref o)]) hx hb d_MM_fill_5 rfl hl (by decide) rfl (fun ls hl => ?_)
  exact hL1 _ 0 on tw M1 _ _ _ ⟨by omega, by omega⟩ (fun z => (if_neg (by omega)).symm) (fun z => (if_neg (by omega)).symm) (Nat.lt_succ_self _) hfr h_o h_sg h_lb h_rw h_al h_on h_tw hw (lv_sub hl [1, 0] rfl)
