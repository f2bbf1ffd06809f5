abbrev P_MM_facesAt (K : Nat → ClassId) (M : zq_M) (o : Nat) (bd : Nat → Nat) (th : Int) (put : Int) (wr : Int) (nn : Int) (cir : Int) (oN : Int) (oC : Int) (lbs : Int) (fcs : Int) (arcs : Int) (mns : Int) (kn : Int) (sg : Int → Int) (lb : Int → Int) (rw : Int → Int) (pi : Int → Int) (fo : Int → Int) (pq : Int → Int) (k : Int) : Option Value → zq_M → Prop := fun v M' => v = some (.int (iI (zfa (fun j => pi (pq j / 4)) fo k (2 * lbs).toNat))) ∧ M' = M
set_option maxHeartbeats 4000000 in
set_option maxRecDepth 100000 in
theorem c_MM_facesAt (l : Launch) (D : va_G) (K : Nat → ClassId) (M : zq_M) (o : Nat) (bd : Nat → Nat) (th : Int) (put : Int) (wr : Int) (nn : Int) (cir : Int) (oN : Int) (oC : Int) (lbs : Int) (fcs : Int) (arcs : Int) (mns : Int) (kn : Int) (sg : Int → Int) (lb : Int → Int) (rw : Int → Int) (pi : Int → Int) (fo : Int → Int) (pq : Int → Int) (k : Int) (h_o : M o = some (.inr (9, [.int (iI th), .int (iI put), .int (iI wr), .ref (bd 0), .ref (bd 1), .int (iI nn), .int (iI cir), .int (iI oN), .int (iI oC), .ref (bd 2), .ref (bd 3), .ref (bd 4), .ref (bd 5), .int (iI lbs), .ref (bd 6), .ref (bd 7), .ref (bd 8), .int (iI fcs), .ref (bd 9), .int (iI arcs), .ref (bd 10), .ref (bd 11), .ref (bd 12), .ref (bd 13), .int (iI mns), .ref (bd 14), .ref (bd 15), .ref (bd 16), .int (iI kn), .ref (bd 17)]))) (hbd : ∀ i j, i < 18 → j < 18 → bd i = bd j → i = j) (h_sg : M (bd 2) = some (cI (K 0) 12 sg)) (h_lb : M (bd 3) = some (cI (K 0) 48 lb)) (h_rw : M (bd 6) = some (cI (K 0) 48 rw)) (h_pi : M (bd 8) = some (cI (K 0) 12 pi)) (h_fo : M (bd 9) = some (cI (K 0) 48 fo)) (hsg : ∀ j, inI (sg j)) (hlb : ∀ j, inI (lb j)) (hnn : 0 ≤ nn ∧ nn ≤ 12) (hlbs : 0 ≤ lbs ∧ lbs ≤ 24) (hrw : ∀ j, inI (rw j)) (hfo : ∀ j, inI (fo j)) (hpi : ∀ j, 0 ≤ j → j < nn → inI (pi j)) (hpo : ∀ j, 0 ≤ j → j < 2 * lbs → (0 ≤ pq j ∧ pq j < 4 * nn) ∧ zPl (4 * nn) sg lb (rw (j / 2)) 1 (pq j)) (hk : inI k) : zq_Met l y_MM_facesAt (.code y_MM_facesAt b_MM_facesAt 6 (some .int) :: lw_gd) { frames := 2, cells := 0, slots := 0, locals := 46 } D vwCl (zT K) [.ref o, .int (iI k)] M (P_MM_facesAt K M o bd th put wr nn cir oN oC lbs fcs arcs mns kn sg lb rw pi fo pq k) 0 0 := by
  refine zq_start (cc := b_MM_facesAt) (maxL := 6) (ret := (some .int)) (by decide) rfl (Nat.le_of_ble_eq_true rfl) ?_
  intro p e s m below meth co A ls hx hb hr hml hts hown hnm hlocks hA hZ hw hl
  have hts : ∀ w ∈ lw_gd, w.before [.ref o, .int (iI k)].toArray s = true := fun w h => hts w (List.mem_cons_of_mem _ h)
  have hown : s.vm.findClass R_MM = some m.cls := hown
  have hK := hZ.1
  have hl : lv_has ls 6 [(0, .ref o), (1, .int (iI k))] := hl
  have hL : ∀ (n : Nat) (j : Int) (mv : Int) (la : Int) (H : Heap) (locs : List Loc) (ls : Array Slot), (0 ≤ j ∧ j ≤ 2 * lbs) → (mv = zfa (fun j => pi (pq j / 4)) fo k j.toNat) → (la = zfl fo j.toNat) → (2 * lbs - j).toNat < n → zq_W D vwCl A s.heap M H locs → lv_has ls 6 [(0, .ref o), (1, .int (iI k)), (2, .int (iI mv)), (3, .int (iI la)), (4, .int (iI j))] → W p l e ({ frames := 2, cells := 0, slots := 0, locals := 46 } : Room) s m [.ref o, .int (iI k)].toArray below meth co H locs 0 0 (MQ below (zq_Q D vwCl (zT K) (P_MM_facesAt K M o bd th put wr nn cir oN oC lbs fcs arcs mns kn sg lb rw pi fo pq k) A) [.ref o, .int (iI k)].toArray s 0 0 A) (F0 m 7 ls []) := by
    intro n
    induction n with
    | zero =>
      intro j mv la H locs ls hj hm hla hms hw hl
      exact absurd hms (Nat.not_lt_zero _)
    | succ n ih_hL =>
      intro j mv la H locs ls hj hm hla hms hw hl
      refine lv_iload hx hb d_MM_facesAt_7 (lv_at hl 4 rfl) ?_
      refine lv_iconst (v := iI 2) hx hb d_MM_facesAt_9 rfl ?_
      refine lv_aload_n hx hb d_MM_facesAt_10 rfl (lv_at hl 0 rfl) ?_
      refine zq_get hx hb hts i_MM hown hK hw h_o rfl 13 (by decide) (hts _ tw_599) rfl d_MM_facesAt_11 ?_
      refine zq_imul hx hb d_MM_facesAt_14 ?_
      refine zq_icmp_ge (tgt := 97) hx hb d_MM_facesAt_15 (by decide) ⟨by omega, by omega⟩ ⟨by omega, by omega⟩ (fun hc1 => ?_) (fun hc1 => ?_)
      · refine lv_iload_n hx hb d_MM_facesAt_97 rfl (lv_at hl 2 rfl) ?_
        exact zq_iret hx hb hr hlocks hZ hw ⟨zq_ri (by rw [hm, show j = 2 * lbs by omega]), rfl⟩ d_MM_facesAt_98
      · refine lv_aload_n hx hb d_MM_facesAt_18 rfl (lv_at hl 0 rfl) ?_
        refine zq_get hx hb hts i_MM hown hK hw h_o rfl 18 (by decide) (hts _ tw_604) rfl d_MM_facesAt_19 ?_
        refine lv_iload hx hb d_MM_facesAt_22 (lv_at hl 4 rfl) ?_
        refine zq_iald hx hb hK hw 0 h_fo rfl (by omega) (by omega) (by decide) d_MM_facesAt_24 ?_
        refine lv_iload_n hx hb d_MM_facesAt_25 rfl (lv_at hl 3 rfl) ?_
        refine zq_icmp_le (tgt := 33) hx hb d_MM_facesAt_26 (by decide) (hfo _) (by rw [hla]; exact zfl_in hfo _) (fun hc2 => ?_) (fun hc2 => ?_)
        · refine lv_iconst (v := iI 0) hx hb d_MM_facesAt_33 rfl ?_
          refine lv_istore (lv' := [(5, .int (iI 0)), (0, .ref o), (1, .int (iI k)), (2, .int (iI mv)), (3, .int (iI la)), (4, .int (iI j))]) hx hb d_MM_facesAt_34 hl (by decide) rfl (fun ls hl => ?_)
          refine lv_iload_n hx hb d_MM_facesAt_36 rfl (lv_at hl 3 rfl) ?_
          refine lv_iload hx hb d_MM_facesAt_37 (lv_at hl 0 rfl) ?_
          refine zq_if_eq (tgt := 71) hx hb d_MM_facesAt_39 (by decide) (by decide) (fun hc3 => ?_) (fun hc3 => ?_)
          · refine lv_iconst (v := iI 0) hx hb d_MM_facesAt_71 rfl ?_
            refine zq_iadd hx hb d_MM_facesAt_72 ?_
            rw [show mv + 0 = (mv : Int) from by omega]
            refine lv_istore_n (lv' := [(2, .int (iI mv)), (5, .int (iI 0)), (0, .ref o), (1, .int (iI k)), (3, .int (iI la)), (4, .int (iI j))]) hx hb d_MM_facesAt_73 rfl hl (by decide) rfl (fun ls hl => ?_)
            refine lv_iload hx hb d_MM_facesAt_74 (lv_at hl 1 rfl) ?_
            refine zq_if_eq (tgt := 89) hx hb d_MM_facesAt_76 (by decide) (by decide) (fun hc4 => ?_) (fun hc4 => ?_)
            · refine lv_iload_n hx hb d_MM_facesAt_89 rfl (lv_at hl 4 rfl) ?_
              refine lv_istore_n (lv' := [(3, .int (iI la)), (2, .int (iI mv)), (5, .int (iI 0)), (0, .ref o), (1, .int (iI k)), (4, .int (iI j))]) hx hb d_MM_facesAt_90 rfl hl (by decide) rfl (fun ls hl => ?_)
              refine lv_iinc (v := iI (j + 1)) (lv' := [(4, .int (iI (j + 1))), (3, .int (iI la)), (2, .int (iI mv)), (5, .int (iI 0)), (0, .ref o), (1, .int (iI k))]) hx hb d_MM_facesAt_91 hl (k := 5) rfl (iI_add _ _) (by decide) rfl (fun ls hl => ?_)
              refine lv_goto (tgt := 7) hx hb d_MM_facesAt_94 (by decide) ?_
              exact ih_hL (j + 1) mv la _ _ _ (by omega) (by rw [hm]; exact zfa_n hj.1 (fun q => by omega)) (hla.trans (zfl_n hj.1 (by omega))) (by omega) hw (lv_sub hl [4, 5, 2, 1, 0] rfl)
            · exact absurd hc4 (by decide)
          · exact absurd hc3 (by decide)
        · refine lv_iconst (v := iI 1) hx hb d_MM_facesAt_29 rfl ?_
          refine lv_goto (tgt := 34) hx hb d_MM_facesAt_30 (by decide) ?_
          refine lv_istore (lv' := [(5, .int (iI 1)), (0, .ref o), (1, .int (iI k)), (2, .int (iI mv)), (3, .int (iI la)), (4, .int (iI j))]) hx hb d_MM_facesAt_34 hl (by decide) rfl (fun ls hl => ?_)
          refine lv_iload_n hx hb d_MM_facesAt_36 rfl (lv_at hl 3 rfl) ?_
          refine lv_iload hx hb d_MM_facesAt_37 (lv_at hl 0 rfl) ?_
          refine zq_if_eq (tgt := 71) hx hb d_MM_facesAt_39 (by decide) (by decide) (fun hc5 => ?_) (fun hc5 => ?_)
          · exact absurd hc5 (by decide)
          · refine lv_aload_n hx hb d_MM_facesAt_42 rfl (lv_at hl 1 rfl) ?_
            refine zq_get hx hb hts i_MM hown hK hw h_o rfl 16 (by decide) (hts _ tw_602) rfl d_MM_facesAt_43 ?_
            refine lv_aload_n hx hb d_MM_facesAt_46 rfl (lv_at hl 1 rfl) ?_
            refine lv_aload_n hx hb d_MM_facesAt_47 rfl (lv_at hl 1 rfl) ?_
            refine zq_get hx hb hts i_MM hown hK hw h_o rfl 14 (by decide) (hts _ tw_600) rfl d_MM_facesAt_48 ?_
            refine lv_iload hx hb d_MM_facesAt_51 (lv_at hl 5 rfl) ?_
            refine lv_iconst (v := iI 2) hx hb d_MM_facesAt_53 rfl ?_
            refine zq_idiv hx hb (by omega) ⟨by omega, by omega⟩ (by decide) (by decide) d_MM_facesAt_54 ?_
            refine zq_iald hx hb hK hw 0 h_rw rfl (by omega) (by omega) (by decide) d_MM_facesAt_55 ?_
            refine lv_iconst (v := iI 1) hx hb d_MM_facesAt_56 rfl ?_
            refine zq_callV (As := [.int (iI (rw (j / 2))), .int (iI 1)]) (rest := [.ref (bd 8), .int (iI mv)]) ⟨hx, hb, hml, hown, hts⟩ (c_MM_placeOf l D K M o bd th put wr nn cir oN oC lbs fcs arcs mns kn sg lb  (rw (j / 2)) 1 h_o hbd h_sg h_lb hsg hlb hnn (hrw _) (Or.inr rfl)) (cwV 2 hts (zg_V tw_701 tw_703 ts_30 tw_10 tw_704) rfl rfl rfl (by decide +kernel) ⟨Nat.le_of_ble_eq_true rfl, Nat.le_of_ble_eq_true rfl⟩) hZ hw hA h_o rfl rfl rfl rfl hl.1 (Nat.le_of_ble_eq_true rfl) d_MM_facesAt_57 ⟨Nat.le_of_ble_eq_true rfl, Nat.le_of_ble_eq_true rfl⟩ (fun v M7 H locs hp hw => ?_)
            obtain ⟨rp6, rfl, hPrp6, hMe⟩ := hp
            rw [hMe] at hw
            refine W.eq (g2 := F0 m 60 ls [.int (iI rp6), .ref (bd 8), .int (iI mv)]) rfl ?_
            have hLrp6 := zPl_lt hPrp6
            have hre : rp6 = pq j := zPl_un hPrp6 (hpo j hj.1 (by omega)).2
            rw [hre]
            have hpr := (hpo j hj.1 (by omega)).1
            refine lv_iconst (v := iI 4) hx hb d_MM_facesAt_60 rfl ?_
            refine zq_idiv hx hb (by omega) ⟨by omega, by omega⟩ (by decide) (by decide) d_MM_facesAt_61 ?_
            refine zq_iald hx hb hK hw 0 h_pi rfl (by omega) (by omega) (by decide) d_MM_facesAt_62 ?_
            refine lv_iload_n hx hb d_MM_facesAt_63 rfl (lv_at hl 2 rfl) ?_
            refine zq_icmp_ne (tgt := 71) hx hb d_MM_facesAt_64 (by decide) (hpi _ (by omega) (by omega)) hk (fun hc8 => ?_) (fun hc8 => ?_)
            · have hpk : ¬ pi (pq j / 4) = k := by omega
              refine lv_iconst (v := iI 0) hx hb d_MM_facesAt_71 rfl ?_
              refine zq_iadd hx hb d_MM_facesAt_72 ?_
              rw [show mv + 0 = (mv : Int) from by omega]
              refine lv_istore_n (lv' := [(2, .int (iI mv)), (5, .int (iI 1)), (0, .ref o), (1, .int (iI k)), (3, .int (iI la)), (4, .int (iI j))]) hx hb d_MM_facesAt_73 rfl hl (by decide) rfl (fun ls hl => ?_)
              refine lv_iload hx hb d_MM_facesAt_74 (lv_at hl 1 rfl) ?_
              refine zq_if_eq (tgt := 89) hx hb d_MM_facesAt_76 (by decide) (by decide) (fun hc9 => ?_) (fun hc9 => ?_)
              · exact absurd hc9 (by decide)
              · refine lv_aload_n hx hb d_MM_facesAt_79 rfl (lv_at hl 2 rfl) ?_
                refine zq_get hx hb hts i_MM hown hK hw h_o rfl 18 (by decide) (hts _ tw_604) rfl d_MM_facesAt_80 ?_
                refine lv_iload hx hb d_MM_facesAt_83 (lv_at hl 5 rfl) ?_
                refine zq_iald hx hb hK hw 0 h_fo rfl (by omega) (by omega) (by decide) d_MM_facesAt_85 ?_
                refine lv_goto (tgt := 90) hx hb d_MM_facesAt_86 (by decide) ?_
                refine lv_istore_n (lv' := [(3, .int (iI (fo j))), (2, .int (iI mv)), (5, .int (iI 1)), (0, .ref o), (1, .int (iI k)), (4, .int (iI j))]) hx hb d_MM_facesAt_90 rfl hl (by decide) rfl (fun ls hl => ?_)
                refine lv_iinc (v := iI (j + 1)) (lv' := [(4, .int (iI (j + 1))), (3, .int (iI (fo j))), (2, .int (iI mv)), (5, .int (iI 1)), (0, .ref o), (1, .int (iI k))]) hx hb d_MM_facesAt_91 hl (k := 5) rfl (iI_add _ _) (by decide) rfl (fun ls hl => ?_)
                refine lv_goto (tgt := 7) hx hb d_MM_facesAt_94 (by decide) ?_
                exact ih_hL (j + 1) mv (fo j) _ _ _ (by omega) (by rw [hm]; exact zfa_n hj.1 (fun q => hpk q.2)) (zfl_y hj.1 (by omega)) (by omega) hw (lv_sub hl [4, 5, 2, 1, 0] rfl)
            · have hpk : pi (pq j / 4) = k := by omega
              refine lv_iconst (v := iI 1) hx hb d_MM_facesAt_67 rfl ?_
              refine lv_goto (tgt := 72) hx hb d_MM_facesAt_68 (by decide) ?_
              refine zq_iadd hx hb d_MM_facesAt_72 ?_
              refine lv_istore_n (lv' := [(2, .int (iI (mv + 1))), (5, .int (iI 1)), (0, .ref o), (1, .int (iI k)), (3, .int (iI la)), (4, .int (iI j))]) hx hb d_MM_facesAt_73 rfl hl (by decide) rfl (fun ls hl => ?_)
              refine lv_iload hx hb d_MM_facesAt_74 (lv_at hl 1 rfl) ?_
              refine zq_if_eq (tgt := 89) hx hb d_MM_facesAt_76 (by decide) (by decide) (fun hc10 => ?_) (fun hc10 => ?_)
              · exact absurd hc10 (by decide)
              · refine lv_aload_n hx hb d_MM_facesAt_79 rfl (lv_at hl 2 rfl) ?_
                refine zq_get hx hb hts i_MM hown hK hw h_o rfl 18 (by decide) (hts _ tw_604) rfl d_MM_facesAt_80 ?_
                refine lv_iload hx hb d_MM_facesAt_83 (lv_at hl 5 rfl) ?_
                refine zq_iald hx hb hK hw 0 h_fo rfl (by omega) (by omega) (by decide) d_MM_facesAt_85 ?_
                refine lv_goto (tgt := 90) hx hb d_MM_facesAt_86 (by decide) ?_
                refine lv_istore_n (lv' := [(3, .int (iI (fo j))), (2, .int (iI (mv + 1))), (5, .int (iI 1)), (0, .ref o), (1, .int (iI k)), (4, .int (iI j))]) hx hb d_MM_facesAt_90 rfl hl (by decide) rfl (fun ls hl => ?_)
                refine lv_iinc (v := iI (j + 1)) (lv' := [(4, .int (iI (j + 1))), (3, .int (iI (fo j))), (2, .int (iI (mv + 1))), (5, .int (iI 1)), (0, .ref o), (1, .int (iI k))]) hx hb d_MM_facesAt_91 hl (k := 5) rfl (iI_add _ _) (by decide) rfl (fun ls hl => ?_)
                refine lv_goto (tgt := 7) hx hb d_MM_facesAt_94 (by decide) ?_
                exact ih_hL (j + 1) (mv + 1) (fo j) _ _ _ (by omega) (by rw [hm]; exact zfa_y hj.1 (by omega) hpk) (zfl_y hj.1 (by omega)) (by omega) hw (lv_sub hl [4, 5, 2, 1, 0] rfl)
  refine lv_iconst (v := iI 0) hx hb d_MM_facesAt_0 rfl ?_
  refine lv_istore_n (lv' := [(2, .int (iI 0)), (0, .ref o), (1, .int (iI k))]) hx hb d_MM_facesAt_1 rfl hl (by decide) rfl (fun ls hl => ?_)
  refine lv_iconst (v := iI (-1)) hx hb d_MM_facesAt_2 rfl ?_
  refine lv_istore_n (lv' := [(3, .int (iI (-1))), (2, .int (iI 0)), (0, .ref o), (1, .int (iI k))]) hx hb d_MM_facesAt_3 rfl hl (by decide) rfl (fun ls hl => ?_)
  refine lv_iconst (v := iI 0) hx hb d_MM_facesAt_4 rfl ?_
  refine lv_istore (lv' := [(4, .int (iI 0)), (3, .int (iI (-1))), (2, .int (iI 0)), (0, .ref o), (1, .int (iI k))]) hx hb d_MM_facesAt_5 hl (by decide) rfl (fun ls hl => ?_)
  exact hL _ 0 0 (-1) _ _ _ ⟨by omega, by omega⟩ rfl rfl (Nat.lt_succ_self _) hw (lv_sub hl [3, 4, 2, 1, 0] rfl)
abbrev P_MM_badLabel (K : Nat → ClassId) (M : zq_M) (o : Nat) (bd : Nat → Nat) (th : Int) (put : Int) (wr : Int) (nn : Int) (cir : Int) (oN : Int) (oC : Int) (lbs : Int) (fcs : Int) (arcs : Int) (mns : Int) (kn : Int) (sg : Int → Int) (lb : Int → Int) (rw : Int → Int) (kd : Int) : Option Value → zq_M → Prop := fun v M' => ∃ r c' f', v = some (.int (iI r)) ∧ inI r ∧ zLs lb (4 * nn) f' c' ∧ ((r = -1 ∧ zGl sg lb (4 * nn) kd) ∨ (0 ≤ r ∧ ¬ zGl sg lb (4 * nn) kd)) ∧ M' o = some (.inr (9, [.int (iI th), .int (iI put), .int (iI wr), .ref (bd 0), .ref (bd 1), .int (iI nn), .int (iI cir), .int (iI oN), .int (iI oC), .ref (bd 2), .ref (bd 3), .ref (bd 4), .ref (bd 5), .int (iI c'), .ref (bd 6), .ref (bd 7), .ref (bd 8), .int (iI fcs), .ref (bd 9), .int (iI arcs), .ref (bd 10), .ref (bd 11), .ref (bd 12), .ref (bd 13), .int (iI mns), .ref (bd 14), .ref (bd 15), .ref (bd 16), .int (iI kn), .ref (bd 17)])) ∧ M' (bd 6) = some (cI (K 0) 48 f') ∧ ∀ q, q ≠ o → q ≠ (bd 6) → M' q = M q
set_option maxHeartbeats 4000000 in
set_option maxRecDepth 100000 in
theorem c_MM_badLabel (l : Launch) (D : va_G) (K : Nat → ClassId) (M : zq_M) (o : Nat) (bd : Nat → Nat) (th : Int) (put : Int) (wr : Int) (nn : Int) (cir : Int) (oN : Int) (oC : Int) (lbs : Int) (fcs : Int) (arcs : Int) (mns : Int) (kn : Int) (sg : Int → Int) (lb : Int → Int) (rw : Int → Int) (kd : Int) (h_o : M o = some (.inr (9, [.int (iI th), .int (iI put), .int (iI wr), .ref (bd 0), .ref (bd 1), .int (iI nn), .int (iI cir), .int (iI oN), .int (iI oC), .ref (bd 2), .ref (bd 3), .ref (bd 4), .ref (bd 5), .int (iI lbs), .ref (bd 6), .ref (bd 7), .ref (bd 8), .int (iI fcs), .ref (bd 9), .int (iI arcs), .ref (bd 10), .ref (bd 11), .ref (bd 12), .ref (bd 13), .int (iI mns), .ref (bd 14), .ref (bd 15), .ref (bd 16), .int (iI kn), .ref (bd 17)]))) (hbd : ∀ i j, i < 18 → j < 18 → bd i = bd j → i = j) (h_sg : M (bd 2) = some (cI (K 0) 12 sg)) (h_lb : M (bd 3) = some (cI (K 0) 48 lb)) (h_rw : M (bd 6) = some (cI (K 0) 48 rw)) (hsg : ∀ j, inI (sg j)) (hlb : ∀ j, inI (lb j)) (hnn : 0 ≤ nn ∧ nn ≤ 12) (hrw : ∀ j, inI (rw j)) (hlp : ∀ z, 0 ≤ z → z < 4 * nn → 1 ≤ lb z ∧ lb z ≤ 9999) (hkd : kd = 0 ∨ kd = 1) : zq_Met l y_MM_badLabel (.code y_MM_badLabel b_MM_badLabel 5 (some .int) :: lw_gd) { frames := 2, cells := 0, slots := 0, locals := 46 } D vwCl (zT K) [.ref o, .int (iI kd)] M (P_MM_badLabel K M o bd th put wr nn cir oN oC lbs fcs arcs mns kn sg lb rw kd) 0 0 := by
  refine zq_start (cc := b_MM_badLabel) (maxL := 5) (ret := (some .int)) (by decide) rfl (Nat.le_of_ble_eq_true rfl) ?_
  intro p e s m below meth co A ls hx hb hr hml hts hown hnm hlocks hA hZ hw hl
  have hts : ∀ w ∈ lw_gd, w.before [.ref o, .int (iI kd)].toArray s = true := fun w h => hts w (List.mem_cons_of_mem _ h)
  have hown : s.vm.findClass R_MM = some m.cls := hown
  have hK := hZ.1
  have hl : lv_has ls 5 [(0, .ref o), (1, .int (iI kd))] := hl
  have hfr : ∀ q, q ≠ o → q ≠ (bd 6) → M q = M q := fun q _ _ => rfl
  refine lv_aload_n hx hb d_MM_badLabel_0 rfl (lv_at hl 0 rfl) ?_
  refine zq_callV (As := []) (rest := []) ⟨hx, hb, hml, hown, hts⟩ (c_MM_sort l D K M o bd th put wr nn cir oN oC lbs fcs arcs mns kn lb rw   h_o hbd h_lb h_rw hlb hnn hrw) (cwV 0 hts (zg_V tw_697 tw_699 ts_29 tw_10 tw_700) rfl rfl rfl (by decide +kernel) ⟨Nat.le_of_ble_eq_true rfl, Nat.le_of_ble_eq_true rfl⟩) hZ hw hA h_o rfl rfl rfl rfl hl.1 (Nat.le_of_ble_eq_true rfl) d_MM_badLabel_1 ⟨Nat.le_of_ble_eq_true rfl, Nat.le_of_ble_eq_true rfl⟩ (fun v M1 H locs hp hw => ?_)
  obtain ⟨rfl, cS, fS, hLs, hs1, hs2, ho⟩ := hp
  have h_sg : M1 (bd 2) = some (cI (K 0) 12 sg) := (ho _ (zq_ne h_sg h_o (by simp)) (zbd hbd 2 6)).trans h_sg
  have h_lb : M1 (bd 3) = some (cI (K 0) 48 lb) := (ho _ (zq_ne h_lb h_o (by simp)) (zbd hbd 3 6)).trans h_lb
  have h_o : M1 o = some (.inr (9, [.int (iI th), .int (iI put), .int (iI wr), .ref (bd 0), .ref (bd 1), .int (iI nn), .int (iI cir), .int (iI oN), .int (iI oC), .ref (bd 2), .ref (bd 3), .ref (bd 4), .ref (bd 5), .int (iI cS), .ref (bd 6), .ref (bd 7), .ref (bd 8), .int (iI fcs), .ref (bd 9), .int (iI arcs), .ref (bd 10), .ref (bd 11), .ref (bd 12), .ref (bd 13), .int (iI mns), .ref (bd 14), .ref (bd 15), .ref (bd 16), .int (iI kn), .ref (bd 17)])) := hs1
  have h_rw : M1 (bd 6) = some (cI (K 0) 48 fS) := hs2
  have hfr : ∀ q, q ≠ o → q ≠ (bd 6) → M1 q = M q := fun q g0 g1 => (ho q g0 g1).trans (hfr q g0 g1)
  refine W.eq (g2 := F0 m 4 ls []) rfl ?_
  have hcS := hLs.2.2
  have hL1 : ∀ (n : Nat) (i : Int) (Mq : zq_M) (H : Heap) (locs : List Loc) (ls : Array Slot), (0 ≤ i ∧ i ≤ cS) → (∀ j, 0 ≤ j → j < i → zGy sg lb (4 * nn) kd (fS j)) → (cS - i).toNat < n → (∀ q, q ≠ o → q ≠ (bd 6) → Mq q = M q) → Mq o = some (.inr (9, [.int (iI th), .int (iI put), .int (iI wr), .ref (bd 0), .ref (bd 1), .int (iI nn), .int (iI cir), .int (iI oN), .int (iI oC), .ref (bd 2), .ref (bd 3), .ref (bd 4), .ref (bd 5), .int (iI cS), .ref (bd 6), .ref (bd 7), .ref (bd 8), .int (iI fcs), .ref (bd 9), .int (iI arcs), .ref (bd 10), .ref (bd 11), .ref (bd 12), .ref (bd 13), .int (iI mns), .ref (bd 14), .ref (bd 15), .ref (bd 16), .int (iI kn), .ref (bd 17)])) → Mq (bd 2) = some (cI (K 0) 12 sg) → Mq (bd 3) = some (cI (K 0) 48 lb) → Mq (bd 6) = some (cI (K 0) 48 fS) → zq_W D vwCl A s.heap Mq H locs → lv_has ls 5 [(0, .ref o), (1, .int (iI kd)), (2, .int (iI i))] → W p l e ({ frames := 2, cells := 0, slots := 0, locals := 46 } : Room) s m [.ref o, .int (iI kd)].toArray below meth co H locs 0 0 (MQ below (zq_Q D vwCl (zT K) (P_MM_badLabel K M o bd th put wr nn cir oN oC lbs fcs arcs mns kn sg lb rw kd) A) [.ref o, .int (iI kd)].toArray s 0 0 A) (F0 m 6 ls []) := by
    intro n
    induction n with
    | zero =>
      intro i Mq H locs ls hi hgl hms hfr h_o h_sg h_lb h_rw hw hl
      exact absurd hms (Nat.not_lt_zero _)
    | succ n ih_hL1 =>
      intro i Mq H locs ls hi hgl hms hfr h_o h_sg h_lb h_rw hw hl
      refine lv_iload_n hx hb d_MM_badLabel_6 rfl (lv_at hl 2 rfl) ?_
      refine lv_aload_n hx hb d_MM_badLabel_7 rfl (lv_at hl 0 rfl) ?_
      refine zq_get hx hb hts i_MM hown hK hw h_o rfl 13 (by decide) (hts _ tw_599) rfl d_MM_badLabel_8 ?_
      refine zq_icmp_ge (tgt := 130) hx hb d_MM_badLabel_11 (by decide) ⟨by omega, by omega⟩ ⟨by omega, by omega⟩ (fun hc2 => ?_) (fun hc2 => ?_)
      · refine lv_iconst (v := iI (-1)) hx hb d_MM_badLabel_130 rfl ?_
        exact zq_iret hx hb hr hlocks hZ hw ⟨-1, cS, fS, rfl, (by decide), hLs, Or.inl ⟨rfl, zGl_yes hLs (fun j h1 h2 => hgl j h1 (by omega))⟩, h_o, h_rw, hfr⟩ d_MM_badLabel_131
      · have hL2 : ∀ (n : Nat) (x : Int) (mv : Int) (Mq : zq_M) (H : Heap) (locs : List Loc) (ls : Array Slot), (0 ≤ x ∧ x ≤ 4 * nn) → (mv = zct lb (fS i) x.toNat) → (4 * nn - x).toNat < n → (∀ q, q ≠ o → q ≠ (bd 6) → Mq q = M q) → Mq o = some (.inr (9, [.int (iI th), .int (iI put), .int (iI wr), .ref (bd 0), .ref (bd 1), .int (iI nn), .int (iI cir), .int (iI oN), .int (iI oC), .ref (bd 2), .ref (bd 3), .ref (bd 4), .ref (bd 5), .int (iI cS), .ref (bd 6), .ref (bd 7), .ref (bd 8), .int (iI fcs), .ref (bd 9), .int (iI arcs), .ref (bd 10), .ref (bd 11), .ref (bd 12), .ref (bd 13), .int (iI mns), .ref (bd 14), .ref (bd 15), .ref (bd 16), .int (iI kn), .ref (bd 17)])) → Mq (bd 2) = some (cI (K 0) 12 sg) → Mq (bd 3) = some (cI (K 0) 48 lb) → Mq (bd 6) = some (cI (K 0) 48 fS) → zq_W D vwCl A s.heap Mq H locs → lv_has ls 5 [(0, .ref o), (1, .int (iI kd)), (2, .int (iI i)), (3, .int (iI mv)), (4, .int (iI x))] → W p l e ({ frames := 2, cells := 0, slots := 0, locals := 46 } : Room) s m [.ref o, .int (iI kd)].toArray below meth co H locs 0 0 (MQ below (zq_Q D vwCl (zT K) (P_MM_badLabel K M o bd th put wr nn cir oN oC lbs fcs arcs mns kn sg lb rw kd) A) [.ref o, .int (iI kd)].toArray s 0 0 A) (F0 m 19 ls []) := by
          intro n
          induction n with
          | zero =>
            intro x mv Mq H locs ls hx0 hm hms hfr h_o h_sg h_lb h_rw hw hl
            exact absurd hms (Nat.not_lt_zero _)
          | succ n ih_hL2 =>
            intro x mv Mq H locs ls hx0 hm hms hfr h_o h_sg h_lb h_rw hw hl
            refine lv_iload hx hb d_MM_badLabel_19 (lv_at hl 4 rfl) ?_
            refine lv_iconst (v := iI 4) hx hb d_MM_badLabel_21 rfl ?_
            refine lv_aload_n hx hb d_MM_badLabel_22 rfl (lv_at hl 0 rfl) ?_
            refine zq_get hx hb hts i_MM hown hK hw h_o rfl 5 (by decide) (hts _ tw_591) rfl d_MM_badLabel_23 ?_
            refine zq_imul hx hb d_MM_badLabel_26 ?_
            refine zq_icmp_ge (tgt := 60) hx hb d_MM_badLabel_27 (by decide) ⟨by omega, by omega⟩ ⟨by omega, by omega⟩ (fun hc3 => ?_) (fun hc3 => ?_)
            · refine lv_iload_n hx hb d_MM_badLabel_60 rfl (lv_at hl 1 rfl) ?_
              refine zq_if_eq (tgt := 100) hx hb d_MM_badLabel_61 (by decide) ⟨by omega, by omega⟩ (fun hc4 => ?_) (fun hc4 => ?_)
              · refine lv_iload_n hx hb d_MM_badLabel_100 rfl (lv_at hl 3 rfl) ?_
                refine lv_iconst (v := iI 2) hx hb d_MM_badLabel_101 rfl ?_
                refine zq_icmp_ne (tgt := 109) hx hb d_MM_badLabel_102 (by decide) (by have := zct_bd lb (fS i) x.toNat; exact ⟨by omega, by omega⟩) (by decide) (fun hc5 => ?_) (fun hc5 => ?_)
                · have hbad : ¬ zGy sg lb (4 * nn) kd (fS i) := fun q => by have h9 := q.1 (by omega); rw [show (4 * nn).toNat = x.toNat by omega, ← hm] at h9; omega
                  refine lv_iconst (v := iI 0) hx hb d_MM_badLabel_109 rfl ?_
                  refine lv_istore (lv' := [(4, .int (iI 0)), (0, .ref o), (1, .int (iI kd)), (2, .int (iI i)), (3, .int (iI mv))]) hx hb d_MM_badLabel_110 hl (by decide) rfl (fun ls hl => ?_)
                  refine lv_iload hx hb d_MM_badLabel_112 (lv_at hl 0 rfl) ?_
                  refine zq_if_ne (tgt := 124) hx hb d_MM_badLabel_114 (by decide) (by decide) (fun hc6 => ?_) (fun hc6 => ?_)
                  · exact absurd hc6 (by decide)
                  · refine lv_aload_n hx hb d_MM_badLabel_117 rfl (lv_at hl 1 rfl) ?_
                    refine zq_get hx hb hts i_MM hown hK hw h_o rfl 14 (by decide) (hts _ tw_600) rfl d_MM_badLabel_118 ?_
                    refine lv_iload_n hx hb d_MM_badLabel_121 rfl (lv_at hl 3 rfl) ?_
                    refine zq_iald hx hb hK hw 0 h_rw rfl (by omega) (by omega) (by decide) d_MM_badLabel_122 ?_
                    exact zq_iret hx hb hr hlocks hZ hw ⟨_, cS, fS, rfl, hLs.2.2.2.2 _, hLs, Or.inr ⟨(by have := zLs_lp hLs (i := i) ⟨by omega, by omega⟩ hlp; omega), zGl_no hLs ⟨by omega, by omega⟩ hbad⟩, h_o, h_rw, hfr⟩ d_MM_badLabel_123
                · have hgood : zGy sg lb (4 * nn) kd (fS i) := ⟨fun _ => by rw [show (4 * nn).toNat = x.toNat by omega, ← hm]; omega, fun q => by omega⟩
                  refine lv_iconst (v := iI 1) hx hb d_MM_badLabel_105 rfl ?_
                  refine lv_goto (tgt := 110) hx hb d_MM_badLabel_106 (by decide) ?_
                  refine lv_istore (lv' := [(4, .int (iI 1)), (0, .ref o), (1, .int (iI kd)), (2, .int (iI i)), (3, .int (iI mv))]) hx hb d_MM_badLabel_110 hl (by decide) rfl (fun ls hl => ?_)
                  refine lv_iload hx hb d_MM_badLabel_112 (lv_at hl 0 rfl) ?_
                  refine zq_if_ne (tgt := 124) hx hb d_MM_badLabel_114 (by decide) (by decide) (fun hc7 => ?_) (fun hc7 => ?_)
                  · refine lv_iinc (v := iI (i + 1)) (lv' := [(2, .int (iI (i + 1))), (4, .int (iI 1)), (0, .ref o), (1, .int (iI kd)), (3, .int (iI mv))]) hx hb d_MM_badLabel_124 hl (k := 3) rfl (iI_add _ _) (by decide) rfl (fun ls hl => ?_)
                    refine lv_goto (tgt := 6) hx hb d_MM_badLabel_127 (by decide) ?_
                    exact ih_hL1 (i + 1) Mq _ _ _ (by omega) (fun j h1 h2 => by by_cases q : j = i; rw [q]; exact hgood; exact hgl j h1 (by omega)) (by omega) hfr h_o h_sg h_lb h_rw hw (lv_sub hl [2, 3, 0] rfl)
                  · exact absurd hc7 (by decide)
              · refine lv_aload_n hx hb d_MM_badLabel_64 rfl (lv_at hl 0 rfl) ?_
                refine lv_aload_n hx hb d_MM_badLabel_65 rfl (lv_at hl 0 rfl) ?_
                refine zq_get hx hb hts i_MM hown hK hw h_o rfl 14 (by decide) (hts _ tw_600) rfl d_MM_badLabel_66 ?_
                refine lv_iload_n hx hb d_MM_badLabel_69 rfl (lv_at hl 2 rfl) ?_
                refine zq_iald hx hb hK hw 0 h_rw rfl (by omega) (by omega) (by decide) d_MM_badLabel_70 ?_
                refine lv_iconst (v := iI 1) hx hb d_MM_badLabel_71 rfl ?_
                refine zq_callV (As := [.int (iI (fS i)), .int (iI 1)]) (rest := []) ⟨hx, hb, hml, hown, hts⟩ (c_MM_placeOf l D K Mq o bd th put wr nn cir oN oC cS fcs arcs mns kn sg lb  (fS i) 1 h_o hbd h_sg h_lb hsg hlb hnn (hLs.2.2.2.2 _) (Or.inr rfl)) (cwV 2 hts (zg_V tw_701 tw_703 ts_30 tw_10 tw_704) rfl rfl rfl (by decide +kernel) ⟨Nat.le_of_ble_eq_true rfl, Nat.le_of_ble_eq_true rfl⟩) hZ hw hA h_o rfl rfl rfl rfl hl.1 (Nat.le_of_ble_eq_true rfl) d_MM_badLabel_72 ⟨Nat.le_of_ble_eq_true rfl, Nat.le_of_ble_eq_true rfl⟩ (fun v M9 H locs hp hw => ?_)
                obtain ⟨rp8, rfl, hPrp8, hMe⟩ := hp
                rw [hMe] at hw
                refine W.eq (g2 := F0 m 75 ls [.int (iI rp8)]) rfl ?_
                have hLrp8 := zPl_lt hPrp8
                refine zq_if_lt (tgt := 96) hx hb d_MM_badLabel_75 (by decide) ⟨by omega, by have := hLrp8.2; omega⟩ (fun hc10 => ?_) (fun hc10 => ?_)
                · have hbad : ¬ zGy sg lb (4 * nn) kd (fS i) := fun q => by have := zPl_ex hPrp8 (q.2 (by omega)).1; omega
                  refine lv_iconst (v := iI 0) hx hb d_MM_badLabel_96 rfl ?_
                  refine lv_goto (tgt := 110) hx hb d_MM_badLabel_97 (by decide) ?_
                  refine lv_istore (lv' := [(4, .int (iI 0)), (0, .ref o), (1, .int (iI kd)), (2, .int (iI i)), (3, .int (iI mv))]) hx hb d_MM_badLabel_110 hl (by decide) rfl (fun ls hl => ?_)
                  refine lv_iload hx hb d_MM_badLabel_112 (lv_at hl 0 rfl) ?_
                  refine zq_if_ne (tgt := 124) hx hb d_MM_badLabel_114 (by decide) (by decide) (fun hc11 => ?_) (fun hc11 => ?_)
                  · exact absurd hc11 (by decide)
                  · refine lv_aload_n hx hb d_MM_badLabel_117 rfl (lv_at hl 1 rfl) ?_
                    refine zq_get hx hb hts i_MM hown hK hw h_o rfl 14 (by decide) (hts _ tw_600) rfl d_MM_badLabel_118 ?_
                    refine lv_iload_n hx hb d_MM_badLabel_121 rfl (lv_at hl 3 rfl) ?_
                    refine zq_iald hx hb hK hw 0 h_rw rfl (by omega) (by omega) (by decide) d_MM_badLabel_122 ?_
                    exact zq_iret hx hb hr hlocks hZ hw ⟨_, cS, fS, rfl, hLs.2.2.2.2 _, hLs, Or.inr ⟨(by have := zLs_lp hLs (i := i) ⟨by omega, by omega⟩ hlp; omega), zGl_no hLs ⟨by omega, by omega⟩ hbad⟩, h_o, h_rw, hfr⟩ d_MM_badLabel_123
                · refine lv_aload_n hx hb d_MM_badLabel_78 rfl (lv_at hl 0 rfl) ?_
                  refine lv_aload_n hx hb d_MM_badLabel_79 rfl (lv_at hl 0 rfl) ?_
                  refine zq_get hx hb hts i_MM hown hK hw h_o rfl 14 (by decide) (hts _ tw_600) rfl d_MM_badLabel_80 ?_
                  refine lv_iload_n hx hb d_MM_badLabel_83 rfl (lv_at hl 2 rfl) ?_
                  refine zq_iald hx hb hK hw 0 h_rw rfl (by omega) (by omega) (by decide) d_MM_badLabel_84 ?_
                  refine lv_iconst (v := iI 0) hx hb d_MM_badLabel_85 rfl ?_
                  refine zq_callV (As := [.int (iI (fS i)), .int (iI 0)]) (rest := []) ⟨hx, hb, hml, hown, hts⟩ (c_MM_placeOf l D K Mq o bd th put wr nn cir oN oC cS fcs arcs mns kn sg lb  (fS i) 0 h_o hbd h_sg h_lb hsg hlb hnn (hLs.2.2.2.2 _) (Or.inl rfl)) (cwV 2 hts (zg_V tw_701 tw_703 ts_30 tw_10 tw_704) rfl rfl rfl (by decide +kernel) ⟨Nat.le_of_ble_eq_true rfl, Nat.le_of_ble_eq_true rfl⟩) hZ hw hA h_o rfl rfl rfl rfl hl.1 (Nat.le_of_ble_eq_true rfl) d_MM_badLabel_86 ⟨Nat.le_of_ble_eq_true rfl, Nat.le_of_ble_eq_true rfl⟩ (fun v M13 H locs hp hw => ?_)
                  obtain ⟨rp12, rfl, hPrp12, hMe⟩ := hp
                  rw [hMe] at hw
                  refine W.eq (g2 := F0 m 89 ls [.int (iI rp12)]) rfl ?_
                  have hLrp12 := zPl_lt hPrp12
                  refine zq_if_lt (tgt := 96) hx hb d_MM_badLabel_89 (by decide) ⟨by omega, by have := hLrp12.2; omega⟩ (fun hc14 => ?_) (fun hc14 => ?_)
                  · have hbad : ¬ zGy sg lb (4 * nn) kd (fS i) := fun q => by have := zPl_ex hPrp12 (q.2 (by omega)).2; omega
                    refine lv_iconst (v := iI 0) hx hb d_MM_badLabel_96 rfl ?_
                    refine lv_goto (tgt := 110) hx hb d_MM_badLabel_97 (by decide) ?_
                    refine lv_istore (lv' := [(4, .int (iI 0)), (0, .ref o), (1, .int (iI kd)), (2, .int (iI i)), (3, .int (iI mv))]) hx hb d_MM_badLabel_110 hl (by decide) rfl (fun ls hl => ?_)
                    refine lv_iload hx hb d_MM_badLabel_112 (lv_at hl 0 rfl) ?_
                    refine zq_if_ne (tgt := 124) hx hb d_MM_badLabel_114 (by decide) (by decide) (fun hc15 => ?_) (fun hc15 => ?_)
                    · exact absurd hc15 (by decide)
                    · refine lv_aload_n hx hb d_MM_badLabel_117 rfl (lv_at hl 1 rfl) ?_
                      refine zq_get hx hb hts i_MM hown hK hw h_o rfl 14 (by decide) (hts _ tw_600) rfl d_MM_badLabel_118 ?_
                      refine lv_iload_n hx hb d_MM_badLabel_121 rfl (lv_at hl 3 rfl) ?_
                      refine zq_iald hx hb hK hw 0 h_rw rfl (by omega) (by omega) (by decide) d_MM_badLabel_122 ?_
                      exact zq_iret hx hb hr hlocks hZ hw ⟨_, cS, fS, rfl, hLs.2.2.2.2 _, hLs, Or.inr ⟨(by have := zLs_lp hLs (i := i) ⟨by omega, by omega⟩ hlp; omega), zGl_no hLs ⟨by omega, by omega⟩ hbad⟩, h_o, h_rw, hfr⟩ d_MM_badLabel_123
                  · have hgood : zGy sg lb (4 * nn) kd (fS i) := ⟨fun q => by omega, fun _ => ⟨⟨rp8, by omega, by omega, (hLrp8.2 (by omega)).2.1, (hLrp8.2 (by omega)).2.2⟩, ⟨rp12, by omega, by omega, (hLrp12.2 (by omega)).2.1, (hLrp12.2 (by omega)).2.2⟩⟩⟩
                    refine lv_iconst (v := iI 1) hx hb d_MM_badLabel_92 rfl ?_
                    refine lv_goto (tgt := 110) hx hb d_MM_badLabel_93 (by decide) ?_
                    refine lv_istore (lv' := [(4, .int (iI 1)), (0, .ref o), (1, .int (iI kd)), (2, .int (iI i)), (3, .int (iI mv))]) hx hb d_MM_badLabel_110 hl (by decide) rfl (fun ls hl => ?_)
                    refine lv_iload hx hb d_MM_badLabel_112 (lv_at hl 0 rfl) ?_
                    refine zq_if_ne (tgt := 124) hx hb d_MM_badLabel_114 (by decide) (by decide) (fun hc16 => ?_) (fun hc16 => ?_)
                    · refine lv_iinc (v := iI (i + 1)) (lv' := [(2, .int (iI (i + 1))), (4, .int (iI 1)), (0, .ref o), (1, .int (iI kd)), (3, .int (iI mv))]) hx hb d_MM_badLabel_124 hl (k := 3) rfl (iI_add _ _) (by decide) rfl (fun ls hl => ?_)
                      refine lv_goto (tgt := 6) hx hb d_MM_badLabel_127 (by decide) ?_
                      exact ih_hL1 (i + 1) Mq _ _ _ (by omega) (fun j h1 h2 => by by_cases q : j = i; rw [q]; exact hgood; exact hgl j h1 (by omega)) (by omega) hfr h_o h_sg h_lb h_rw hw (lv_sub hl [2, 3, 0] rfl)
                    · exact absurd hc16 (by decide)
            · refine lv_iload_n hx hb d_MM_badLabel_30 rfl (lv_at hl 3 rfl) ?_
              refine lv_aload_n hx hb d_MM_badLabel_31 rfl (lv_at hl 0 rfl) ?_
              refine zq_get hx hb hts i_MM hown hK hw h_o rfl 10 (by decide) (hts _ tw_596) rfl d_MM_badLabel_32 ?_
              refine lv_iload hx hb d_MM_badLabel_35 (lv_at hl 4 rfl) ?_
              refine zq_iald hx hb hK hw 0 h_lb rfl (by omega) (by omega) (by decide) d_MM_badLabel_37 ?_
              refine lv_aload_n hx hb d_MM_badLabel_38 rfl (lv_at hl 0 rfl) ?_
              refine zq_get hx hb hts i_MM hown hK hw h_o rfl 14 (by decide) (hts _ tw_600) rfl d_MM_badLabel_39 ?_
              refine lv_iload_n hx hb d_MM_badLabel_42 rfl (lv_at hl 2 rfl) ?_
              refine zq_iald hx hb hK hw 0 h_rw rfl (by omega) (by omega) (by decide) d_MM_badLabel_43 ?_
              refine zq_icmp_ne (tgt := 51) hx hb d_MM_badLabel_44 (by decide) (hlb _) (hLs.2.2.2.2 _) (fun hc17 => ?_) (fun hc17 => ?_)
              · refine lv_iconst (v := iI 0) hx hb d_MM_badLabel_51 rfl ?_
                refine zq_iadd hx hb d_MM_badLabel_52 ?_
                rw [show mv + 0 = (mv : Int) from by omega]
                refine lv_istore_n (lv' := [(3, .int (iI mv)), (0, .ref o), (1, .int (iI kd)), (2, .int (iI i)), (4, .int (iI x))]) hx hb d_MM_badLabel_53 rfl hl (by decide) rfl (fun ls hl => ?_)
                refine lv_iinc (v := iI (x + 1)) (lv' := [(4, .int (iI (x + 1))), (3, .int (iI mv)), (0, .ref o), (1, .int (iI kd)), (2, .int (iI i))]) hx hb d_MM_badLabel_54 hl (k := 4) rfl (iI_add _ _) (by decide) rfl (fun ls hl => ?_)
                refine lv_goto (tgt := 19) hx hb d_MM_badLabel_57 (by decide) ?_
                exact ih_hL2 (x + 1) mv Mq _ _ _ (by omega) (by rw [hm]; exact zct_n hx0.1 (by omega)) (by omega) hfr h_o h_sg h_lb h_rw hw (lv_sub hl [2, 3, 4, 1, 0] rfl)
              · refine lv_iconst (v := iI 1) hx hb d_MM_badLabel_47 rfl ?_
                refine lv_goto (tgt := 52) hx hb d_MM_badLabel_48 (by decide) ?_
                refine zq_iadd hx hb d_MM_badLabel_52 ?_
                refine lv_istore_n (lv' := [(3, .int (iI (mv + 1))), (0, .ref o), (1, .int (iI kd)), (2, .int (iI i)), (4, .int (iI x))]) hx hb d_MM_badLabel_53 rfl hl (by decide) rfl (fun ls hl => ?_)
                refine lv_iinc (v := iI (x + 1)) (lv' := [(4, .int (iI (x + 1))), (3, .int (iI (mv + 1))), (0, .ref o), (1, .int (iI kd)), (2, .int (iI i))]) hx hb d_MM_badLabel_54 hl (k := 4) rfl (iI_add _ _) (by decide) rfl (fun ls hl => ?_)
                refine lv_goto (tgt := 19) hx hb d_MM_badLabel_57 (by decide) ?_
                exact ih_hL2 (x + 1) (mv + 1) Mq _ _ _ (by omega) (by rw [hm]; exact zct_y hx0.1 (by omega)) (by omega) hfr h_o h_sg h_lb h_rw hw (lv_sub hl [2, 3, 4, 1, 0] rfl)
        refine lv_iconst (v := iI 0) hx hb d_MM_badLabel_14 rfl ?_
        refine lv_istore_n (lv' := [(3, .int (iI 0)), (0, .ref o), (1, .int (iI kd)), (2, .int (iI i))]) hx hb d_MM_badLabel_15 rfl hl (by decide) rfl (fun ls hl => ?_)
        refine lv_iconst (v := iI 0) hx hb d_MM_badLabel_16 rfl ?_
        refine lv_istore (lv' := [(4, .int (iI 0)), (3, .int (iI 0)), (0, .ref o), (1, .int (iI kd)), (2, .int (iI i))]) hx hb d_MM_badLabel_17 hl (by decide) rfl (fun ls hl => ?_)
        exact hL2 _ 0 0 Mq _ _ _ ⟨by omega, by omega⟩ rfl (Nat.lt_succ_self _) hfr h_o h_sg h_lb h_rw hw (lv_sub hl [2, 3, 4, 1, 0] rfl)
  refine lv_iconst (v := iI 0) hx hb d_MM_badLabel_4 rfl ?_
  refine lv_istore_n (lv' := [(2, .int (iI 0)), (0, .ref o), (1, .int (iI kd))]) hx hb d_MM_badLabel_5 rfl hl (by decide) rfl (fun ls hl => ?_)
  exact hL1 _ 0 M1 _ _ _ ⟨by omega, by omega⟩ (fun j h1 h2 => by omega) (Nat.lt_succ_self _) hfr h_o h_sg h_lb h_rw hw (lv_sub hl [1, 2, 0] rfl)
abbrev P_MM_badPiece (K : Nat → ClassId) (M : zq_M) (o : Nat) (bd : Nat → Nat) (th : Int) (put : Int) (wr : Int) (nn : Int) (cir : Int) (oN : Int) (oC : Int) (lbs : Int) (fcs : Int) (arcs : Int) (mns : Int) (kn : Int) (sg : Int → Int) (lb : Int → Int) (rw : Int → Int) (pi : Int → Int) (fo : Int → Int) : Option Value → zq_M → Prop := fun v M' => ∃ (r : Int) (g' : Int → Int) (c' : Int) (f' ix dv ta fo' : Int → Int) (F' : Int), v = some (.int (iI r)) ∧ inI r ∧ zMf sg lb nn g' c' f' ix dv ta fo' F' ∧ ((r = -1 ∧ zGp nn g' c' dv fo') ∨ (0 ≤ r ∧ ¬ zGp nn g' c' dv fo')) ∧ M' o = some (.inr (9, [.int (iI th), .int (iI put), .int (iI wr), .ref (bd 0), .ref (bd 1), .int (iI nn), .int (iI cir), .int (iI oN), .int (iI oC), .ref (bd 2), .ref (bd 3), .ref (bd 4), .ref (bd 5), .int (iI c'), .ref (bd 6), .ref (bd 7), .ref (bd 8), .int (iI F'), .ref (bd 9), .int (iI arcs), .ref (bd 10), .ref (bd 11), .ref (bd 12), .ref (bd 13), .int (iI mns), .ref (bd 14), .ref (bd 15), .ref (bd 16), .int (iI kn), .ref (bd 17)])) ∧ M' (bd 6) = some (cI (K 0) 48 f') ∧ M' (bd 8) = some (cI (K 0) 12 g') ∧ M' (bd 9) = some (cI (K 0) 48 fo') ∧ ∀ q, q ≠ o → q ≠ (bd 6) → q ≠ (bd 8) → q ≠ (bd 9) → M' q = M q
set_option maxHeartbeats 4000000 in
set_option maxRecDepth 100000 in
theorem c_MM_badPiece (l : Launch) (D : va_G) (K : Nat → ClassId) (M : zq_M) (o : Nat) (bd : Nat → Nat) (th : Int) (put : Int) (wr : Int) (nn : Int) (cir : Int) (oN : Int) (oC : Int) (lbs : Int) (fcs : Int) (arcs : Int) (mns : Int) (kn : Int) (sg : Int → Int) (lb : Int → Int) (rw : Int → Int) (pi : Int → Int) (fo : Int → Int) (h_o : M o = some (.inr (9, [.int (iI th), .int (iI put), .int (iI wr), .ref (bd 0), .ref (bd 1), .int (iI nn), .int (iI cir), .int (iI oN), .int (iI oC), .ref (bd 2), .ref (bd 3), .ref (bd 4), .ref (bd 5), .int (iI lbs), .ref (bd 6), .ref (bd 7), .ref (bd 8), .int (iI fcs), .ref (bd 9), .int (iI arcs), .ref (bd 10), .ref (bd 11), .ref (bd 12), .ref (bd 13), .int (iI mns), .ref (bd 14), .ref (bd 15), .ref (bd 16), .int (iI kn), .ref (bd 17)]))) (hbd : ∀ i j, i < 18 → j < 18 → bd i = bd j → i = j) (h_sg : M (bd 2) = some (cI (K 0) 12 sg)) (h_lb : M (bd 3) = some (cI (K 0) 48 lb)) (h_rw : M (bd 6) = some (cI (K 0) 48 rw)) (h_pi : M (bd 8) = some (cI (K 0) 12 pi)) (h_fo : M (bd 9) = some (cI (K 0) 48 fo)) (hsg : ∀ j, inI (sg j)) (hlb : ∀ j, inI (lb j)) (hnn : 0 ≤ nn ∧ nn ≤ 12) (hrw : ∀ j, inI (rw j)) (hfo : ∀ j, inI (fo j)) (hgd : zGd sg lb (4 * nn)) (hlp : ∀ z, 0 ≤ z → z < 4 * nn → 1 ≤ lb z ∧ lb z ≤ 9999) : zq_Met l y_MM_badPiece (.code y_MM_badPiece b_MM_badPiece 5 (some .int) :: lw_gd) { frames := 4, cells := 0, slots := 0, locals := 92 } D vwCl (zT K) [.ref o] M (P_MM_badPiece K M o bd th put wr nn cir oN oC lbs fcs arcs mns kn sg lb rw pi fo) 0 0 := by
  refine zq_start (cc := b_MM_badPiece) (maxL := 5) (ret := (some .int)) (by decide) rfl (Nat.le_of_ble_eq_true rfl) ?_
  intro p e s m below meth co A ls hx hb hr hml hts hown hnm hlocks hA hZ hw hl
  have hts : ∀ w ∈ lw_gd, w.before [.ref o].toArray s = true := fun w h => hts w (List.mem_cons_of_mem _ h)
  have hown : s.vm.findClass R_MM = some m.cls := hown
  have hK := hZ.1
  have hl : lv_has ls 5 [(0, .ref o)] := hl
  have hfr : ∀ q, q ≠ o → q ≠ (bd 6) → q ≠ (bd 8) → q ≠ (bd 9) → M q = M q := fun q _ _ _ _ => rfl
  refine lv_aload_n hx hb d_MM_badPiece_0 rfl (lv_at hl 0 rfl) ?_
  refine zq_callV (As := []) (rest := []) ⟨hx, hb, hml, hown, hts⟩ (c_MM_hang l D K M o bd th put wr nn cir oN oC lbs fcs arcs mns kn lb pi   h_o hbd h_lb h_pi hlb hnn) (cwV 0 hts (zg_V tw_713 tw_715 ts_33 tw_10 tw_716) rfl rfl rfl (by decide +kernel) ⟨Nat.le_of_ble_eq_true rfl, Nat.le_of_ble_eq_true rfl⟩) hZ hw hA h_o rfl rfl rfl rfl hl.1 (Nat.le_of_ble_eq_true rfl) d_MM_badPiece_1 ⟨Nat.le_of_ble_eq_true rfl, Nat.le_of_ble_eq_true rfl⟩ (fun v M1 H locs hp hw => ?_)
  obtain ⟨rfl, gH, hHg, hs1, ho⟩ := hp
  have h_o : M1 o = some (.inr (9, [.int (iI th), .int (iI put), .int (iI wr), .ref (bd 0), .ref (bd 1), .int (iI nn), .int (iI cir), .int (iI oN), .int (iI oC), .ref (bd 2), .ref (bd 3), .ref (bd 4), .ref (bd 5), .int (iI lbs), .ref (bd 6), .ref (bd 7), .ref (bd 8), .int (iI fcs), .ref (bd 9), .int (iI arcs), .ref (bd 10), .ref (bd 11), .ref (bd 12), .ref (bd 13), .int (iI mns), .ref (bd 14), .ref (bd 15), .ref (bd 16), .int (iI kn), .ref (bd 17)])) := (ho _ (zq_ne h_o h_pi (by simp))).trans h_o
  have h_sg : M1 (bd 2) = some (cI (K 0) 12 sg) := (ho _ (zbd hbd 2 8)).trans h_sg
  have h_lb : M1 (bd 3) = some (cI (K 0) 48 lb) := (ho _ (zbd hbd 3 8)).trans h_lb
  have h_rw : M1 (bd 6) = some (cI (K 0) 48 rw) := (ho _ (zbd hbd 6 8)).trans h_rw
  have h_fo : M1 (bd 9) = some (cI (K 0) 48 fo) := (ho _ (Ne.symm (zbd hbd 8 9))).trans h_fo
  have h_pi : M1 (bd 8) = some (cI (K 0) 12 gH) := hs1
  have hfr : ∀ q, q ≠ o → q ≠ (bd 6) → q ≠ (bd 8) → q ≠ (bd 9) → M1 q = M q := fun q g0 g1 g2 g3 => (ho q g2).trans (hfr q g0 g1 g2 g3)
  refine W.eq (g2 := F0 m 4 ls []) rfl ?_
  refine lv_aload_n hx hb d_MM_badPiece_4 rfl (lv_at hl 0 rfl) ?_
  refine zq_callV (As := []) (rest := []) ⟨hx, hb, hml, hown, hts⟩ (c_MM_findFaces l D K M1 o bd th put wr nn cir oN oC lbs fcs arcs mns kn sg lb rw fo   h_o hbd h_sg h_lb h_rw h_fo hsg hlb hnn hrw hfo hgd hlp) (cwV 0 hts (zg_V tw_717 tw_719 ts_34 tw_10 tw_720) rfl rfl rfl (by decide +kernel) ⟨Nat.le_of_ble_eq_true rfl, Nat.le_of_ble_eq_true rfl⟩) hZ hw hA h_o rfl rfl rfl rfl hl.1 (Nat.le_of_ble_eq_true rfl) d_MM_badPiece_5 ⟨Nat.le_of_ble_eq_true rfl, Nat.le_of_ble_eq_true rfl⟩ (fun v M2 H locs hp hw => ?_)
  obtain ⟨rfl, cF, fF, ixF, dvF, taF, gF, FF, hLsF, hIxF, hFoF, hs1, hs2, hs3, ho⟩ := hp
  have h_sg : M2 (bd 2) = some (cI (K 0) 12 sg) := (ho _ (zq_ne h_sg h_o (by simp)) (zbd hbd 2 6) (zbd hbd 2 9)).trans h_sg
  have h_lb : M2 (bd 3) = some (cI (K 0) 48 lb) := (ho _ (zq_ne h_lb h_o (by simp)) (zbd hbd 3 6) (zbd hbd 3 9)).trans h_lb
  have h_pi : M2 (bd 8) = some (cI (K 0) 12 gH) := (ho _ (zq_ne h_pi h_o (by simp)) (Ne.symm (zbd hbd 6 8)) (zbd hbd 8 9)).trans h_pi
  have h_o : M2 o = some (.inr (9, [.int (iI th), .int (iI put), .int (iI wr), .ref (bd 0), .ref (bd 1), .int (iI nn), .int (iI cir), .int (iI oN), .int (iI oC), .ref (bd 2), .ref (bd 3), .ref (bd 4), .ref (bd 5), .int (iI cF), .ref (bd 6), .ref (bd 7), .ref (bd 8), .int (iI FF), .ref (bd 9), .int (iI arcs), .ref (bd 10), .ref (bd 11), .ref (bd 12), .ref (bd 13), .int (iI mns), .ref (bd 14), .ref (bd 15), .ref (bd 16), .int (iI kn), .ref (bd 17)])) := hs1
  have h_rw : M2 (bd 6) = some (cI (K 0) 48 fF) := hs2
  have h_fo : M2 (bd 9) = some (cI (K 0) 48 gF) := hs3
  have hfr : ∀ q, q ≠ o → q ≠ (bd 6) → q ≠ (bd 8) → q ≠ (bd 9) → M2 q = M q := fun q g0 g1 g2 g3 => (ho q g0 g1 g3).trans (hfr q g0 g1 g2 g3)
  refine W.eq (g2 := F0 m 8 ls []) rfl ?_
  have hL1 : ∀ (n : Nat) (k : Int) (fnd : Int) (Mq : zq_M) (H : Heap) (locs : List Loc) (ls : Array Slot), (-1 ≤ k ∧ k < nn) → ((fnd = -1 ∧ ∀ z, k < z → z < nn → zGk nn gH cF dvF gF z) ∨ ((0 ≤ fnd ∧ fnd < nn) ∧ ¬ zGp nn gH cF dvF gF)) → (k + 1).toNat < n → (∀ q, q ≠ o → q ≠ (bd 6) → q ≠ (bd 8) → q ≠ (bd 9) → Mq q = M q) → Mq o = some (.inr (9, [.int (iI th), .int (iI put), .int (iI wr), .ref (bd 0), .ref (bd 1), .int (iI nn), .int (iI cir), .int (iI oN), .int (iI oC), .ref (bd 2), .ref (bd 3), .ref (bd 4), .ref (bd 5), .int (iI cF), .ref (bd 6), .ref (bd 7), .ref (bd 8), .int (iI FF), .ref (bd 9), .int (iI arcs), .ref (bd 10), .ref (bd 11), .ref (bd 12), .ref (bd 13), .int (iI mns), .ref (bd 14), .ref (bd 15), .ref (bd 16), .int (iI kn), .ref (bd 17)])) → Mq (bd 2) = some (cI (K 0) 12 sg) → Mq (bd 3) = some (cI (K 0) 48 lb) → Mq (bd 6) = some (cI (K 0) 48 fF) → Mq (bd 8) = some (cI (K 0) 12 gH) → Mq (bd 9) = some (cI (K 0) 48 gF) → zq_W D vwCl A s.heap Mq H locs → lv_has ls 5 [(0, .ref o), (1, .int (iI fnd)), (2, .int (iI k))] → W p l e ({ frames := 4, cells := 0, slots := 0, locals := 92 } : Room) s m [.ref o].toArray below meth co H locs 0 0 (MQ below (zq_Q D vwCl (zT K) (P_MM_badPiece K M o bd th put wr nn cir oN oC lbs fcs arcs mns kn sg lb rw pi fo) A) [.ref o].toArray s 0 0 A) (F0 m 17 ls []) := by
    intro n
    induction n with
    | zero =>
      intro k fnd Mq H locs ls hk hfn hms hfr h_o h_sg h_lb h_rw h_pi h_fo hw hl
      exact absurd hms (Nat.not_lt_zero _)
    | succ n ih_hL1 =>
      intro k fnd Mq H locs ls hk hfn hms hfr h_o h_sg h_lb h_rw h_pi h_fo hw hl
      refine lv_iload_n hx hb d_MM_badPiece_17 rfl (lv_at hl 2 rfl) ?_
      refine zq_if_lt (tgt := 93) hx hb d_MM_badPiece_18 (by decide) ⟨by omega, by omega⟩ (fun hc3 => ?_) (fun hc3 => ?_)
      · refine lv_iload_n hx hb d_MM_badPiece_93 rfl (lv_at hl 1 rfl) ?_
        exact zq_iret hx hb hr hlocks hZ hw ⟨_, gH, cF, fF, ixF, dvF, taF, gF, FF, rfl, ⟨by omega, by omega⟩, ⟨hHg, hLsF, hIxF, hFoF⟩, (by rcases hfn with q | q; exact Or.inl ⟨q.1, fun z h1 h2 => q.2 z (by omega) h2⟩; exact Or.inr ⟨q.1.1, q.2⟩), h_o, h_rw, h_pi, h_fo, hfr⟩ d_MM_badPiece_94
      · have hL2 : ∀ (n : Nat) (x : Int) (sz : Int) (Mq : zq_M) (H : Heap) (locs : List Loc) (ls : Array Slot), (0 ≤ x ∧ x ≤ nn) → (sz = zct gH k x.toNat) → (nn - x).toNat < n → (∀ q, q ≠ o → q ≠ (bd 6) → q ≠ (bd 8) → q ≠ (bd 9) → Mq q = M q) → Mq o = some (.inr (9, [.int (iI th), .int (iI put), .int (iI wr), .ref (bd 0), .ref (bd 1), .int (iI nn), .int (iI cir), .int (iI oN), .int (iI oC), .ref (bd 2), .ref (bd 3), .ref (bd 4), .ref (bd 5), .int (iI cF), .ref (bd 6), .ref (bd 7), .ref (bd 8), .int (iI FF), .ref (bd 9), .int (iI arcs), .ref (bd 10), .ref (bd 11), .ref (bd 12), .ref (bd 13), .int (iI mns), .ref (bd 14), .ref (bd 15), .ref (bd 16), .int (iI kn), .ref (bd 17)])) → Mq (bd 2) = some (cI (K 0) 12 sg) → Mq (bd 3) = some (cI (K 0) 48 lb) → Mq (bd 6) = some (cI (K 0) 48 fF) → Mq (bd 8) = some (cI (K 0) 12 gH) → Mq (bd 9) = some (cI (K 0) 48 gF) → zq_W D vwCl A s.heap Mq H locs → lv_has ls 5 [(0, .ref o), (1, .int (iI fnd)), (2, .int (iI k)), (3, .int (iI sz)), (4, .int (iI x))] → W p l e ({ frames := 4, cells := 0, slots := 0, locals := 92 } : Room) s m [.ref o].toArray below meth co H locs 0 0 (MQ below (zq_Q D vwCl (zT K) (P_MM_badPiece K M o bd th put wr nn cir oN oC lbs fcs arcs mns kn sg lb rw pi fo) A) [.ref o].toArray s 0 0 A) (F0 m 26 ls []) := by
          intro n
          induction n with
          | zero =>
            intro x sz Mq H locs ls hx0 hsz hms hfr h_o h_sg h_lb h_rw h_pi h_fo hw hl
            exact absurd hms (Nat.not_lt_zero _)
          | succ n ih_hL2 =>
            intro x sz Mq H locs ls hx0 hsz hms hfr h_o h_sg h_lb h_rw h_pi h_fo hw hl
            refine lv_iload hx hb d_MM_badPiece_26 (lv_at hl 4 rfl) ?_
            refine lv_aload_n hx hb d_MM_badPiece_28 rfl (lv_at hl 0 rfl) ?_
            refine zq_get hx hb hts i_MM hown hK hw h_o rfl 5 (by decide) (hts _ tw_591) rfl d_MM_badPiece_29 ?_
            refine zq_icmp_ge (tgt := 60) hx hb d_MM_badPiece_32 (by decide) ⟨by omega, by omega⟩ ⟨by omega, by omega⟩ (fun hc4 => ?_) (fun hc4 => ?_)
            · refine lv_aload_n hx hb d_MM_badPiece_60 rfl (lv_at hl 0 rfl) ?_
              refine zq_get hx hb hts i_MM hown hK hw h_o rfl 16 (by decide) (hts _ tw_602) rfl d_MM_badPiece_61 ?_
              refine lv_iload_n hx hb d_MM_badPiece_64 rfl (lv_at hl 2 rfl) ?_
              refine zq_iald hx hb hK hw 0 h_pi rfl (by omega) (by omega) (by decide) d_MM_badPiece_65 ?_
              refine lv_iload_n hx hb d_MM_badPiece_66 rfl (lv_at hl 2 rfl) ?_
              refine zq_icmp_ne (tgt := 85) hx hb d_MM_badPiece_67 (by decide) (by have := hHg.1.1 k (by omega) (by omega); exact ⟨by omega, by omega⟩) ⟨by omega, by omega⟩ (fun hc5 => ?_) (fun hc5 => ?_)
              · have hgk : zGk nn gH cF dvF gF k := fun q => absurd q (by omega)
                refine lv_iload_n hx hb d_MM_badPiece_85 rfl (lv_at hl 1 rfl) ?_
                refine lv_istore_n (lv' := [(1, .int (iI fnd)), (0, .ref o), (2, .int (iI k)), (3, .int (iI sz)), (4, .int (iI x))]) hx hb d_MM_badPiece_86 rfl hl (by decide) rfl (fun ls hl => ?_)
                refine lv_iinc (v := iI (k - 1)) (lv' := [(2, .int (iI (k - 1))), (1, .int (iI fnd)), (0, .ref o), (3, .int (iI sz)), (4, .int (iI x))]) hx hb d_MM_badPiece_87 hl (k := 2) rfl ((iI_add _ _).trans (congrArg iI (Int.sub_eq_add_neg).symm)) (by decide) rfl (fun ls hl => ?_)
                refine lv_goto (tgt := 17) hx hb d_MM_badPiece_90 (by decide) ?_
                exact ih_hL1 (k - 1) fnd Mq _ _ _ (by omega) (by rcases hfn with q | q; exact Or.inl ⟨q.1, fun z h1 h2 => (by by_cases e : z = k; rw [e]; exact hgk; exact q.2 z (by omega) h2)⟩; exact Or.inr q) (by omega) hfr h_o h_sg h_lb h_rw h_pi h_fo hw (lv_sub hl [2, 1, 0] rfl)
              · refine lv_aload_n hx hb d_MM_badPiece_70 rfl (lv_at hl 0 rfl) ?_
                refine lv_iload_n hx hb d_MM_badPiece_71 rfl (lv_at hl 2 rfl) ?_
                refine zq_callV (As := [.int (iI k)]) (rest := []) ⟨hx, hb, hml, hown, hts⟩ (c_MM_facesAt l D K Mq o bd th put wr nn cir oN oC cF FF arcs mns kn sg lb fF gH gF (fun j => dvF (2 * (j / 2) + 1)) k h_o hbd h_sg h_lb h_rw h_pi h_fo hsg hlb hnn ⟨hLsF.2.2.1, zLs_24 hgd hnn hLsF hIxF⟩ hLsF.2.2.2.2 hFoF.2.2.2.2.2.2.2.2 (fun z h1 h2 => by have := hHg.1.1 z h1 h2; exact ⟨by omega, by omega⟩) (fun j h1 h2 => zIx_pl hgd hIxF j h1 h2) ⟨by omega, by omega⟩) (cwV 1 hts (zg_V tw_729 tw_731 ts_37 tw_10 tw_732) rfl rfl rfl (by decide +kernel) ⟨Nat.le_of_ble_eq_true rfl, Nat.le_of_ble_eq_true rfl⟩) hZ hw hA h_o rfl rfl rfl rfl hl.1 (Nat.le_of_ble_eq_true rfl) d_MM_badPiece_72 ⟨Nat.le_of_ble_eq_true rfl, Nat.le_of_ble_eq_true rfl⟩ (fun v M6 H locs hp hw => ?_)
                obtain ⟨rfl, hMe⟩ := hp
                rw [hMe] at hw
                refine W.eq (g2 := F0 m 75 ls [.int (iI (zfa (fun j => gH ((fun j => dvF (2 * (j / 2) + 1)) j / 4)) gF k (2 * cF).toNat))]) rfl ?_
                refine lv_iload_n hx hb d_MM_badPiece_75 rfl (lv_at hl 3 rfl) ?_
                refine lv_iconst (v := iI 2) hx hb d_MM_badPiece_76 rfl ?_
                refine zq_iadd hx hb d_MM_badPiece_77 ?_
                refine zq_icmp_eq (tgt := 85) hx hb d_MM_badPiece_78 (by decide) (by have := zfa_bd (fun j => gH ((fun j => dvF (2 * (j / 2) + 1)) j / 4)) gF k (2 * cF).toNat; have h1 := hLsF.2.2.1; have h2 := hLsF.2.2.2.1; exact ⟨by omega, by omega⟩) (by have := zct_bd gH k x.toNat; exact ⟨by omega, by omega⟩) (fun hc7 => ?_) (fun hc7 => ?_)
                · have hgk : zGk nn gH cF dvF gF k := fun _ => by have h9 : zfa (fun j => gH (dvF (2 * (j / 2) + 1) / 4)) gF k (2 * cF).toNat = sz + 2 := hc7; rw [h9, hsz, show x.toNat = nn.toNat by omega]
                  refine lv_iload_n hx hb d_MM_badPiece_85 rfl (lv_at hl 1 rfl) ?_
                  refine lv_istore_n (lv' := [(1, .int (iI fnd)), (0, .ref o), (2, .int (iI k)), (3, .int (iI sz)), (4, .int (iI x))]) hx hb d_MM_badPiece_86 rfl hl (by decide) rfl (fun ls hl => ?_)
                  refine lv_iinc (v := iI (k - 1)) (lv' := [(2, .int (iI (k - 1))), (1, .int (iI fnd)), (0, .ref o), (3, .int (iI sz)), (4, .int (iI x))]) hx hb d_MM_badPiece_87 hl (k := 2) rfl ((iI_add _ _).trans (congrArg iI (Int.sub_eq_add_neg).symm)) (by decide) rfl (fun ls hl => ?_)
                  refine lv_goto (tgt := 17) hx hb d_MM_badPiece_90 (by decide) ?_
                  exact ih_hL1 (k - 1) fnd Mq _ _ _ (by omega) (by rcases hfn with q | q; exact Or.inl ⟨q.1, fun z h1 h2 => (by by_cases e : z = k; rw [e]; exact hgk; exact q.2 z (by omega) h2)⟩; exact Or.inr q) (by omega) hfr h_o h_sg h_lb h_rw h_pi h_fo hw (lv_sub hl [2, 1, 0] rfl)
                · have hbad : ¬ zGk nn gH cF dvF gF k := fun q => by have h9 : ¬ zfa (fun j => gH (dvF (2 * (j / 2) + 1) / 4)) gF k (2 * cF).toNat = sz + 2 := hc7; exact h9 (by rw [q (by omega), hsz, show x.toNat = nn.toNat by omega])
                  refine lv_iload_n hx hb d_MM_badPiece_81 rfl (lv_at hl 2 rfl) ?_
                  refine lv_goto (tgt := 86) hx hb d_MM_badPiece_82 (by decide) ?_
                  refine lv_istore_n (lv' := [(1, .int (iI k)), (0, .ref o), (2, .int (iI k)), (3, .int (iI sz)), (4, .int (iI x))]) hx hb d_MM_badPiece_86 rfl hl (by decide) rfl (fun ls hl => ?_)
                  refine lv_iinc (v := iI (k - 1)) (lv' := [(2, .int (iI (k - 1))), (1, .int (iI k)), (0, .ref o), (3, .int (iI sz)), (4, .int (iI x))]) hx hb d_MM_badPiece_87 hl (k := 2) rfl ((iI_add _ _).trans (congrArg iI (Int.sub_eq_add_neg).symm)) (by decide) rfl (fun ls hl => ?_)
                  refine lv_goto (tgt := 17) hx hb d_MM_badPiece_90 (by decide) ?_
                  exact ih_hL1 (k - 1) k Mq _ _ _ (by omega) (Or.inr ⟨⟨by omega, by omega⟩, fun q => hbad (q k (by omega) (by omega))⟩) (by omega) hfr h_o h_sg h_lb h_rw h_pi h_fo hw (lv_sub hl [2, 1, 0] rfl)
            · refine lv_iload_n hx hb d_MM_badPiece_35 rfl (lv_at hl 3 rfl) ?_
              refine lv_aload_n hx hb d_MM_badPiece_36 rfl (lv_at hl 0 rfl) ?_
              refine zq_get hx hb hts i_MM hown hK hw h_o rfl 16 (by decide) (hts _ tw_602) rfl d_MM_badPiece_37 ?_
              refine lv_iload hx hb d_MM_badPiece_40 (lv_at hl 4 rfl) ?_
              refine zq_iald hx hb hK hw 0 h_pi rfl (by omega) (by omega) (by decide) d_MM_badPiece_42 ?_
              refine lv_iload_n hx hb d_MM_badPiece_43 rfl (lv_at hl 2 rfl) ?_
              refine zq_icmp_ne (tgt := 51) hx hb d_MM_badPiece_44 (by decide) (by have := hHg.1.1 x (by omega) (by omega); exact ⟨by omega, by omega⟩) ⟨by omega, by omega⟩ (fun hc8 => ?_) (fun hc8 => ?_)
              · refine lv_iconst (v := iI 0) hx hb d_MM_badPiece_51 rfl ?_
                refine zq_iadd hx hb d_MM_badPiece_52 ?_
                rw [show sz + 0 = (sz : Int) from by omega]
                refine lv_istore_n (lv' := [(3, .int (iI sz)), (0, .ref o), (1, .int (iI fnd)), (2, .int (iI k)), (4, .int (iI x))]) hx hb d_MM_badPiece_53 rfl hl (by decide) rfl (fun ls hl => ?_)
                refine lv_iinc (v := iI (x + 1)) (lv' := [(4, .int (iI (x + 1))), (3, .int (iI sz)), (0, .ref o), (1, .int (iI fnd)), (2, .int (iI k))]) hx hb d_MM_badPiece_54 hl (k := 4) rfl (iI_add _ _) (by decide) rfl (fun ls hl => ?_)
                refine lv_goto (tgt := 26) hx hb d_MM_badPiece_57 (by decide) ?_
                exact ih_hL2 (x + 1) sz Mq _ _ _ (by omega) (by rw [hsz]; exact zct_n hx0.1 (by omega)) (by omega) hfr h_o h_sg h_lb h_rw h_pi h_fo hw (lv_sub hl [2, 3, 4, 1, 0] rfl)
              · refine lv_iconst (v := iI 1) hx hb d_MM_badPiece_47 rfl ?_
                refine lv_goto (tgt := 52) hx hb d_MM_badPiece_48 (by decide) ?_
                refine zq_iadd hx hb d_MM_badPiece_52 ?_
                refine lv_istore_n (lv' := [(3, .int (iI (sz + 1))), (0, .ref o), (1, .int (iI fnd)), (2, .int (iI k)), (4, .int (iI x))]) hx hb d_MM_badPiece_53 rfl hl (by decide) rfl (fun ls hl => ?_)
                refine lv_iinc (v := iI (x + 1)) (lv' := [(4, .int (iI (x + 1))), (3, .int (iI (sz + 1))), (0, .ref o), (1, .int (iI fnd)), (2, .int (iI k))]) hx hb d_MM_badPiece_54 hl (k := 4) rfl (iI_add _ _) (by decide) rfl (fun ls hl => ?_)
                refine lv_goto (tgt := 26) hx hb d_MM_badPiece_57 (by decide) ?_
                exact ih_hL2 (x + 1) (sz + 1) Mq _ _ _ (by omega) (by rw [hsz]; exact zct_y hx0.1 (by omega)) (by omega) hfr h_o h_sg h_lb h_rw h_pi h_fo hw (lv_sub hl [2, 3, 4, 1, 0] rfl)
        refine lv_iconst (v := iI 0) hx hb d_MM_badPiece_21 rfl ?_
        refine lv_istore_n (lv' := [(3, .int (iI 0)), (0, .ref o), (1, .int (iI fnd)), (2, .int (iI k))]) hx hb d_MM_badPiece_22 rfl hl (by decide) rfl (fun ls hl => ?_)
        refine lv_iconst (v := iI 0) hx hb d_MM_badPiece_23 rfl ?_
        refine lv_istore (lv' := [(4, .int (iI 0)), (3, .int (iI 0)), (0, .ref o), (1, .int (iI fnd)), (2, .int (iI k))]) hx hb d_MM_badPiece_24 hl (by decide) rfl (fun ls hl => ?_)
        exact hL2 _ 0 0 Mq _ _ _ ⟨by omega, by omega⟩ rfl (Nat.lt_succ_self _) hfr h_o h_sg h_lb h_rw h_pi h_fo hw (lv_sub hl [2, 3, 4, 1, 0] rfl)
  refine lv_iconst (v := iI (-1)) hx hb d_MM_badPiece_8 rfl ?_
  refine lv_istore_n (lv' := [(1, .int (iI (-1))), (0, .ref o)]) hx hb d_MM_badPiece_9 rfl hl (by decide) rfl (fun ls hl => ?_)
  refine lv_aload_n hx hb d_MM_badPiece_10 rfl (lv_at hl 1 rfl) ?_
  refine zq_get hx hb hts i_MM hown hK hw h_o rfl 5 (by decide) (hts _ tw_591) rfl d_MM_badPiece_11 ?_
  refine lv_iconst (v := iI 1) hx hb d_MM_badPiece_14 rfl ?_
  refine zq_isub hx hb d_MM_badPiece_15 ?_
  refine lv_istore_n (lv' := [(2, .int (iI (nn - 1))), (1, .int (iI (-1))), (0, .ref o)]) hx hb d_MM_badPiece_16 rfl hl (by decide) rfl (fun ls hl => ?_)
  exact hL1 _ (nn - 1) (-1) M2 _ _ _ ⟨by omega, by omega⟩ (Or.inl ⟨rfl, fun z h1 h2 => by omega⟩) (Nat.lt_succ_self _) hfr h_o h_sg h_lb h_rw h_pi h_fo hw (lv_sub hl [2, 1, 0] rfl)
abbrev P_MM_fault (K : Nat → ClassId) (M : zq_M) (o : Nat) (bd : Nat → Nat) (th : Int) (put : Int) (wr : Int) (nn : Int) (cir : Int) (oN : Int) (oC : Int) (lbs : Int) (fcs : Int) (arcs : Int) (mns : Int) (kn : Int) (sg : Int → Int) (lb : Int → Int) (rw : Int → Int) (pi : Int → Int) (fo : Int → Int) : Option Value → zq_M → Prop := fun v M' => ∃ (r wr' c' : Int) (f' g' fo' : Int → Int) (F' : Int), v = some (.int (iI r)) ∧ zFt sg lb nn r ∧ M' o = some (.inr (9, [.int (iI th), .int (iI put), .int (iI wr'), .ref (bd 0), .ref (bd 1), .int (iI nn), .int (iI cir), .int (iI oN), .int (iI oC), .ref (bd 2), .ref (bd 3), .ref (bd 4), .ref (bd 5), .int (iI c'), .ref (bd 6), .ref (bd 7), .ref (bd 8), .int (iI F'), .ref (bd 9), .int (iI arcs), .ref (bd 10), .ref (bd 11), .ref (bd 12), .ref (bd 13), .int (iI mns), .ref (bd 14), .ref (bd 15), .ref (bd 16), .int (iI kn), .ref (bd 17)])) ∧ M' (bd 6) = some (cI (K 0) 48 f') ∧ M' (bd 8) = some (cI (K 0) 12 g') ∧ M' (bd 9) = some (cI (K 0) 48 fo') ∧ (∀ j, inI (f' j)) ∧ (∀ j, inI (fo' j)) ∧ ∀ q, q ≠ o → q ≠ (bd 6) → q ≠ (bd 8) → q ≠ (bd 9) → M' q = M q
set_option maxHeartbeats 4000000 in
set_option maxRecDepth 100000 in
theorem c_MM_fault (l : Launch) (D : va_G) (K : Nat → ClassId) (M : zq_M) (o : Nat) (bd : Nat → Nat) (th : Int) (put : Int) (wr : Int) (nn : Int) (cir : Int) (oN : Int) (oC : Int) (lbs : Int) (fcs : Int) (arcs : Int) (mns : Int) (kn : Int) (sg : Int → Int) (lb : Int → Int) (rw : Int → Int) (pi : Int → Int) (fo : Int → Int) (h_o : M o = some (.inr (9, [.int (iI th), .int (iI put), .int (iI wr), .ref (bd 0), .ref (bd 1), .int (iI nn), .int (iI cir), .int (iI oN), .int (iI oC), .ref (bd 2), .ref (bd 3), .ref (bd 4), .ref (bd 5), .int (iI lbs), .ref (bd 6), .ref (bd 7), .ref (bd 8), .int (iI fcs), .ref (bd 9), .int (iI arcs), .ref (bd 10), .ref (bd 11), .ref (bd 12), .ref (bd 13), .int (iI mns), .ref (bd 14), .ref (bd 15), .ref (bd 16), .int (iI kn), .ref (bd 17)]))) (hbd : ∀ i j, i < 18 → j < 18 → bd i = bd j → i = j) (h_sg : M (bd 2) = some (cI (K 0) 12 sg)) (h_lb : M (bd 3) = some (cI (K 0) 48 lb)) (h_rw : M (bd 6) = some (cI (K 0) 48 rw)) (h_pi : M (bd 8) = some (cI (K 0) 12 pi)) (h_fo : M (bd 9) = some (cI (K 0) 48 fo)) (hsg : ∀ j, inI (sg j)) (hlb : ∀ j, inI (lb j)) (hnn : 0 ≤ nn ∧ nn ≤ 12) (hrw : ∀ j, inI (rw j)) (hfo : ∀ j, inI (fo j)) (hlp : ∀ z, 0 ≤ z → z < 4 * nn → 1 ≤ lb z ∧ lb z ≤ 9999) : zq_Met l y_MM_fault (.code y_MM_fault b_MM_fault 1 (some .int) :: lw_gd) { frames := 5, cells := 0, slots := 0, locals := 116 } D vwCl (zT K) [.ref o] M (P_MM_fault K M o bd th put wr nn cir oN oC lbs fcs arcs mns kn sg lb rw pi fo) 0 0 := by
  refine zq_start (cc := b_MM_fault) (maxL := 1) (ret := (some .int)) (by decide) rfl (Nat.le_of_ble_eq_true rfl) ?_
  intro p e s m below meth co A ls hx hb hr hml hts hown hnm hlocks hA hZ hw hl
  have hts : ∀ w ∈ lw_gd, w.before [.ref o].toArray s = true := fun w h => hts w (List.mem_cons_of_mem _ h)
  have hown : s.vm.findClass R_MM = some m.cls := hown
  have hK := hZ.1
  have hl : lv_has ls 1 [(0, .ref o)] := hl
  have hfr : ∀ q, q ≠ o → q ≠ (bd 6) → q ≠ (bd 8) → q ≠ (bd 9) → M q = M q := fun q _ _ _ _ => rfl
  refine lv_aload_n hx hb d_MM_fault_0 rfl (lv_at hl 0 rfl) ?_
  refine lv_aload_n hx hb d_MM_fault_1 rfl (lv_at hl 0 rfl) ?_
  refine lv_iconst (v := iI 0) hx hb d_MM_fault_2 rfl ?_
  refine zq_callV (As := [.int (iI 0)]) (rest := [.ref o]) ⟨hx, hb, hml, hown, hts⟩ (c_MM_badLabel l D K M o bd th put wr nn cir oN oC lbs fcs arcs mns kn sg lb rw  0 h_o hbd h_sg h_lb h_rw hsg hlb hnn hrw hlp (Or.inl rfl)) (cwV 1 hts (zg_V tw_693 tw_695 ts_28 tw_10 tw_696) rfl rfl rfl (by decide +kernel) ⟨Nat.le_of_ble_eq_true rfl, Nat.le_of_ble_eq_true rfl⟩) hZ hw hA h_o rfl rfl rfl rfl hl.1 (Nat.le_of_ble_eq_true rfl) d_MM_fault_3 ⟨Nat.le_of_ble_eq_true rfl, Nat.le_of_ble_eq_true rfl⟩ (fun v M2 H locs hp hw => ?_)
  obtain ⟨rb1, crb1, frb1, rfl, hRrb1, hLrb1, hBrb1, hs1, hs2, ho⟩ := hp
  have h_sg : M2 (bd 2) = some (cI (K 0) 12 sg) := (ho _ (zq_ne h_sg h_o (by simp)) (zbd hbd 2 6)).trans h_sg
  have h_lb : M2 (bd 3) = some (cI (K 0) 48 lb) := (ho _ (zq_ne h_lb h_o (by simp)) (zbd hbd 3 6)).trans h_lb
  have h_pi : M2 (bd 8) = some (cI (K 0) 12 pi) := (ho _ (zq_ne h_pi h_o (by simp)) (Ne.symm (zbd hbd 6 8))).trans h_pi
  have h_fo : M2 (bd 9) = some (cI (K 0) 48 fo) := (ho _ (zq_ne h_fo h_o (by simp)) (Ne.symm (zbd hbd 6 9))).trans h_fo
  have h_o : M2 o = some (.inr (9, [.int (iI th), .int (iI put), .int (iI wr), .ref (bd 0), .ref (bd 1), .int (iI nn), .int (iI cir), .int (iI oN), .int (iI oC), .ref (bd 2), .ref (bd 3), .ref (bd 4), .ref (bd 5), .int (iI crb1), .ref (bd 6), .ref (bd 7), .ref (bd 8), .int (iI fcs), .ref (bd 9), .int (iI arcs), .ref (bd 10), .ref (bd 11), .ref (bd 12), .ref (bd 13), .int (iI mns), .ref (bd 14), .ref (bd 15), .ref (bd 16), .int (iI kn), .ref (bd 17)])) := hs1
  have h_rw : M2 (bd 6) = some (cI (K 0) 48 frb1) := hs2
  have hfr : ∀ q, q ≠ o → q ≠ (bd 6) → q ≠ (bd 8) → q ≠ (bd 9) → M2 q = M q := fun q g0 g1 g2 g3 => (ho q g0 g1).trans (hfr q g0 g1 g2 g3)
  refine W.eq (g2 := F0 m 6 ls [.int (iI rb1), .ref o]) rfl ?_
  refine zq_put (ci := 9) (v := .int (iI rb1)) (ty := .int) hx hb hts i_MM t_MM t_MM_ok n_MM hown hK hw h_o rfl 2 (by decide) (hts _ tw_588) rfl (by decide +kernel) rfl rfl (Nat.le_of_ble_eq_true rfl) d_MM_fault_6 (fun M3 H locs hs ho hw => ?_)
  have h_sg : M3 (bd 2) = some (cI (K 0) 12 sg) := (ho _ (zq_ne h_sg h_o (by simp))).trans h_sg
  have h_lb : M3 (bd 3) = some (cI (K 0) 48 lb) := (ho _ (zq_ne h_lb h_o (by simp))).trans h_lb
  have h_rw : M3 (bd 6) = some (cI (K 0) 48 frb1) := (ho _ (zq_ne h_rw h_o (by simp))).trans h_rw
  have h_pi : M3 (bd 8) = some (cI (K 0) 12 pi) := (ho _ (zq_ne h_pi h_o (by simp))).trans h_pi
  have h_fo : M3 (bd 9) = some (cI (K 0) 48 fo) := (ho _ (zq_ne h_fo h_o (by simp))).trans h_fo
  have h_o : M3 o = some (.inr (9, [.int (iI th), .int (iI put), .int (iI rb1), .ref (bd 0), .ref (bd 1), .int (iI nn), .int (iI cir), .int (iI oN), .int (iI oC), .ref (bd 2), .ref (bd 3), .ref (bd 4), .ref (bd 5), .int (iI crb1), .ref (bd 6), .ref (bd 7), .ref (bd 8), .int (iI fcs), .ref (bd 9), .int (iI arcs), .ref (bd 10), .ref (bd 11), .ref (bd 12), .ref (bd 13), .int (iI mns), .ref (bd 14), .ref (bd 15), .ref (bd 16), .int (iI kn), .ref (bd 17)])) := hs
  have hfr : ∀ q, q ≠ o → q ≠ (bd 6) → q ≠ (bd 8) → q ≠ (bd 9) → M3 q = M q := fun q g0 g1 g2 g3 => (ho q g0).trans (hfr q g0 g1 g2 g3)
  refine lv_aload_n hx hb d_MM_fault_9 rfl (lv_at hl 0 rfl) ?_
  refine zq_get hx hb hts i_MM hown hK hw h_o rfl 2 (by decide) (hts _ tw_588) rfl d_MM_fault_10 ?_
  refine zq_if_lt (tgt := 18) hx hb d_MM_fault_13 (by decide) hRrb1 (fun hc4 => ?_) (fun hc4 => ?_)
  · refine lv_aload_n hx hb d_MM_fault_18 rfl (lv_at hl 0 rfl) ?_
    refine lv_aload_n hx hb d_MM_fault_19 rfl (lv_at hl 0 rfl) ?_
    refine lv_iconst (v := iI 1) hx hb d_MM_fault_20 rfl ?_
    refine zq_callV (As := [.int (iI 1)]) (rest := [.ref o]) ⟨hx, hb, hml, hown, hts⟩ (c_MM_badLabel l D K M3 o bd th put rb1 nn cir oN oC crb1 fcs arcs mns kn sg lb frb1  1 h_o hbd h_sg h_lb h_rw hsg hlb hnn hLrb1.2.2.2.2 hlp (Or.inr rfl)) (cwV 1 hts (zg_V tw_693 tw_695 ts_28 tw_10 tw_696) rfl rfl rfl (by decide +kernel) ⟨Nat.le_of_ble_eq_true rfl, Nat.le_of_ble_eq_true rfl⟩) hZ hw hA h_o rfl rfl rfl rfl hl.1 (Nat.le_of_ble_eq_true rfl) d_MM_fault_21 ⟨Nat.le_of_ble_eq_true rfl, Nat.le_of_ble_eq_true rfl⟩ (fun v M6 H locs hp hw => ?_)
    obtain ⟨rb5, crb5, frb5, rfl, hRrb5, hLrb5, hBrb5, hs1, hs2, ho⟩ := hp
    have h_sg : M6 (bd 2) = some (cI (K 0) 12 sg) := (ho _ (zq_ne h_sg h_o (by simp)) (zbd hbd 2 6)).trans h_sg
    have h_lb : M6 (bd 3) = some (cI (K 0) 48 lb) := (ho _ (zq_ne h_lb h_o (by simp)) (zbd hbd 3 6)).trans h_lb
    have h_pi : M6 (bd 8) = some (cI (K 0) 12 pi) := (ho _ (zq_ne h_pi h_o (by simp)) (Ne.symm (zbd hbd 6 8))).trans h_pi
    have h_fo : M6 (bd 9) = some (cI (K 0) 48 fo) := (ho _ (zq_ne h_fo h_o (by simp)) (Ne.symm (zbd hbd 6 9))).trans h_fo
    have h_o : M6 o = some (.inr (9, [.int (iI th), .int (iI put), .int (iI rb1), .ref (bd 0), .ref (bd 1), .int (iI nn), .int (iI cir), .int (iI oN), .int (iI oC), .ref (bd 2), .ref (bd 3), .ref (bd 4), .ref (bd 5), .int (iI crb5), .ref (bd 6), .ref (bd 7), .ref (bd 8), .int (iI fcs), .ref (bd 9), .int (iI arcs), .ref (bd 10), .ref (bd 11), .ref (bd 12), .ref (bd 13), .int (iI mns), .ref (bd 14), .ref (bd 15), .ref (bd 16), .int (iI kn), .ref (bd 17)])) := hs1
    have h_rw : M6 (bd 6) = some (cI (K 0) 48 frb5) := hs2
    have hfr : ∀ q, q ≠ o → q ≠ (bd 6) → q ≠ (bd 8) → q ≠ (bd 9) → M6 q = M q := fun q g0 g1 g2 g3 => (ho q g0 g1).trans (hfr q g0 g1 g2 g3)
    refine W.eq (g2 := F0 m 24 ls [.int (iI rb5), .ref o]) rfl ?_
    refine zq_put (ci := 9) (v := .int (iI rb5)) (ty := .int) hx hb hts i_MM t_MM t_MM_ok n_MM hown hK hw h_o rfl 2 (by decide) (hts _ tw_588) rfl (by decide +kernel) rfl rfl (Nat.le_of_ble_eq_true rfl) d_MM_fault_24 (fun M7 H locs hs ho hw => ?_)
    have h_sg : M7 (bd 2) = some (cI (K 0) 12 sg) := (ho _ (zq_ne h_sg h_o (by simp))).trans h_sg
    have h_lb : M7 (bd 3) = some (cI (K 0) 48 lb) := (ho _ (zq_ne h_lb h_o (by simp))).trans h_lb
    have h_rw : M7 (bd 6) = some (cI (K 0) 48 frb5) := (ho _ (zq_ne h_rw h_o (by simp))).trans h_rw
    have h_pi : M7 (bd 8) = some (cI (K 0) 12 pi) := (ho _ (zq_ne h_pi h_o (by simp))).trans h_pi
    have h_fo : M7 (bd 9) = some (cI (K 0) 48 fo) := (ho _ (zq_ne h_fo h_o (by simp))).trans h_fo
    have h_o : M7 o = some (.inr (9, [.int (iI th), .int (iI put), .int (iI rb5), .ref (bd 0), .ref (bd 1), .int (iI nn), .int (iI cir), .int (iI oN), .int (iI oC), .ref (bd 2), .ref (bd 3), .ref (bd 4), .ref (bd 5), .int (iI crb5), .ref (bd 6), .ref (bd 7), .ref (bd 8), .int (iI fcs), .ref (bd 9), .int (iI arcs), .ref (bd 10), .ref (bd 11), .ref (bd 12), .ref (bd 13), .int (iI mns), .ref (bd 14), .ref (bd 15), .ref (bd 16), .int (iI kn), .ref (bd 17)])) := hs
    have hfr : ∀ q, q ≠ o → q ≠ (bd 6) → q ≠ (bd 8) → q ≠ (bd 9) → M7 q = M q := fun q g0 g1 g2 g3 => (ho q g0).trans (hfr q g0 g1 g2 g3)
    refine lv_aload_n hx hb d_MM_fault_27 rfl (lv_at hl 0 rfl) ?_
    refine zq_get hx hb hts i_MM hown hK hw h_o rfl 2 (by decide) (hts _ tw_588) rfl d_MM_fault_28 ?_
    refine zq_if_lt (tgt := 36) hx hb d_MM_fault_31 (by decide) hRrb5 (fun hc8 => ?_) (fun hc8 => ?_)
    · have hg0 := (hBrb1.resolve_right (fun q => by omega)).2
      have hg1 := (hBrb5.resolve_right (fun q => by omega)).2
      have hgd := zGd_of hg0 hg1
      refine lv_aload_n hx hb d_MM_fault_36 rfl (lv_at hl 0 rfl) ?_
      refine lv_aload_n hx hb d_MM_fault_37 rfl (lv_at hl 0 rfl) ?_
      refine zq_callV (As := []) (rest := [.ref o]) ⟨hx, hb, hml, hown, hts⟩ (c_MM_badPiece l D K M7 o bd th put rb5 nn cir oN oC crb5 fcs arcs mns kn sg lb frb5 pi fo   h_o hbd h_sg h_lb h_rw h_pi h_fo hsg hlb hnn hLrb5.2.2.2.2 hfo hgd hlp) (cwV 0 hts (zg_V tw_709 tw_711 ts_32 tw_10 tw_712) rfl rfl rfl (by decide +kernel) ⟨Nat.le_of_ble_eq_true rfl, Nat.le_of_ble_eq_true rfl⟩) hZ hw hA h_o rfl rfl rfl rfl hl.1 (Nat.le_of_ble_eq_true rfl) d_MM_fault_38 ⟨Nat.le_of_ble_eq_true rfl, Nat.le_of_ble_eq_true rfl⟩ (fun v M9 H locs hp hw => ?_)
      obtain ⟨rB, gB, cB, fB, ixB, dvB, taB, oB, FB, rfl, hRB, hMfB, hBB, hs1, hs2, hs3, hs4, ho⟩ := hp
      have h_sg : M9 (bd 2) = some (cI (K 0) 12 sg) := (ho _ (zq_ne h_sg h_o (by simp)) (zbd hbd 2 6) (zbd hbd 2 8) (zbd hbd 2 9)).trans h_sg
      have h_lb : M9 (bd 3) = some (cI (K 0) 48 lb) := (ho _ (zq_ne h_lb h_o (by simp)) (zbd hbd 3 6) (zbd hbd 3 8) (zbd hbd 3 9)).trans h_lb
      have h_o : M9 o = some (.inr (9, [.int (iI th), .int (iI put), .int (iI rb5), .ref (bd 0), .ref (bd 1), .int (iI nn), .int (iI cir), .int (iI oN), .int (iI oC), .ref (bd 2), .ref (bd 3), .ref (bd 4), .ref (bd 5), .int (iI cB), .ref (bd 6), .ref (bd 7), .ref (bd 8), .int (iI FB), .ref (bd 9), .int (iI arcs), .ref (bd 10), .ref (bd 11), .ref (bd 12), .ref (bd 13), .int (iI mns), .ref (bd 14), .ref (bd 15), .ref (bd 16), .int (iI kn), .ref (bd 17)])) := hs1
      have h_rw : M9 (bd 6) = some (cI (K 0) 48 fB) := hs2
      have h_pi : M9 (bd 8) = some (cI (K 0) 12 gB) := hs3
      have h_fo : M9 (bd 9) = some (cI (K 0) 48 oB) := hs4
      have hfr : ∀ q, q ≠ o → q ≠ (bd 6) → q ≠ (bd 8) → q ≠ (bd 9) → M9 q = M q := fun q g0 g1 g2 g3 => (ho q g0 g1 g2 g3).trans (hfr q g0 g1 g2 g3)
      refine W.eq (g2 := F0 m 41 ls [.int (iI rB), .ref o]) rfl ?_
      refine zq_put (ci := 9) (v := .int (iI rB)) (ty := .int) hx hb hts i_MM t_MM t_MM_ok n_MM hown hK hw h_o rfl 2 (by decide) (hts _ tw_588) rfl (by decide +kernel) rfl rfl (Nat.le_of_ble_eq_true rfl) d_MM_fault_41 (fun M10 H locs hs ho hw => ?_)
      have h_sg : M10 (bd 2) = some (cI (K 0) 12 sg) := (ho _ (zq_ne h_sg h_o (by simp))).trans h_sg
      have h_lb : M10 (bd 3) = some (cI (K 0) 48 lb) := (ho _ (zq_ne h_lb h_o (by simp))).trans h_lb
      have h_rw : M10 (bd 6) = some (cI (K 0) 48 fB) := (ho _ (zq_ne h_rw h_o (by simp))).trans h_rw
      have h_pi : M10 (bd 8) = some (cI (K 0) 12 gB) := (ho _ (zq_ne h_pi h_o (by simp))).trans h_pi
      have h_fo : M10 (bd 9) = some (cI (K 0) 48 oB) := (ho _ (zq_ne h_fo h_o (by simp))).trans h_fo
      have h_o : M10 o = some (.inr (9, [.int (iI th), .int (iI put), .int (iI rB), .ref (bd 0), .ref (bd 1), .int (iI nn), .int (iI cir), .int (iI oN), .int (iI oC), .ref (bd 2), .ref (bd 3), .ref (bd 4), .ref (bd 5), .int (iI cB), .ref (bd 6), .ref (bd 7), .ref (bd 8), .int (iI FB), .ref (bd 9), .int (iI arcs), .ref (bd 10), .ref (bd 11), .ref (bd 12), .ref (bd 13), .int (iI mns), .ref (bd 14), .ref (bd 15), .ref (bd 16), .int (iI kn), .ref (bd 17)])) := hs
      have hfr : ∀ q, q ≠ o → q ≠ (bd 6) → q ≠ (bd 8) → q ≠ (bd 9) → M10 q = M q := fun q g0 g1 g2 g3 => (ho q g0).trans (hfr q g0 g1 g2 g3)
      refine lv_aload_n hx hb d_MM_fault_44 rfl (lv_at hl 0 rfl) ?_
      refine zq_get hx hb hts i_MM hown hK hw h_o rfl 2 (by decide) (hts _ tw_588) rfl d_MM_fault_45 ?_
      refine zq_if_lt (tgt := 55) hx hb d_MM_fault_48 (by decide) hRB (fun hc11 => ?_) (fun hc11 => ?_)
      · refine lv_iconst (v := iI 0) hx hb d_MM_fault_55 rfl ?_
        exact zq_iret hx hb hr hlocks hZ hw ⟨0, _, _, _, _, _, _, rfl, Or.inr (Or.inr ⟨hg0, hg1, _, _, _, _, _, _, _, _, hMfB, Or.inl ⟨rfl, (hBB.resolve_right (fun q => by omega)).2⟩⟩), h_o, h_rw, h_pi, h_fo, hMfB.2.1.2.2.2.2, hMfB.2.2.2.2.2.2.2.2.2.2.2, hfr⟩ d_MM_fault_56
      · refine lv_iconst (v := iI 3) hx hb d_MM_fault_51 rfl ?_
        refine lv_goto (tgt := 56) hx hb d_MM_fault_52 (by decide) ?_
        exact zq_iret hx hb hr hlocks hZ hw ⟨3, _, _, _, _, _, _, rfl, Or.inr (Or.inr ⟨hg0, hg1, _, _, _, _, _, _, _, _, hMfB, Or.inr ⟨rfl, (hBB.resolve_left (fun q => by omega)).2⟩⟩), h_o, h_rw, h_pi, h_fo, hMfB.2.1.2.2.2.2, hMfB.2.2.2.2.2.2.2.2.2.2.2, hfr⟩ d_MM_fault_56
    · refine lv_iconst (v := iI 2) hx hb d_MM_fault_34 rfl ?_
      exact zq_iret hx hb hr hlocks hZ hw ⟨2, _, _, _, _, _, _, rfl, Or.inr (Or.inl ⟨rfl, (hBrb1.resolve_right (fun q => by omega)).2, (hBrb5.resolve_left (fun q => by omega)).2⟩), h_o, h_rw, h_pi, h_fo, hLrb5.2.2.2.2, hfo, hfr⟩ d_MM_fault_35
  · refine lv_iconst (v := iI 1) hx hb d_MM_fault_16 rfl ?_
    exact zq_iret hx hb hr hlocks hZ hw ⟨1, _, _, _, _, _, _, rfl, Or.inl ⟨rfl, (hBrb1.resolve_left (fun q => by omega)).2⟩, h_o, h_rw, h_pi, h_fo, hLrb1.2.2.2.2, hfo, hfr⟩ d_MM_fault_17
