abbrev P_MM_rowOf (K : Nat → ClassId) (M : zq_M) (o : Nat) (bd : Nat → Nat) (th : Int) (put : Int) (wr : Int) (nn : Int) (cir : Int) (oN : Int) (oC : Int) (lbs : Int) (fcs : Int) (arcs : Int) (mns : Int) (kn : Int) (rw : Int → Int) (y : Int) : Option Value → zq_M → Prop := fun v M' => ∃ r, v = some (.int (iI r)) ∧ (0 ≤ r ∧ r < 48) ∧ rw r = y ∧ (∀ j, 0 ≤ j → j < r → ¬ rw j = y) ∧ M' = M
set_option maxHeartbeats 4000000 in
set_option maxRecDepth 100000 in
theorem c_MM_rowOf (l : Launch) (D : va_G) (K : Nat → ClassId) (M : zq_M) (o : Nat) (bd : Nat → Nat) (th : Int) (put : Int) (wr : Int) (nn : Int) (cir : Int) (oN : Int) (oC : Int) (lbs : Int) (fcs : Int) (arcs : Int) (mns : Int) (kn : Int) (rw : Int → Int) (y : Int) (h_o : M o = some (.inr (9, [.int (iI th), .int (iI put), .int (iI wr), .ref (bd 0), .ref (bd 1), .int (iI nn), .int (iI cir), .int (iI oN), .int (iI oC), .ref (bd 2), .ref (bd 3), .ref (bd 4), .ref (bd 5), .int (iI lbs), .ref (bd 6), .ref (bd 7), .ref (bd 8), .int (iI fcs), .ref (bd 9), .int (iI arcs), .ref (bd 10), .ref (bd 11), .ref (bd 12), .ref (bd 13), .int (iI mns), .ref (bd 14), .ref (bd 15), .ref (bd 16), .int (iI kn), .ref (bd 17)]))) (hbd : ∀ i j, i < 18 → j < 18 → bd i = bd j → i = j) (h_rw : M (bd 6) = some (cI (K 0) 48 rw)) (hrw : ∀ j, inI (rw j)) (hy : inI y) (hex : ∃ j, 0 ≤ j ∧ j < 48 ∧ rw j = y) : zq_Met l y_MM_rowOf (.code y_MM_rowOf b_MM_rowOf 3 (some .int) :: lw_gd) { frames := 0, cells := 0, slots := 0, locals := 0 } D vwCl (zT K) [.ref o, .int (iI y)] M (P_MM_rowOf K M o bd th put wr nn cir oN oC lbs fcs arcs mns kn rw y) 0 0 := by
  refine zq_start (cc := b_MM_rowOf) (maxL := 3) (ret := (some .int)) (by decide) rfl (Nat.le_of_ble_eq_true rfl) ?_
  intro p e s m below meth co A ls hx hb hr hml hts hown hnm hlocks hA hZ hw hl
  have hts : ∀ w ∈ lw_gd, w.before [.ref o, .int (iI y)].toArray s = true := fun w h => hts w (List.mem_cons_of_mem _ h)
  have hown : s.vm.findClass R_MM = some m.cls := hown
  have hK := hZ.1
  have hl : lv_has ls 3 [(0, .ref o), (1, .int (iI y))] := hl
  obtain ⟨j0, hj1, hj2, hj3⟩ := hex
  have hL : ∀ (n : Nat) (i : Int) (H : Heap) (locs : List Loc) (ls : Array Slot), (0 ≤ i ∧ i ≤ j0) → (∀ j, 0 ≤ j → j < i → ¬ rw j = y) → (j0 - i).toNat < n → zq_W D vwCl A s.heap M H locs → lv_has ls 3 [(0, .ref o), (1, .int (iI y)), (2, .int (iI i))] → W p l e ({ frames := 0, cells := 0, slots := 0, locals := 0 } : Room) s m [.ref o, .int (iI y)].toArray below meth co H locs 0 0 (MQ below (zq_Q D vwCl (zT K) (P_MM_rowOf K M o bd th put wr nn cir oN oC lbs fcs arcs mns kn rw y) A) [.ref o, .int (iI y)].toArray s 0 0 A) (F0 m 2 ls []) := by
    intro n
    induction n with
    | zero =>
      intro i H locs ls hi hn hms hw hl
      exact absurd hms (Nat.not_lt_zero _)
    | succ n ih_hL =>
      intro i H locs ls hi hn hms hw hl
      refine lv_aload_n hx hb d_MM_rowOf_2 rfl (lv_at hl 0 rfl) ?_
      refine zq_get hx hb hts i_MM hown hK hw h_o rfl 14 (by decide) (hts _ tw_600) rfl d_MM_rowOf_3 ?_
      refine lv_iload_n hx hb d_MM_rowOf_6 rfl (lv_at hl 2 rfl) ?_
      refine zq_iald hx hb hK hw 0 h_rw rfl (by omega) (by omega) (by decide) d_MM_rowOf_7 ?_
      refine lv_iload_n hx hb d_MM_rowOf_8 rfl (lv_at hl 1 rfl) ?_
      refine zq_icmp_eq (tgt := 18) hx hb d_MM_rowOf_9 (by decide) (hrw _) hy (fun hc1 => ?_) (fun hc1 => ?_)
      · refine lv_iload_n hx hb d_MM_rowOf_18 rfl (lv_at hl 2 rfl) ?_
        exact zq_iret hx hb hr hlocks hZ hw ⟨i, rfl, ⟨by omega, by omega⟩, by assumption, hn, rfl⟩ d_MM_rowOf_19
      · refine lv_iinc (v := iI (i + 1)) (lv' := [(2, .int (iI (i + 1))), (0, .ref o), (1, .int (iI y))]) hx hb d_MM_rowOf_12 hl (k := 2) rfl (iI_add _ _) (by decide) rfl (fun ls hl => ?_)
        refine lv_goto (tgt := 2) hx hb d_MM_rowOf_15 (by decide) ?_
        exact ih_hL (i + 1) _ _ _ (by have : i ≠ j0 := (fun z => by rw [z] at hc1; exact hc1 hj3); omega) (fun j h1 h2 => by by_cases q : j = i; rw [q]; assumption; exact hn j h1 (by omega)) (by have : i ≠ j0 := (fun z => by rw [z] at hc1; exact hc1 hj3); omega) hw (lv_sub hl [1, 2, 0] rfl)
  refine lv_iconst (v := iI 0) hx hb d_MM_rowOf_0 rfl ?_
  refine lv_istore_n (lv' := [(2, .int (iI 0)), (0, .ref o), (1, .int (iI y))]) hx hb d_MM_rowOf_1 rfl hl (by decide) rfl (fun ls hl => ?_)
  exact hL _ 0 _ _ _ (by omega) (fun j h1 h2 => by omega) (Nat.lt_succ_self _) hw (lv_sub hl [1, 2, 0] rfl)
abbrev P_MM_turn (K : Nat → ClassId) (M : zq_M) (o : Nat) (bd : Nat → Nat) (th : Int) (put : Int) (wr : Int) (nn : Int) (cir : Int) (oN : Int) (oC : Int) (lbs : Int) (fcs : Int) (arcs : Int) (mns : Int) (kn : Int) (sg : Int → Int) (lb : Int → Int) (d0 : Int) : Option Value → zq_M → Prop := fun v M' => ∃ r, v = some (.int (iI (2 * lb (ztp r) + (if zoo (sg (ztp r / 4)) (ztp r) then 0 else 1)))) ∧ zPl (4 * nn) sg lb (d0 / 2) (d0 % 2) r ∧ (0 ≤ r ∧ r < 4 * nn) ∧ M' = M
set_option maxHeartbeats 4000000 in
set_option maxRecDepth 100000 in
theorem c_MM_turn (l : Launch) (D : va_G) (K : Nat → ClassId) (M : zq_M) (o : Nat) (bd : Nat → Nat) (th : Int) (put : Int) (wr : Int) (nn : Int) (cir : Int) (oN : Int) (oC : Int) (lbs : Int) (fcs : Int) (arcs : Int) (mns : Int) (kn : Int) (sg : Int → Int) (lb : Int → Int) (d0 : Int) (h_o : M o = some (.inr (9, [.int (iI th), .int (iI put), .int (iI wr), .ref (bd 0), .ref (bd 1), .int (iI nn), .int (iI cir), .int (iI oN), .int (iI oC), .ref (bd 2), .ref (bd 3), .ref (bd 4), .ref (bd 5), .int (iI lbs), .ref (bd 6), .ref (bd 7), .ref (bd 8), .int (iI fcs), .ref (bd 9), .int (iI arcs), .ref (bd 10), .ref (bd 11), .ref (bd 12), .ref (bd 13), .int (iI mns), .ref (bd 14), .ref (bd 15), .ref (bd 16), .int (iI kn), .ref (bd 17)]))) (hbd : ∀ i j, i < 18 → j < 18 → bd i = bd j → i = j) (h_sg : M (bd 2) = some (cI (K 0) 12 sg)) (h_lb : M (bd 3) = some (cI (K 0) 48 lb)) (hsg : ∀ j, inI (sg j)) (hlb : ∀ j, inI (lb j)) (hnn : 0 ≤ nn ∧ nn ≤ 12) (hd0 : 0 ≤ d0 ∧ d0 ≤ 100000) (hlp : ∀ z, 0 ≤ z → z < 4 * nn → 1 ≤ lb z ∧ lb z ≤ 9999) (hex : ∃ z, 0 ≤ z ∧ z < 4 * nn ∧ lb z = d0 / 2 ∧ (if zoo (sg (z / 4)) z then (1 : Int) else 0) = d0 % 2) : zq_Met l y_MM_turn (.code y_MM_turn b_MM_turn 4 (some .int) :: lw_gd) { frames := 2, cells := 0, slots := 0, locals := 46 } D vwCl (zT K) [.ref o, .int (iI d0)] M (P_MM_turn K M o bd th put wr nn cir oN oC lbs fcs arcs mns kn sg lb d0) 0 0 := by
  refine zq_start (cc := b_MM_turn) (maxL := 4) (ret := (some .int)) (by decide) rfl (Nat.le_of_ble_eq_true rfl) ?_
  intro p e s m below meth co A ls hx hb hr hml hts hown hnm hlocks hA hZ hw hl
  have hts : ∀ w ∈ lw_gd, w.before [.ref o, .int (iI d0)].toArray s = true := fun w h => hts w (List.mem_cons_of_mem _ h)
  have hown : s.vm.findClass R_MM = some m.cls := hown
  have hK := hZ.1
  have hl : lv_has ls 4 [(0, .ref o), (1, .int (iI d0))] := hl
  refine lv_aload_n hx hb d_MM_turn_0 rfl (lv_at hl 0 rfl) ?_
  refine lv_iload_n hx hb d_MM_turn_1 rfl (lv_at hl 1 rfl) ?_
  refine lv_iconst (v := iI 2) hx hb d_MM_turn_2 rfl ?_
  refine zq_idiv hx hb (by omega) ⟨by omega, by omega⟩ (by decide) (by decide) d_MM_turn_3 ?_
  refine lv_iload_n hx hb d_MM_turn_4 rfl (lv_at hl 1 rfl) ?_
  refine lv_iconst (v := iI 2) hx hb d_MM_turn_5 rfl ?_
  refine zq_irem hx hb (by omega) ⟨by omega, by omega⟩ (by decide) (by decide) d_MM_turn_6 ?_
  refine lv_iconst (v := iI 1) hx hb d_MM_turn_7 rfl ?_
  refine zq_icmp_ne (tgt := 15) hx hb d_MM_turn_8 (by decide) ⟨by omega, by omega⟩ (by decide) (fun hc1 => ?_) (fun hc1 => ?_)
  · refine lv_iconst (v := iI 0) hx hb d_MM_turn_15 rfl ?_
    refine zq_callV (As := [.int (iI (d0 / 2)), .int (iI 0)]) (rest := []) ⟨hx, hb, hml, hown, hts⟩ (c_MM_placeOf l D K M o bd th put wr nn cir oN oC lbs fcs arcs mns kn sg lb (d0 / 2) 0 h_o hbd h_sg h_lb hsg hlb hnn ⟨by omega, by omega⟩ (by decide)) (cwV 2 hts (zg_V tw_701 tw_703 ts_30 tw_10 tw_704) rfl rfl rfl (by decide +kernel) ⟨Nat.le_of_ble_eq_true rfl, Nat.le_of_ble_eq_true rfl⟩) hZ hw hA h_o rfl rfl rfl rfl hl.1 (Nat.le_of_ble_eq_true rfl) d_MM_turn_16 ⟨Nat.le_of_ble_eq_true rfl, Nat.le_of_ble_eq_true rfl⟩ (fun v M3 H locs hp hw => ?_)
    obtain ⟨rp2, rfl, hPrp2, hMe⟩ := hp
    rw [hMe] at hw
    refine W.eq (g2 := F0 m 19 ls [.int (iI rp2)]) rfl ?_
    have hPd : zPl (4 * nn) sg lb (d0 / 2) (d0 % 2) rp2 := by rw [show d0 % 2 = 0 from by omega]; exact hPrp2
    have hr0 := zPl_ex hPd hex
    have hr1 := (zPl_lt hPd).2 hr0
    have hlpt := hlp (ztp rp2) (by unfold ztp; omega) (by unfold ztp; omega)
    refine lv_istore_n (lv' := [(2, .int (iI rp2)), (0, .ref o), (1, .int (iI d0))]) hx hb d_MM_turn_19 rfl hl (by decide) rfl (fun ls hl => ?_)
    refine lv_iload_n hx hb d_MM_turn_20 rfl (lv_at hl 0 rfl) ?_
    refine lv_iconst (v := iI 4) hx hb d_MM_turn_21 rfl ?_
    refine zq_idiv hx hb (by omega) ⟨by omega, by omega⟩ (by decide) (by decide) d_MM_turn_22 ?_
    refine lv_iconst (v := iI 4) hx hb d_MM_turn_23 rfl ?_
    refine zq_imul hx hb d_MM_turn_24 ?_
    refine lv_iload_n hx hb d_MM_turn_25 rfl (lv_at hl 0 rfl) ?_
    refine lv_iconst (v := iI 3) hx hb d_MM_turn_26 rfl ?_
    refine zq_iadd hx hb d_MM_turn_27 ?_
    refine lv_iconst (v := iI 4) hx hb d_MM_turn_28 rfl ?_
    refine zq_irem hx hb (by omega) ⟨by omega, by omega⟩ (by decide) (by decide) d_MM_turn_29 ?_
    refine zq_iadd hx hb d_MM_turn_30 ?_
    refine lv_istore_n (lv' := [(3, .int (iI (((rp2 / 4) * 4) + ((rp2 + 3) % 4)))), (2, .int (iI rp2)), (0, .ref o), (1, .int (iI d0))]) hx hb d_MM_turn_31 rfl hl (by decide) rfl (fun ls hl => ?_)
    refine lv_iconst (v := iI 2) hx hb d_MM_turn_32 rfl ?_
    refine lv_aload_n hx hb d_MM_turn_33 rfl (lv_at hl 2 rfl) ?_
    refine zq_get hx hb hts i_MM hown hK hw h_o rfl 10 (by decide) (hts _ tw_596) rfl d_MM_turn_34 ?_
    refine lv_iload_n hx hb d_MM_turn_37 rfl (lv_at hl 0 rfl) ?_
    refine zq_iald hx hb hK hw 0 h_lb rfl (by omega) (by omega) (by decide) d_MM_turn_38 ?_
    refine zq_imul hx hb d_MM_turn_39 ?_
    refine lv_aload_n hx hb d_MM_turn_40 rfl (lv_at hl 2 rfl) ?_
    refine lv_iload_n hx hb d_MM_turn_41 rfl (lv_at hl 0 rfl) ?_
    refine zq_callV (As := [.int (iI (((rp2 / 4) * 4) + ((rp2 + 3) % 4)))]) (rest := [.int (iI (2 * (lb (((rp2 / 4) * 4) + ((rp2 + 3) % 4)))))]) ⟨hx, hb, hml, hown, hts⟩ (c_MM_isOut l D K M o bd th put wr nn cir oN oC lbs fcs arcs mns kn sg (((rp2 / 4) * 4) + ((rp2 + 3) % 4)) h_o hbd h_sg hsg ⟨by omega, by omega⟩) (cwV 1 hts (zg_V tw_705 tw_707 ts_31 tw_10 tw_708) rfl rfl rfl (by decide +kernel) ⟨Nat.le_of_ble_eq_true rfl, Nat.le_of_ble_eq_true rfl⟩) hZ hw hA h_o rfl rfl rfl rfl hl.1 (Nat.le_of_ble_eq_true rfl) d_MM_turn_42 ⟨Nat.le_of_ble_eq_true rfl, Nat.le_of_ble_eq_true rfl⟩ (fun v M4 H locs hp hw => ?_)
    obtain ⟨rfl, hMe⟩ := hp
    rw [hMe] at hw
    refine W.eq (g2 := F0 m 45 ls [.int (iI (if zoo (sg ((((rp2 / 4) * 4) + ((rp2 + 3) % 4)) / 4)) (((rp2 / 4) * 4) + ((rp2 + 3) % 4)) then 1 else 0)), .int (iI (2 * (lb (((rp2 / 4) * 4) + ((rp2 + 3) % 4)))))]) rfl ?_
    refine zq_if_eq (tgt := 52) hx hb d_MM_turn_45 (by decide) (by split <;> decide) (fun hc5 => ?_) (fun hc5 => ?_)
    · have hzo : ¬ (zoo (sg ((rp2 / 4 * 4 + (rp2 + 3) % 4) / 4)) (rp2 / 4 * 4 + (rp2 + 3) % 4)) := fun z => by rw [if_pos z] at hc5; exact absurd hc5 (by decide)
      refine lv_iconst (v := iI 1) hx hb d_MM_turn_52 rfl ?_
      refine zq_iadd hx hb d_MM_turn_53 ?_
      exact zq_iret hx hb hr hlocks hZ hw ⟨rp2, zq_ri (by rw [if_neg hzo]), hPd, ⟨hr0, hr1.1⟩, rfl⟩ d_MM_turn_54
    · have hzo : zoo (sg ((rp2 / 4 * 4 + (rp2 + 3) % 4) / 4)) (rp2 / 4 * 4 + (rp2 + 3) % 4) := Decidable.byContradiction fun z => hc5 (if_neg z)
      refine lv_iconst (v := iI 0) hx hb d_MM_turn_48 rfl ?_
      refine lv_goto (tgt := 53) hx hb d_MM_turn_49 (by decide) ?_
      refine zq_iadd hx hb d_MM_turn_53 ?_
      rw [show (2 * (lb (((rp2 / 4) * 4) + ((rp2 + 3) % 4)))) + 0 = (2 * (lb (((rp2 / 4) * 4) + ((rp2 + 3) % 4))) : Int) from by omega]
      exact zq_iret hx hb hr hlocks hZ hw ⟨rp2, zq_ri (by rw [if_pos hzo]; exact (Int.add_zero _).symm), hPd, ⟨hr0, hr1.1⟩, rfl⟩ d_MM_turn_54
  · refine lv_iconst (v := iI 1) hx hb d_MM_turn_11 rfl ?_
    refine lv_goto (tgt := 16) hx hb d_MM_turn_12 (by decide) ?_
    refine zq_callV (As := [.int (iI (d0 / 2)), .int (iI 1)]) (rest := []) ⟨hx, hb, hml, hown, hts⟩ (c_MM_placeOf l D K M o bd th put wr nn cir oN oC lbs fcs arcs mns kn sg lb (d0 / 2) 1 h_o hbd h_sg h_lb hsg hlb hnn ⟨by omega, by omega⟩ (by decide)) (cwV 2 hts (zg_V tw_701 tw_703 ts_30 tw_10 tw_704) rfl rfl rfl (by decide +kernel) ⟨Nat.le_of_ble_eq_true rfl, Nat.le_of_ble_eq_true rfl⟩) hZ hw hA h_o rfl rfl rfl rfl hl.1 (Nat.le_of_ble_eq_true rfl) d_MM_turn_16 ⟨Nat.le_of_ble_eq_true rfl, Nat.le_of_ble_eq_true rfl⟩ (fun v M7 H locs hp hw => ?_)
    obtain ⟨rp6, rfl, hPrp6, hMe⟩ := hp
    rw [hMe] at hw
    refine W.eq (g2 := F0 m 19 ls [.int (iI rp6)]) rfl ?_
    have hPd : zPl (4 * nn) sg lb (d0 / 2) (d0 % 2) rp6 := by rw [show d0 % 2 = 1 from by omega]; exact hPrp6
    have hr0 := zPl_ex hPd hex
    have hr1 := (zPl_lt hPd).2 hr0
    have hlpt := hlp (ztp rp6) (by unfold ztp; omega) (by unfold ztp; omega)
    refine lv_istore_n (lv' := [(2, .int (iI rp6)), (0, .ref o), (1, .int (iI d0))]) hx hb d_MM_turn_19 rfl hl (by decide) rfl (fun ls hl => ?_)
    refine lv_iload_n hx hb d_MM_turn_20 rfl (lv_at hl 0 rfl) ?_
    refine lv_iconst (v := iI 4) hx hb d_MM_turn_21 rfl ?_
    refine zq_idiv hx hb (by omega) ⟨by omega, by omega⟩ (by decide) (by decide) d_MM_turn_22 ?_
    refine lv_iconst (v := iI 4) hx hb d_MM_turn_23 rfl ?_
    refine zq_imul hx hb d_MM_turn_24 ?_
    refine lv_iload_n hx hb d_MM_turn_25 rfl (lv_at hl 0 rfl) ?_
    refine lv_iconst (v := iI 3) hx hb d_MM_turn_26 rfl ?_
    refine zq_iadd hx hb d_MM_turn_27 ?_
    refine lv_iconst (v := iI 4) hx hb d_MM_turn_28 rfl ?_
    refine zq_irem hx hb (by omega) ⟨by omega, by omega⟩ (by decide) (by decide) d_MM_turn_29 ?_
    refine zq_iadd hx hb d_MM_turn_30 ?_
    refine lv_istore_n (lv' := [(3, .int (iI (((rp6 / 4) * 4) + ((rp6 + 3) % 4)))), (2, .int (iI rp6)), (0, .ref o), (1, .int (iI d0))]) hx hb d_MM_turn_31 rfl hl (by decide) rfl (fun ls hl => ?_)
    refine lv_iconst (v := iI 2) hx hb d_MM_turn_32 rfl ?_
    refine lv_aload_n hx hb d_MM_turn_33 rfl (lv_at hl 2 rfl) ?_
    refine zq_get hx hb hts i_MM hown hK hw h_o rfl 10 (by decide) (hts _ tw_596) rfl d_MM_turn_34 ?_
    refine lv_iload_n hx hb d_MM_turn_37 rfl (lv_at hl 0 rfl) ?_
    refine zq_iald hx hb hK hw 0 h_lb rfl (by omega) (by omega) (by decide) d_MM_turn_38 ?_
    refine zq_imul hx hb d_MM_turn_39 ?_
    refine lv_aload_n hx hb d_MM_turn_40 rfl (lv_at hl 2 rfl) ?_
    refine lv_iload_n hx hb d_MM_turn_41 rfl (lv_at hl 0 rfl) ?_
    refine zq_callV (As := [.int (iI (((rp6 / 4) * 4) + ((rp6 + 3) % 4)))]) (rest := [.int (iI (2 * (lb (((rp6 / 4) * 4) + ((rp6 + 3) % 4)))))]) ⟨hx, hb, hml, hown, hts⟩ (c_MM_isOut l D K M o bd th put wr nn cir oN oC lbs fcs arcs mns kn sg (((rp6 / 4) * 4) + ((rp6 + 3) % 4)) h_o hbd h_sg hsg ⟨by omega, by omega⟩) (cwV 1 hts (zg_V tw_705 tw_707 ts_31 tw_10 tw_708) rfl rfl rfl (by decide +kernel) ⟨Nat.le_of_ble_eq_true rfl, Nat.le_of_ble_eq_true rfl⟩) hZ hw hA h_o rfl rfl rfl rfl hl.1 (Nat.le_of_ble_eq_true rfl) d_MM_turn_42 ⟨Nat.le_of_ble_eq_true rfl, Nat.le_of_ble_eq_true rfl⟩ (fun v M8 H locs hp hw => ?_)
    obtain ⟨rfl, hMe⟩ := hp
    rw [hMe] at hw
    refine W.eq (g2 := F0 m 45 ls [.int (iI (if zoo (sg ((((rp6 / 4) * 4) + ((rp6 + 3) % 4)) / 4)) (((rp6 / 4) * 4) + ((rp6 + 3) % 4)) then 1 else 0)), .int (iI (2 * (lb (((rp6 / 4) * 4) + ((rp6 + 3) % 4)))))]) rfl ?_
    refine zq_if_eq (tgt := 52) hx hb d_MM_turn_45 (by decide) (by split <;> decide) (fun hc9 => ?_) (fun hc9 => ?_)
    · have hzo : ¬ (zoo (sg ((rp6 / 4 * 4 + (rp6 + 3) % 4) / 4)) (rp6 / 4 * 4 + (rp6 + 3) % 4)) := fun z => by rw [if_pos z] at hc9; exact absurd hc9 (by decide)
      refine lv_iconst (v := iI 1) hx hb d_MM_turn_52 rfl ?_
      refine zq_iadd hx hb d_MM_turn_53 ?_
      exact zq_iret hx hb hr hlocks hZ hw ⟨rp6, zq_ri (by rw [if_neg hzo]), hPd, ⟨hr0, hr1.1⟩, rfl⟩ d_MM_turn_54
    · have hzo : zoo (sg ((rp6 / 4 * 4 + (rp6 + 3) % 4) / 4)) (rp6 / 4 * 4 + (rp6 + 3) % 4) := Decidable.byContradiction fun z => hc9 (if_neg z)
      refine lv_iconst (v := iI 0) hx hb d_MM_turn_48 rfl ?_
      refine lv_goto (tgt := 53) hx hb d_MM_turn_49 (by decide) ?_
      refine zq_iadd hx hb d_MM_turn_53 ?_
      rw [show (2 * (lb (((rp6 / 4) * 4) + ((rp6 + 3) % 4)))) + 0 = (2 * (lb (((rp6 / 4) * 4) + ((rp6 + 3) % 4))) : Int) from by omega]
      exact zq_iret hx hb hr hlocks hZ hw ⟨rp6, zq_ri (by rw [if_pos hzo]; exact (Int.add_zero _).symm), hPd, ⟨hr0, hr1.1⟩, rfl⟩ d_MM_turn_54
