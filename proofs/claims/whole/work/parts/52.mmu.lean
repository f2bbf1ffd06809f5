abbrev P_MM_sumUp (K : Nat → ClassId) (M : zq_M) (o : Nat) (bd : Nat → Nat) (th : Int) (put : Int) (wr : Int) (nn : Int) (cir : Int) (oN : Int) (oC : Int) (lbs : Int) (fcs : Int) (arcs : Int) (mns : Int) (kn : Int) (on : Int → Int) (tw : Int → Int) (sm : Int → Int) (wo : Int) : Option Value → zq_M → Prop := fun v M' => v = none ∧ ∃ sm', zSR on tw arcs.toNat wo nn.toNat sm' ∧ M' (bd 13) = some (cJ (K 1) 114688 sm') ∧ ∀ q, q ≠ (bd 13) → M' q = M q
set_option maxHeartbeats 4000000 in
set_option maxRecDepth 100000 in
theorem c_MM_sumUp (l : Launch) (D : va_G) (K : Nat → ClassId) (M : zq_M) (o : Nat) (bd : Nat → Nat) (th : Int) (put : Int) (wr : Int) (nn : Int) (cir : Int) (oN : Int) (oC : Int) (lbs : Int) (fcs : Int) (arcs : Int) (mns : Int) (kn : Int) (on : Int → Int) (tw : Int → Int) (sm : Int → Int) (wo : Int) (h_o : M o = some (.inr (9, [.int (iI th), .int (iI put), .int (iI wr), .ref (bd 0), .ref (bd 1), .int (iI nn), .int (iI cir), .int (iI oN), .int (iI oC), .ref (bd 2), .ref (bd 3), .ref (bd 4), .ref (bd 5), .int (iI lbs), .ref (bd 6), .ref (bd 7), .ref (bd 8), .int (iI fcs), .ref (bd 9), .int (iI arcs), .ref (bd 10), .ref (bd 11), .ref (bd 12), .ref (bd 13), .int (iI mns), .ref (bd 14), .ref (bd 15), .ref (bd 16), .int (iI kn), .ref (bd 17)]))) (hbd : ∀ i j, i < 18 → j < 18 → bd i = bd j → i = j) (h_on : M (bd 11) = some (cI (K 0) 384 on)) (h_tw : M (bd 12) = some (cI (K 0) 384 tw)) (h_sm : M (bd 13) = some (cJ (K 1) 114688 sm)) (hon : ∀ j, 0 ≤ j → j < 384 → inI (on j)) (htw : ∀ j, 0 ≤ j → j < 384 → inI (tw j)) (hnn : 0 ≤ nn ∧ nn ≤ 12) (harcs : 0 ≤ arcs ∧ arcs ≤ 13) (hwo : inI wo) : zq_Met l y_MM_sumUp (.code y_MM_sumUp b_MM_sumUp 6 none :: lw_gd) { frames := 3, cells := 0, slots := 0, locals := 73 } D vwCl (zT K) [.ref o, .int (iI wo)] M (P_MM_sumUp K M o bd th put wr nn cir oN oC lbs fcs arcs mns kn on tw sm wo) 0 0 := by
  refine zq_start (cc := b_MM_sumUp) (maxL := 6) (ret := none) (by decide) rfl (Nat.le_of_ble_eq_true rfl) ?_
  intro p e s m below meth co A ls hx hb hr hml hts hown hnm hlocks hA hZ hw hl
  have hts : ∀ w ∈ lw_gd, w.before [.ref o, .int (iI wo)].toArray s = true := fun w h => hts w (List.mem_cons_of_mem _ h)
  have hown : s.vm.findClass R_MM = some m.cls := hown
  have hK := hZ.1
  have hl : lv_has ls 6 [(0, .ref o), (1, .int (iI wo))] := hl
  have hfr : ∀ q, q ≠ (bd 13) → M q = M q := fun q _ => rfl
  have hpa := zpw arcs.toNat
  have hpb : (2 : Int) ^ arcs.toNat ≤ 8192 := (zsl harcs.1 (by omega)).2.2
  have hL2 : ∀ (n : Nat) (k : Int) (dn : Int) (g : Int → Int) (Mq : zq_M) (H : Heap) (locs : List Loc) (ls : Array Slot), (0 ≤ k ∧ k ≤ nn) → (dn = zdn wo k.toNat) → (zSR on tw arcs.toNat wo k.toNat g) → (nn - k).toNat < n → (∀ q, q ≠ (bd 13) → Mq q = M q) → Mq o = some (.inr (9, [.int (iI th), .int (iI put), .int (iI wr), .ref (bd 0), .ref (bd 1), .int (iI nn), .int (iI cir), .int (iI oN), .int (iI oC), .ref (bd 2), .ref (bd 3), .ref (bd 4), .ref (bd 5), .int (iI lbs), .ref (bd 6), .ref (bd 7), .ref (bd 8), .int (iI fcs), .ref (bd 9), .int (iI arcs), .ref (bd 10), .ref (bd 11), .ref (bd 12), .ref (bd 13), .int (iI mns), .ref (bd 14), .ref (bd 15), .ref (bd 16), .int (iI kn), .ref (bd 17)])) → Mq (bd 11) = some (cI (K 0) 384 on) → Mq (bd 12) = some (cI (K 0) 384 tw) → Mq (bd 13) = some (cJ (K 1) 114688 g) → zq_W D vwCl A s.heap Mq H locs → lv_has ls 6 [(0, .ref o), (1, .int (iI wo)), (2, .int (iI dn)), (3, .int (iI k))] → W p l e ({ frames := 3, cells := 0, slots := 0, locals := 73 } : Room) s m [.ref o, .int (iI wo)].toArray below meth co H locs 0 0 (MQ below (zq_Q D vwCl (zT K) (P_MM_sumUp K M o bd th put wr nn cir oN oC lbs fcs arcs mns kn on tw sm wo) A) [.ref o, .int (iI wo)].toArray s 0 0 A) (F0 m 37 ls []) := by
    intro n
    induction n with
    | zero =>
      intro k dn g Mq H locs ls hk hdn hSR hms hfr h_o h_on h_tw h_sm hw hl
      exact absurd hms (Nat.not_lt_zero _)
    | succ n ih_hL2 =>
      intro k dn g Mq H locs ls hk hdn hSR hms hfr h_o h_on h_tw h_sm hw hl
      refine lv_iload_n hx hb d_MM_sumUp_37 rfl (lv_at hl 3 rfl) ?_
      refine lv_aload_n hx hb d_MM_sumUp_38 rfl (lv_at hl 0 rfl) ?_
      refine zq_get hx hb hts i_MM hown hK hw h_o rfl 5 (by decide) (hts _ tw_591) rfl d_MM_sumUp_39 ?_
      refine zq_icmp_ge (tgt := 155) hx hb d_MM_sumUp_42 (by decide) ⟨by omega, by omega⟩ ⟨by omega, by omega⟩ (fun hc1 => ?_) (fun hc1 => ?_)
      · exact zq_vret hx hb hr hlocks hZ hw ⟨rfl, g, (by rw [show nn = k by omega]; exact hSR), h_sm, hfr⟩ d_MM_sumUp_155
      · refine lv_iload_n hx hb d_MM_sumUp_45 rfl (lv_at hl 3 rfl) ?_
        refine lv_iload_n hx hb d_MM_sumUp_46 rfl (lv_at hl 1 rfl) ?_
        refine zq_icmp_eq (tgt := 149) hx hb d_MM_sumUp_47 (by decide) ⟨by omega, by omega⟩ hwo (fun hc2 => ?_) (fun hc2 => ?_)
        · refine lv_iinc (v := iI (k + 1)) (lv' := [(3, .int (iI (k + 1))), (0, .ref o), (1, .int (iI wo)), (2, .int (iI dn))]) hx hb d_MM_sumUp_149 hl (k := 3) rfl (iI_add _ _) (by decide) rfl (fun ls hl => ?_)
          refine lv_goto (tgt := 37) hx hb d_MM_sumUp_152 (by decide) ?_
          exact ih_hL2 (k + 1) dn g Mq _ _ _ (by omega) (by rw [hdn, (ztn hk.1).1]; exact (if_pos (by omega)).symm) (by rw [(ztn hk.1).1]; exact zSR_wo hSR (by omega)) (by omega) hfr h_o h_on h_tw h_sm hw (lv_sub hl [1, 2, 3, 0] rfl)
        · have hL3 : ∀ (n : Nat) (se : Int) (g : Int → Int) (Mq : zq_M) (H : Heap) (locs : List Loc) (ls : Array Slot), (0 ≤ se ∧ se ≤ 2 ^ arcs.toNat) → (zSU on tw arcs.toNat wo k.toNat se 0 g) → (2 ^ arcs.toNat - se).toNat < n → (∀ q, q ≠ (bd 13) → Mq q = M q) → Mq o = some (.inr (9, [.int (iI th), .int (iI put), .int (iI wr), .ref (bd 0), .ref (bd 1), .int (iI nn), .int (iI cir), .int (iI oN), .int (iI oC), .ref (bd 2), .ref (bd 3), .ref (bd 4), .ref (bd 5), .int (iI lbs), .ref (bd 6), .ref (bd 7), .ref (bd 8), .int (iI fcs), .ref (bd 9), .int (iI arcs), .ref (bd 10), .ref (bd 11), .ref (bd 12), .ref (bd 13), .int (iI mns), .ref (bd 14), .ref (bd 15), .ref (bd 16), .int (iI kn), .ref (bd 17)])) → Mq (bd 11) = some (cI (K 0) 384 on) → Mq (bd 12) = some (cI (K 0) 384 tw) → Mq (bd 13) = some (cJ (K 1) 114688 g) → zq_W D vwCl A s.heap Mq H locs → lv_has ls 6 [(0, .ref o), (1, .int (iI wo)), (2, .int (iI dn)), (3, .int (iI k)), (4, .int (iI se))] → W p l e ({ frames := 3, cells := 0, slots := 0, locals := 73 } : Room) s m [.ref o, .int (iI wo)].toArray below meth co H locs 0 0 (MQ below (zq_Q D vwCl (zT K) (P_MM_sumUp K M o bd th put wr nn cir oN oC lbs fcs arcs mns kn on tw sm wo) A) [.ref o, .int (iI wo)].toArray s 0 0 A) (F0 m 53 ls []) := by
            intro n
            induction n with
            | zero =>
              intro se g Mq H locs ls hse hSU hms hfr h_o h_on h_tw h_sm hw hl
              exact absurd hms (Nat.not_lt_zero _)
            | succ n ih_hL3 =>
              intro se g Mq H locs ls hse hSU hms hfr h_o h_on h_tw h_sm hw hl
              refine lv_iload hx hb d_MM_sumUp_53 (lv_at hl 4 rfl) ?_
              refine lv_iconst (v := iI 1) hx hb d_MM_sumUp_55 rfl ?_
              refine lv_aload_n hx hb d_MM_sumUp_56 rfl (lv_at hl 0 rfl) ?_
              refine zq_get hx hb hts i_MM hown hK hw h_o rfl 19 (by decide) (hts _ tw_605) rfl d_MM_sumUp_57 ?_
              refine zq_ishl1 hx hb (by omega) (by omega) d_MM_sumUp_60 ?_
              refine zq_icmp_ge (tgt := 146) hx hb d_MM_sumUp_61 (by decide) ⟨by omega, by omega⟩ ⟨by omega, by omega⟩ (fun hc3 => ?_) (fun hc3 => ?_)
              · refine lv_iinc (v := iI (dn + 1)) (lv' := [(2, .int (iI (dn + 1))), (0, .ref o), (1, .int (iI wo)), (3, .int (iI k)), (4, .int (iI se))]) hx hb d_MM_sumUp_146 hl (k := 2) rfl (iI_add _ _) (by decide) rfl (fun ls hl => ?_)
                refine lv_iinc (v := iI (k + 1)) (lv' := [(3, .int (iI (k + 1))), (2, .int (iI (dn + 1))), (0, .ref o), (1, .int (iI wo)), (4, .int (iI se))]) hx hb d_MM_sumUp_149 hl (k := 3) rfl (iI_add _ _) (by decide) rfl (fun ls hl => ?_)
                refine lv_goto (tgt := 37) hx hb d_MM_sumUp_152 (by decide) ?_
                exact ih_hL2 (k + 1) (dn + 1) g Mq _ _ _ (by omega) (by rw [hdn, (ztn hk.1).1]; exact (if_neg (by omega)).symm) (by rw [(ztn hk.1).1]; exact zSU_end hSU (by omega) (by omega)) (by omega) hfr h_o h_on h_tw h_sm hw (lv_sub hl [2, 3, 1, 0] rfl)
              · have hL4 : ∀ (n : Nat) (a : Int) (g : Int → Int) (Mq : zq_M) (H : Heap) (locs : List Loc) (ls : Array Slot), (0 ≤ a ∧ a ≤ arcs) → (zSU on tw arcs.toNat wo k.toNat se a g) → (arcs - a).toNat < n → (∀ q, q ≠ (bd 13) → Mq q = M q) → Mq o = some (.inr (9, [.int (iI th), .int (iI put), .int (iI wr), .ref (bd 0), .ref (bd 1), .int (iI nn), .int (iI cir), .int (iI oN), .int (iI oC), .ref (bd 2), .ref (bd 3), .ref (bd 4), .ref (bd 5), .int (iI lbs), .ref (bd 6), .ref (bd 7), .ref (bd 8), .int (iI fcs), .ref (bd 9), .int (iI arcs), .ref (bd 10), .ref (bd 11), .ref (bd 12), .ref (bd 13), .int (iI mns), .ref (bd 14), .ref (bd 15), .ref (bd 16), .int (iI kn), .ref (bd 17)])) → Mq (bd 11) = some (cI (K 0) 384 on) → Mq (bd 12) = some (cI (K 0) 384 tw) → Mq (bd 13) = some (cJ (K 1) 114688 g) → zq_W D vwCl A s.heap Mq H locs → lv_has ls 6 [(0, .ref o), (1, .int (iI wo)), (2, .int (iI dn)), (3, .int (iI k)), (4, .int (iI se)), (5, .int (iI a))] → W p l e ({ frames := 3, cells := 0, slots := 0, locals := 73 } : Room) s m [.ref o, .int (iI wo)].toArray below meth co H locs 0 0 (MQ below (zq_Q D vwCl (zT K) (P_MM_sumUp K M o bd th put wr nn cir oN oC lbs fcs arcs mns kn on tw sm wo) A) [.ref o, .int (iI wo)].toArray s 0 0 A) (F0 m 67 ls []) := by
                  intro n
                  induction n with
                  | zero =>
                    intro a g Mq H locs ls ha hSU hms hfr h_o h_on h_tw h_sm hw hl
                    exact absurd hms (Nat.not_lt_zero _)
                  | succ n ih_hL4 =>
                    intro a g Mq H locs ls ha hSU hms hfr h_o h_on h_tw h_sm hw hl
                    refine lv_iload hx hb d_MM_sumUp_67 (lv_at hl 5 rfl) ?_
                    refine lv_aload_n hx hb d_MM_sumUp_69 rfl (lv_at hl 0 rfl) ?_
                    refine zq_get hx hb hts i_MM hown hK hw h_o rfl 19 (by decide) (hts _ tw_605) rfl d_MM_sumUp_70 ?_
                    refine zq_icmp_ge (tgt := 140) hx hb d_MM_sumUp_73 (by decide) ⟨by omega, by omega⟩ ⟨by omega, by omega⟩ (fun hc4 => ?_) (fun hc4 => ?_)
                    · skip
                      refine lv_iinc (v := iI (se + 1)) (lv' := [(4, .int (iI (se + 1))), (0, .ref o), (1, .int (iI wo)), (2, .int (iI dn)), (3, .int (iI k)), (5, .int (iI a))]) hx hb d_MM_sumUp_140 hl (k := 4) rfl (iI_add _ _) (by decide) rfl (fun ls hl => ?_)
                      refine lv_goto (tgt := 53) hx hb d_MM_sumUp_143 (by decide) ?_
                      exact ih_hL3 (se + 1) g Mq _ _ _ (by omega) (zSU_next hSU (by omega) (Or.inl (by omega))) (by omega) hfr h_o h_on h_tw h_sm hw (lv_sub hl [1, 2, 3, 4, 0] rfl)
                    · refine lv_iload hx hb d_MM_sumUp_76 (lv_at hl 4 rfl) ?_
                      refine zq_callS (b := 0) (C := "") (As := [.int (iI se)]) (rest := []) ⟨hx, hb, hml, hown, hts⟩ (c_MM_bits l D K Mq    se  ⟨⟨by omega, by omega⟩, by omega⟩) (va_cwS 1 hts (zg_T tw_779 tw_780 tw_10 tw_781) rfl rfl rfl (by decide +kernel) ⟨Nat.le_of_ble_eq_true rfl, Nat.le_of_ble_eq_true rfl⟩) hZ hw hA rfl rfl hl.1 (Nat.le_of_ble_eq_true rfl) d_MM_sumUp_78 ⟨Nat.le_of_ble_eq_true rfl, Nat.le_of_ble_eq_true rfl⟩ (fun v M5 H locs hp hw => ?_)
                      obtain ⟨rfl, hMe⟩ := hp
                      rw [hMe] at hw
                      refine W.eq (g2 := F0 m 81 ls [.int (iI (zbc se 13))]) rfl ?_
                      refine lv_iload_n hx hb d_MM_sumUp_81 rfl (lv_at hl 2 rfl) ?_
                      refine zq_icmp_ne (tgt := 140) hx hb d_MM_sumUp_82 (by decide) (by have := zbc_bd se 13; exact ⟨by omega, by omega⟩) (by have := zdn_bd wo k.toNat; exact ⟨by omega, by omega⟩) (fun hc6 => ?_) (fun hc6 => ?_)
                      · skip
                        refine lv_iinc (v := iI (se + 1)) (lv' := [(4, .int (iI (se + 1))), (0, .ref o), (1, .int (iI wo)), (2, .int (iI dn)), (3, .int (iI k)), (5, .int (iI a))]) hx hb d_MM_sumUp_140 hl (k := 4) rfl (iI_add _ _) (by decide) rfl (fun ls hl => ?_)
                        refine lv_goto (tgt := 53) hx hb d_MM_sumUp_143 (by decide) ?_
                        exact ih_hL3 (se + 1) g Mq _ _ _ (by omega) (zSU_next hSU (by omega) (Or.inr (by omega))) (by omega) hfr h_o h_on h_tw h_sm hw (lv_sub hl [1, 2, 3, 4, 0] rfl)
                      · refine lv_iload hx hb d_MM_sumUp_85 (lv_at hl 4 rfl) ?_
                        refine lv_iload hx hb d_MM_sumUp_87 (lv_at hl 5 rfl) ?_
                        refine zq_ishr hx hb ⟨by omega, by omega⟩ (by omega) (by omega) (by omega) d_MM_sumUp_89 ?_
                        refine lv_iconst (v := iI 1) hx hb d_MM_sumUp_90 rfl ?_
                        refine zq_iand1 hx hb (by have := zdp hse.1 a.toNat; exact ⟨by omega, by omega⟩) (zdp hse.1 a.toNat).1 d_MM_sumUp_91 ?_
                        refine zq_if_ne (tgt := 134) hx hb d_MM_sumUp_92 (by decide) ⟨by omega, by omega⟩ (fun hc7 => ?_) (fun hc7 => ?_)
                        · have hSn : zSU on tw arcs.toNat wo k.toNat se (a + 1) g := zSU_skip hSU ha.1 (Or.inl (by omega))
                          refine lv_iinc (v := iI (a + 1)) (lv' := [(5, .int (iI (a + 1))), (0, .ref o), (1, .int (iI wo)), (2, .int (iI dn)), (3, .int (iI k)), (4, .int (iI se))]) hx hb d_MM_sumUp_134 hl (k := 5) rfl (iI_add _ _) (by decide) rfl (fun ls hl => ?_)
                          refine lv_goto (tgt := 67) hx hb d_MM_sumUp_137 (by decide) ?_
                          exact ih_hL4 (a + 1) g Mq _ _ _ (by omega) hSn (by omega) hfr h_o h_on h_tw h_sm hw (lv_sub hl [1, 2, 3, 4, 5, 0] rfl)
                        · refine lv_aload_n hx hb d_MM_sumUp_95 rfl (lv_at hl 0 rfl) ?_
                          refine zq_get hx hb hts i_MM hown hK hw h_o rfl 21 (by decide) (hts _ tw_607) rfl d_MM_sumUp_96 ?_
                          refine lv_bipush (v := iI 32) hx hb d_MM_sumUp_99 (by decide) ?_
                          refine lv_iload_n hx hb d_MM_sumUp_101 rfl (lv_at hl 3 rfl) ?_
                          refine zq_imul hx hb d_MM_sumUp_102 ?_
                          refine lv_iload hx hb d_MM_sumUp_103 (lv_at hl 5 rfl) ?_
                          refine zq_iadd hx hb d_MM_sumUp_105 ?_
                          refine zq_iald hx hb hK hw 0 h_on rfl (by omega) (by omega) (by decide) d_MM_sumUp_106 ?_
                          refine zq_if_ne (tgt := 125) hx hb d_MM_sumUp_107 (by decide) (hon _ (by omega) (by omega)) (fun hc8 => ?_) (fun hc8 => ?_)
                          · refine lv_aload_n hx hb d_MM_sumUp_125 rfl (lv_at hl 0 rfl) ?_
                            refine lv_iload_n hx hb d_MM_sumUp_126 rfl (lv_at hl 3 rfl) ?_
                            refine lv_iload hx hb d_MM_sumUp_127 (lv_at hl 4 rfl) ?_
                            refine lv_iload hx hb d_MM_sumUp_129 (lv_at hl 5 rfl) ?_
                            refine zq_callV (As := [.int (iI k), .int (iI se), .int (iI a)]) (rest := []) ⟨hx, hb, hml, hown, hts⟩ (c_MM_carry l D K Mq o bd th put wr nn cir oN oC lbs fcs arcs mns kn on tw g  k se a h_o hbd h_on h_tw h_sm hon htw ⟨by omega, by omega⟩ ⟨by omega, by omega⟩ ⟨by omega, by omega⟩ (by omega) (by have := zlt_add hse.1 (show se < 2 ^ arcs.toNat by omega) (show se / 2 ^ a.toNat % 2 = 0 by omega) (by omega); omega)) (cwV 3 hts (zg_V tw_782 tw_784 ts_47 tw_10 tw_785) rfl rfl rfl (by decide +kernel) ⟨Nat.le_of_ble_eq_true rfl, Nat.le_of_ble_eq_true rfl⟩) hZ hw hA h_o rfl rfl rfl rfl hl.1 (Nat.le_of_ble_eq_true rfl) d_MM_sumUp_131 ⟨Nat.le_of_ble_eq_true rfl, Nat.le_of_ble_eq_true rfl⟩ (fun v M9 H locs hp hw => ?_)
                            obtain ⟨rfl, hs1, ho⟩ := hp
                            have h_o : M9 o = some (.inr (9, [.int (iI th), .int (iI put), .int (iI wr), .ref (bd 0), .ref (bd 1), .int (iI nn), .int (iI cir), .int (iI oN), .int (iI oC), .ref (bd 2), .ref (bd 3), .ref (bd 4), .ref (bd 5), .int (iI lbs), .ref (bd 6), .ref (bd 7), .ref (bd 8), .int (iI fcs), .ref (bd 9), .int (iI arcs), .ref (bd 10), .ref (bd 11), .ref (bd 12), .ref (bd 13), .int (iI mns), .ref (bd 14), .ref (bd 15), .ref (bd 16), .int (iI kn), .ref (bd 17)])) := (ho _ (zq_ne h_o h_sm (by simp))).trans h_o
                            have h_on : M9 (bd 11) = some (cI (K 0) 384 on) := (ho _ (zbd hbd 11 13)).trans h_on
                            have h_tw : M9 (bd 12) = some (cI (K 0) 384 tw) := (ho _ (zbd hbd 12 13)).trans h_tw
                            have h_sm : M9 (bd 13) = some (cJ (K 1) 114688 (zcar g (se + 2 ^ a.toNat) se (zsn se a.toNat * on (32 * k + a)) (zsn se a.toNat * tw (32 * k + a)) 14)) := hs1
                            have hfr : ∀ q, q ≠ (bd 13) → M9 q = M q := fun q g0 => (ho q g0).trans (hfr q g0)
                            have hSn : zSU on tw arcs.toNat wo k.toNat se (a + 1) (zcar g (se + 2 ^ a.toNat) se (zsn se a.toNat * on (32 * k + a)) (zsn se a.toNat * tw (32 * k + a)) 14) := by have h9 := zSU_carry hSU ⟨by omega, by omega⟩ ⟨by omega, by omega⟩ (by omega) (by omega) (by omega); rw [(show ((k.toNat : Nat) : Int) = k by omega)] at h9; exact h9
                            refine W.eq (g2 := F0 m 134 ls []) rfl ?_
                            refine lv_iinc (v := iI (a + 1)) (lv' := [(5, .int (iI (a + 1))), (0, .ref o), (1, .int (iI wo)), (2, .int (iI dn)), (3, .int (iI k)), (4, .int (iI se))]) hx hb d_MM_sumUp_134 hl (k := 5) rfl (iI_add _ _) (by decide) rfl (fun ls hl => ?_)
                            refine lv_goto (tgt := 67) hx hb d_MM_sumUp_137 (by decide) ?_
                            exact ih_hL4 (a + 1) (zcar g (se + 2 ^ a.toNat) se (zsn se a.toNat * on (32 * k + a)) (zsn se a.toNat * tw (32 * k + a)) 14) M9 _ _ _ (by omega) hSn (by omega) hfr h_o h_on h_tw h_sm hw (lv_sub hl [1, 2, 3, 4, 5, 0] rfl)
                          · refine lv_aload_n hx hb d_MM_sumUp_110 rfl (lv_at hl 0 rfl) ?_
                            refine zq_get hx hb hts i_MM hown hK hw h_o rfl 22 (by decide) (hts _ tw_608) rfl d_MM_sumUp_111 ?_
                            refine lv_bipush (v := iI 32) hx hb d_MM_sumUp_114 (by decide) ?_
                            refine lv_iload_n hx hb d_MM_sumUp_116 rfl (lv_at hl 3 rfl) ?_
                            refine zq_imul hx hb d_MM_sumUp_117 ?_
                            refine lv_iload hx hb d_MM_sumUp_118 (lv_at hl 5 rfl) ?_
                            refine zq_iadd hx hb d_MM_sumUp_120 ?_
                            refine zq_iald hx hb hK hw 0 h_tw rfl (by omega) (by omega) (by decide) d_MM_sumUp_121 ?_
                            refine zq_if_eq (tgt := 134) hx hb d_MM_sumUp_122 (by decide) (htw _ (by omega) (by omega)) (fun hc10 => ?_) (fun hc10 => ?_)
                            · have hSn : zSU on tw arcs.toNat wo k.toNat se (a + 1) g := zSU_skip hSU ha.1 (Or.inr (by rw [(show ((k.toNat : Nat) : Int) = k by omega)]; exact ⟨by assumption, by assumption⟩))
                              refine lv_iinc (v := iI (a + 1)) (lv' := [(5, .int (iI (a + 1))), (0, .ref o), (1, .int (iI wo)), (2, .int (iI dn)), (3, .int (iI k)), (4, .int (iI se))]) hx hb d_MM_sumUp_134 hl (k := 5) rfl (iI_add _ _) (by decide) rfl (fun ls hl => ?_)
                              refine lv_goto (tgt := 67) hx hb d_MM_sumUp_137 (by decide) ?_
                              exact ih_hL4 (a + 1) g Mq _ _ _ (by omega) hSn (by omega) hfr h_o h_on h_tw h_sm hw (lv_sub hl [1, 2, 3, 4, 5, 0] rfl)
                            · refine lv_aload_n hx hb d_MM_sumUp_125 rfl (lv_at hl 0 rfl) ?_
                              refine lv_iload_n hx hb d_MM_sumUp_126 rfl (lv_at hl 3 rfl) ?_
                              refine lv_iload hx hb d_MM_sumUp_127 (lv_at hl 4 rfl) ?_
                              refine lv_iload hx hb d_MM_sumUp_129 (lv_at hl 5 rfl) ?_
                              refine zq_callV (As := [.int (iI k), .int (iI se), .int (iI a)]) (rest := []) ⟨hx, hb, hml, hown, hts⟩ (c_MM_carry l D K Mq o bd th put wr nn cir oN oC lbs fcs arcs mns kn on tw g  k se a h_o hbd h_on h_tw h_sm hon htw ⟨by omega, by omega⟩ ⟨by omega, by omega⟩ ⟨by omega, by omega⟩ (by omega) (by have := zlt_add hse.1 (show se < 2 ^ arcs.toNat by omega) (show se / 2 ^ a.toNat % 2 = 0 by omega) (by omega); omega)) (cwV 3 hts (zg_V tw_782 tw_784 ts_47 tw_10 tw_785) rfl rfl rfl (by decide +kernel) ⟨Nat.le_of_ble_eq_true rfl, Nat.le_of_ble_eq_true rfl⟩) hZ hw hA h_o rfl rfl rfl rfl hl.1 (Nat.le_of_ble_eq_true rfl) d_MM_sumUp_131 ⟨Nat.le_of_ble_eq_true rfl, Nat.le_of_ble_eq_true rfl⟩ (fun v M11 H locs hp hw => ?_)
                              obtain ⟨rfl, hs1, ho⟩ := hp
                              have h_o : M11 o = some (.inr (9, [.int (iI th), .int (iI put), .int (iI wr), .ref (bd 0), .ref (bd 1), .int (iI nn), .int (iI cir), .int (iI oN), .int (iI oC), .ref (bd 2), .ref (bd 3), .ref (bd 4), .ref (bd 5), .int (iI lbs), .ref (bd 6), .ref (bd 7), .ref (bd 8), .int (iI fcs), .ref (bd 9), .int (iI arcs), .ref (bd 10), .ref (bd 11), .ref (bd 12), .ref (bd 13), .int (iI mns), .ref (bd 14), .ref (bd 15), .ref (bd 16), .int (iI kn), .ref (bd 17)])) := (ho _ (zq_ne h_o h_sm (by simp))).trans h_o
                              have h_on : M11 (bd 11) = some (cI (K 0) 384 on) := (ho _ (zbd hbd 11 13)).trans h_on
                              have h_tw : M11 (bd 12) = some (cI (K 0) 384 tw) := (ho _ (zbd hbd 12 13)).trans h_tw
                              have h_sm : M11 (bd 13) = some (cJ (K 1) 114688 (zcar g (se + 2 ^ a.toNat) se (zsn se a.toNat * on (32 * k + a)) (zsn se a.toNat * tw (32 * k + a)) 14)) := hs1
                              have hfr : ∀ q, q ≠ (bd 13) → M11 q = M q := fun q g0 => (ho q g0).trans (hfr q g0)
                              have hSn : zSU on tw arcs.toNat wo k.toNat se (a + 1) (zcar g (se + 2 ^ a.toNat) se (zsn se a.toNat * on (32 * k + a)) (zsn se a.toNat * tw (32 * k + a)) 14) := by have h9 := zSU_carry hSU ⟨by omega, by omega⟩ ⟨by omega, by omega⟩ (by omega) (by omega) (by omega); rw [(show ((k.toNat : Nat) : Int) = k by omega)] at h9; exact h9
                              refine W.eq (g2 := F0 m 134 ls []) rfl ?_
                              refine lv_iinc (v := iI (a + 1)) (lv' := [(5, .int (iI (a + 1))), (0, .ref o), (1, .int (iI wo)), (2, .int (iI dn)), (3, .int (iI k)), (4, .int (iI se))]) hx hb d_MM_sumUp_134 hl (k := 5) rfl (iI_add _ _) (by decide) rfl (fun ls hl => ?_)
                              refine lv_goto (tgt := 67) hx hb d_MM_sumUp_137 (by decide) ?_
                              exact ih_hL4 (a + 1) (zcar g (se + 2 ^ a.toNat) se (zsn se a.toNat * on (32 * k + a)) (zsn se a.toNat * tw (32 * k + a)) 14) M11 _ _ _ (by omega) hSn (by omega) hfr h_o h_on h_tw h_sm hw (lv_sub hl [1, 2, 3, 4, 5, 0] rfl)
                refine lv_iconst (v := iI 0) hx hb d_MM_sumUp_64 rfl ?_
                refine lv_istore (lv' := [(5, .int (iI 0)), (0, .ref o), (1, .int (iI wo)), (2, .int (iI dn)), (3, .int (iI k)), (4, .int (iI se))]) hx hb d_MM_sumUp_65 hl (by decide) rfl (fun ls hl => ?_)
                exact hL4 _ 0 g Mq _ _ _ ⟨by omega, by omega⟩ hSU (Nat.lt_succ_self _) hfr h_o h_on h_tw h_sm hw (lv_sub hl [1, 2, 3, 4, 5, 0] rfl)
          refine lv_iconst (v := iI 0) hx hb d_MM_sumUp_50 rfl ?_
          refine lv_istore (lv' := [(4, .int (iI 0)), (0, .ref o), (1, .int (iI wo)), (2, .int (iI dn)), (3, .int (iI k))]) hx hb d_MM_sumUp_51 hl (by decide) rfl (fun ls hl => ?_)
          exact hL3 _ 0 g Mq _ _ _ ⟨by omega, by omega⟩ (zSU_0 hSR) (Nat.lt_succ_self _) hfr h_o h_on h_tw h_sm hw (lv_sub hl [1, 2, 3, 4, 0] rfl)
  have hL1 : ∀ (n : Nat) (i : Int) (g : Int → Int) (Mq : zq_M) (H : Heap) (locs : List Loc) (ls : Array Slot), (0 ≤ i ∧ i ≤ 14 * 2 ^ arcs.toNat) → (∀ z, g z = if 0 ≤ z ∧ z < i then 0 else sm z) → (14 * 2 ^ arcs.toNat - i).toNat < n → (∀ q, q ≠ (bd 13) → Mq q = M q) → Mq o = some (.inr (9, [.int (iI th), .int (iI put), .int (iI wr), .ref (bd 0), .ref (bd 1), .int (iI nn), .int (iI cir), .int (iI oN), .int (iI oC), .ref (bd 2), .ref (bd 3), .ref (bd 4), .ref (bd 5), .int (iI lbs), .ref (bd 6), .ref (bd 7), .ref (bd 8), .int (iI fcs), .ref (bd 9), .int (iI arcs), .ref (bd 10), .ref (bd 11), .ref (bd 12), .ref (bd 13), .int (iI mns), .ref (bd 14), .ref (bd 15), .ref (bd 16), .int (iI kn), .ref (bd 17)])) → Mq (bd 11) = some (cI (K 0) 384 on) → Mq (bd 12) = some (cI (K 0) 384 tw) → Mq (bd 13) = some (cJ (K 1) 114688 g) → zq_W D vwCl A s.heap Mq H locs → lv_has ls 6 [(0, .ref o), (1, .int (iI wo)), (2, .int (iI i))] → W p l e ({ frames := 3, cells := 0, slots := 0, locals := 73 } : Room) s m [.ref o, .int (iI wo)].toArray below meth co H locs 0 0 (MQ below (zq_Q D vwCl (zT K) (P_MM_sumUp K M o bd th put wr nn cir oN oC lbs fcs arcs mns kn on tw sm wo) A) [.ref o, .int (iI wo)].toArray s 0 0 A) (F0 m 2 ls []) := by
    intro n
    induction n with
    | zero =>
      intro i g Mq H locs ls hi hg hms hfr h_o h_on h_tw h_sm hw hl
      exact absurd hms (Nat.not_lt_zero _)
    | succ n ih_hL1 =>
      intro i g Mq H locs ls hi hg hms hfr h_o h_on h_tw h_sm hw hl
      refine lv_iload_n hx hb d_MM_sumUp_2 rfl (lv_at hl 2 rfl) ?_
      refine lv_bipush (v := iI 14) hx hb d_MM_sumUp_3 (by decide) ?_
      refine lv_aload_n hx hb d_MM_sumUp_5 rfl (lv_at hl 0 rfl) ?_
      refine zq_get hx hb hts i_MM hown hK hw h_o rfl 19 (by decide) (hts _ tw_605) rfl d_MM_sumUp_6 ?_
      refine zq_ishl14 hx hb (by omega) (by omega) d_MM_sumUp_9 ?_
      refine zq_icmp_ge (tgt := 26) hx hb d_MM_sumUp_10 (by decide) ⟨by omega, by omega⟩ ⟨by omega, by omega⟩ (fun hc12 => ?_) (fun hc12 => ?_)
      · refine lv_aload_n hx hb d_MM_sumUp_26 rfl (lv_at hl 0 rfl) ?_
        refine zq_get hx hb hts i_MM hown hK hw h_o rfl 23 (by decide) (hts _ tw_609) rfl d_MM_sumUp_27 ?_
        refine lv_iconst (v := iI 0) hx hb d_MM_sumUp_30 rfl ?_
        refine lv_lconst (v := iL 1) hx hb d_MM_sumUp_31 (by decide) ?_
        refine zq_last hx hb hK hw 1 h_sm rfl (by omega) (by omega) (by decide) d_MM_sumUp_32 (fun M13 H locs hs ho hw => ?_)
        have h_o : M13 o = some (.inr (9, [.int (iI th), .int (iI put), .int (iI wr), .ref (bd 0), .ref (bd 1), .int (iI nn), .int (iI cir), .int (iI oN), .int (iI oC), .ref (bd 2), .ref (bd 3), .ref (bd 4), .ref (bd 5), .int (iI lbs), .ref (bd 6), .ref (bd 7), .ref (bd 8), .int (iI fcs), .ref (bd 9), .int (iI arcs), .ref (bd 10), .ref (bd 11), .ref (bd 12), .ref (bd 13), .int (iI mns), .ref (bd 14), .ref (bd 15), .ref (bd 16), .int (iI kn), .ref (bd 17)])) := (ho _ (zq_ne h_o h_sm (by simp))).trans h_o
        have h_on : M13 (bd 11) = some (cI (K 0) 384 on) := (ho _ (zbd hbd 11 13)).trans h_on
        have h_tw : M13 (bd 12) = some (cI (K 0) 384 tw) := (ho _ (zbd hbd 12 13)).trans h_tw
        have h_sm : M13 (bd 13) = some (cJ (K 1) 114688 (zu g 0 1)) := hs
        have hfr : ∀ q, q ≠ (bd 13) → M13 q = M q := fun q g0 => (ho q g0).trans (hfr q g0)
        refine lv_iconst (v := iI 0) hx hb d_MM_sumUp_33 rfl ?_
        refine lv_istore_n (lv' := [(2, .int (iI 0)), (0, .ref o), (1, .int (iI wo))]) hx hb d_MM_sumUp_34 rfl hl (by decide) rfl (fun ls hl => ?_)
        refine lv_iconst (v := iI 0) hx hb d_MM_sumUp_35 rfl ?_
        refine lv_istore_n (lv' := [(3, .int (iI 0)), (2, .int (iI 0)), (0, .ref o), (1, .int (iI wo))]) hx hb d_MM_sumUp_36 rfl hl (by decide) rfl (fun ls hl => ?_)
        exact hL2 _ 0 0 (zu g 0 1) M13 _ _ _ ⟨by omega, by omega⟩ rfl (zSR_0 (fun z h1 h2 => by by_cases q : z = 0; rw [q, zu_self, if_pos rfl]; rw [zu_ne _ _ q, hg, if_pos ⟨h1, by omega⟩, if_neg q])) (Nat.lt_succ_self _) hfr h_o h_on h_tw h_sm hw (lv_sub hl [2, 3, 1, 0] rfl)
      · refine lv_aload_n hx hb d_MM_sumUp_13 rfl (lv_at hl 0 rfl) ?_
        refine zq_get hx hb hts i_MM hown hK hw h_o rfl 23 (by decide) (hts _ tw_609) rfl d_MM_sumUp_14 ?_
        refine lv_iload_n hx hb d_MM_sumUp_17 rfl (lv_at hl 2 rfl) ?_
        refine lv_lconst (v := iL 0) hx hb d_MM_sumUp_18 (by decide) ?_
        refine zq_last hx hb hK hw 1 h_sm rfl (by omega) (by omega) (by decide) d_MM_sumUp_19 (fun M14 H locs hs ho hw => ?_)
        have h_o : M14 o = some (.inr (9, [.int (iI th), .int (iI put), .int (iI wr), .ref (bd 0), .ref (bd 1), .int (iI nn), .int (iI cir), .int (iI oN), .int (iI oC), .ref (bd 2), .ref (bd 3), .ref (bd 4), .ref (bd 5), .int (iI lbs), .ref (bd 6), .ref (bd 7), .ref (bd 8), .int (iI fcs), .ref (bd 9), .int (iI arcs), .ref (bd 10), .ref (bd 11), .ref (bd 12), .ref (bd 13), .int (iI mns), .ref (bd 14), .ref (bd 15), .ref (bd 16), .int (iI kn), .ref (bd 17)])) := (ho _ (zq_ne h_o h_sm (by simp))).trans h_o
        have h_on : M14 (bd 11) = some (cI (K 0) 384 on) := (ho _ (zbd hbd 11 13)).trans h_on
        have h_tw : M14 (bd 12) = some (cI (K 0) 384 tw) := (ho _ (zbd hbd 12 13)).trans h_tw
        have h_sm : M14 (bd 13) = some (cJ (K 1) 114688 (zu g i 0)) := hs
        have hfr : ∀ q, q ≠ (bd 13) → M14 q = M q := fun q g0 => (ho q g0).trans (hfr q g0)
        refine lv_iinc (v := iI (i + 1)) (lv' := [(2, .int (iI (i + 1))), (0, .ref o), (1, .int (iI wo))]) hx hb d_MM_sumUp_20 hl (k := 2) rfl (iI_add _ _) (by decide) rfl (fun ls hl => ?_)
        refine lv_goto (tgt := 2) hx hb d_MM_sumUp_23 (by decide) ?_
        exact ih_hL1 (i + 1) (zu g i 0) M14 _ _ _ (by omega) (zup_c hg hi.1) (by omega) hfr h_o h_on h_tw h_sm hw (lv_sub hl [1, 2, 0] rfl)
  refine lv_iconst (v := iI 0) hx hb d_MM_sumUp_0 rfl ?_
  refine lv_istore_n (lv' := [(2, .int (iI 0)), (0, .ref o), (1, .int (iI wo))]) hx hb d_MM_sumUp_1 rfl hl (by decide) rfl (fun ls hl => ?_)
  exact hL1 _ 0 sm M _ _ _ ⟨by omega, by omega⟩ (fun z => (if_neg (by omega)).symm) (Nat.lt_succ_self _) hfr h_o h_on h_tw h_sm hw (lv_sub hl [1, 2, 0] rfl)
