abbrev P_CR_size (K : Nat → ClassId) (M : zq_M) (o : Nat) (sA : Nat) (lA : Nat) (cnt : Int) (sg : Int → Int) (lb : Int → Int) : Option Value → zq_M → Prop := fun v M' => v = some (.int (iI (cnt))) ∧ M' = M
set_option maxHeartbeats 4000000 in
set_option maxRecDepth 100000 in
theorem c_CR_size (l : Launch) (D : va_G) (K : Nat → ClassId) (M : zq_M) (o : Nat) (sA : Nat) (lA : Nat) (cnt : Int) (sg : Int → Int) (lb : Int → Int) (h_o : M o = some (.inr (2, [.ref sA, .ref lA, .int (iI cnt)]))) (h_s : M sA = some (cI (K 0) 12 sg)) (h_l : M lA = some (cI (K 0) 48 lb)) (hC : zC cnt sg lb) : zq_Met l y_CR_size (.code y_CR_size b_CR_size 1 (some .int) :: lw_gd) { frames := 0, cells := 0, slots := 0, locals := 0 } D vwCl (zT K) [.ref o] M (P_CR_size K M o sA lA cnt sg lb) 0 0 := by
  refine zq_start (cc := b_CR_size) (maxL := 1) (ret := (some .int)) (by decide) rfl (Nat.le_of_ble_eq_true rfl) ?_
  intro p e s m below meth c A ls hx hb hr hml hts hown hnm hlocks hA hZ hw hl
  have hts : ∀ w ∈ lw_gd, w.before [.ref o].toArray s = true := fun w h => hts w (List.mem_cons_of_mem _ h)
  have hown : s.vm.findClass R_CR = some m.cls := hown
  have hK := hZ.1
  have hl : lv_has ls 1 [(0, .ref o)] := hl
  obtain ⟨hc1, hc2, hc3, hc4⟩ := id hC
  refine lv_aload_n hx hb d_CR_size_0 rfl (lv_at hl 0 rfl) ?_
  refine zq_get hx hb hts i_CR hown hK hw h_o rfl 2 (by decide) (hts _ tw_30) rfl d_CR_size_1 ?_
  exact zq_iret hx hb hr hlocks hZ hw ⟨rfl, rfl⟩ d_CR_size_4
abbrev P_CR_places (K : Nat → ClassId) (M : zq_M) (o : Nat) (sA : Nat) (lA : Nat) (cnt : Int) (sg : Int → Int) (lb : Int → Int) : Option Value → zq_M → Prop := fun v M' => v = some (.int (iI (4 * cnt))) ∧ M' = M
set_option maxHeartbeats 4000000 in
set_option maxRecDepth 100000 in
theorem c_CR_places (l : Launch) (D : va_G) (K : Nat → ClassId) (M : zq_M) (o : Nat) (sA : Nat) (lA : Nat) (cnt : Int) (sg : Int → Int) (lb : Int → Int) (h_o : M o = some (.inr (2, [.ref sA, .ref lA, .int (iI cnt)]))) (h_s : M sA = some (cI (K 0) 12 sg)) (h_l : M lA = some (cI (K 0) 48 lb)) (hC : zC cnt sg lb) : zq_Met l y_CR_places (.code y_CR_places b_CR_places 1 (some .int) :: lw_gd) { frames := 0, cells := 0, slots := 0, locals := 0 } D vwCl (zT K) [.ref o] M (P_CR_places K M o sA lA cnt sg lb) 0 0 := by
  refine zq_start (cc := b_CR_places) (maxL := 1) (ret := (some .int)) (by decide) rfl (Nat.le_of_ble_eq_true rfl) ?_
  intro p e s m below meth c A ls hx hb hr hml hts hown hnm hlocks hA hZ hw hl
  have hts : ∀ w ∈ lw_gd, w.before [.ref o].toArray s = true := fun w h => hts w (List.mem_cons_of_mem _ h)
  have hown : s.vm.findClass R_CR = some m.cls := hown
  have hK := hZ.1
  have hl : lv_has ls 1 [(0, .ref o)] := hl
  obtain ⟨hc1, hc2, hc3, hc4⟩ := id hC
  refine lv_iconst (v := iI 4) hx hb d_CR_places_0 rfl ?_
  refine lv_aload_n hx hb d_CR_places_1 rfl (lv_at hl 0 rfl) ?_
  refine zq_get hx hb hts i_CR hown hK hw h_o rfl 2 (by decide) (hts _ tw_30) rfl d_CR_places_2 ?_
  refine zq_imul hx hb d_CR_places_5 ?_
  exact zq_iret hx hb hr hlocks hZ hw ⟨rfl, rfl⟩ d_CR_places_6
abbrev P_CR_has (K : Nat → ClassId) (M : zq_M) (o : Nat) (sA : Nat) (lA : Nat) (cnt : Int) (sg : Int → Int) (lb : Int → Int) (k : Int) : Option Value → zq_M → Prop := fun v M' => v = some (.int (iI (if 0 ≤ k ∧ k < cnt then 1 else 0))) ∧ M' = M
set_option maxHeartbeats 4000000 in
set_option maxRecDepth 100000 in
theorem c_CR_has (l : Launch) (D : va_G) (K : Nat → ClassId) (M : zq_M) (o : Nat) (sA : Nat) (lA : Nat) (cnt : Int) (sg : Int → Int) (lb : Int → Int) (k : Int) (h_o : M o = some (.inr (2, [.ref sA, .ref lA, .int (iI cnt)]))) (h_s : M sA = some (cI (K 0) 12 sg)) (h_l : M lA = some (cI (K 0) 48 lb)) (hC : zC cnt sg lb) (hk : inI k) : zq_Met l y_CR_has (.code y_CR_has b_CR_has 2 (some .boolean) :: lw_gd) { frames := 0, cells := 0, slots := 0, locals := 0 } D vwCl (zT K) [.ref o, .int (iI k)] M (P_CR_has K M o sA lA cnt sg lb k) 0 0 := by
  refine zq_start (cc := b_CR_has) (maxL := 2) (ret := (some .boolean)) (by decide) rfl (Nat.le_of_ble_eq_true rfl) ?_
  intro p e s m below meth c A ls hx hb hr hml hts hown hnm hlocks hA hZ hw hl
  have hts : ∀ w ∈ lw_gd, w.before [.ref o, .int (iI k)].toArray s = true := fun w h => hts w (List.mem_cons_of_mem _ h)
  have hown : s.vm.findClass R_CR = some m.cls := hown
  have hK := hZ.1
  have hl : lv_has ls 2 [(0, .ref o), (1, .int (iI k))] := hl
  obtain ⟨hc1, hc2, hc3, hc4⟩ := id hC
  refine lv_iload_n hx hb d_CR_has_0 rfl (lv_at hl 1 rfl) ?_
  refine zq_if_lt (tgt := 16) hx hb d_CR_has_1 (by decide) hk (fun hc1 => ?_) (fun hc1 => ?_)
  · refine lv_iconst (v := iI 0) hx hb d_CR_has_16 rfl ?_
    exact zq_zret hx hb hr rfl hlocks hZ hw ⟨zq_ri (by rw [if_neg (by omega)]), rfl⟩ d_CR_has_17
  · refine lv_iload_n hx hb d_CR_has_4 rfl (lv_at hl 1 rfl) ?_
    refine lv_aload_n hx hb d_CR_has_5 rfl (lv_at hl 0 rfl) ?_
    refine zq_get hx hb hts i_CR hown hK hw h_o rfl 2 (by decide) (hts _ tw_30) rfl d_CR_has_6 ?_
    refine zq_icmp_ge (tgt := 16) hx hb d_CR_has_9 (by decide) hk ⟨by omega, by omega⟩ (fun hc2 => ?_) (fun hc2 => ?_)
    · refine lv_iconst (v := iI 0) hx hb d_CR_has_16 rfl ?_
      exact zq_zret hx hb hr rfl hlocks hZ hw ⟨zq_ri (by rw [if_neg (by omega)]), rfl⟩ d_CR_has_17
    · refine lv_iconst (v := iI 1) hx hb d_CR_has_12 rfl ?_
      refine lv_goto (tgt := 17) hx hb d_CR_has_13 (by decide) ?_
      exact zq_zret hx hb hr rfl hlocks hZ hw ⟨zq_ri (by rw [if_pos (by omega)]), rfl⟩ d_CR_has_17
abbrev P_CR_signOf (K : Nat → ClassId) (M : zq_M) (o : Nat) (sA : Nat) (lA : Nat) (cnt : Int) (sg : Int → Int) (lb : Int → Int) (k : Int) : Option Value → zq_M → Prop := fun v M' => v = some (.int (iI (sg k))) ∧ M' = M
set_option maxHeartbeats 4000000 in
set_option maxRecDepth 100000 in
theorem c_CR_signOf (l : Launch) (D : va_G) (K : Nat → ClassId) (M : zq_M) (o : Nat) (sA : Nat) (lA : Nat) (cnt : Int) (sg : Int → Int) (lb : Int → Int) (k : Int) (h_o : M o = some (.inr (2, [.ref sA, .ref lA, .int (iI cnt)]))) (h_s : M sA = some (cI (K 0) 12 sg)) (h_l : M lA = some (cI (K 0) 48 lb)) (hC : zC cnt sg lb) (hk : 0 ≤ k ∧ k < cnt) : zq_Met l y_CR_signOf (.code y_CR_signOf b_CR_signOf 2 (some .int) :: lw_gd) { frames := 1, cells := 0, slots := 0, locals := 21 } D vwCl (zT K) [.ref o, .int (iI k)] M (P_CR_signOf K M o sA lA cnt sg lb k) 0 0 := by
  refine zq_start (cc := b_CR_signOf) (maxL := 2) (ret := (some .int)) (by decide) rfl (Nat.le_of_ble_eq_true rfl) ?_
  intro p e s m below meth c A ls hx hb hr hml hts hown hnm hlocks hA hZ hw hl
  have hts : ∀ w ∈ lw_gd, w.before [.ref o, .int (iI k)].toArray s = true := fun w h => hts w (List.mem_cons_of_mem _ h)
  have hown : s.vm.findClass R_CR = some m.cls := hown
  have hK := hZ.1
  have hl : lv_has ls 2 [(0, .ref o), (1, .int (iI k))] := hl
  obtain ⟨hc1, hc2, hc3, hc4⟩ := id hC
  refine lv_aload_n hx hb d_CR_signOf_0 rfl (lv_at hl 0 rfl) ?_
  refine lv_iload_n hx hb d_CR_signOf_1 rfl (lv_at hl 1 rfl) ?_
  refine zq_callV (As := [.int (iI k)]) (rest := []) ⟨hx, hb, hml, hown, hts⟩ (c_CR_has l D K M o sA lA cnt sg lb k h_o h_s h_l hC ⟨by omega, by omega⟩) (cwV 1 hts (zg_V tw_272 tw_273 tw_274 tw_2 tw_275) rfl rfl rfl (by decide +kernel) ⟨Nat.le_of_ble_eq_true rfl, Nat.le_of_ble_eq_true rfl⟩) hZ hw hA h_o rfl rfl rfl rfl hl.1 (Nat.le_of_ble_eq_true rfl) d_CR_signOf_2 ⟨Nat.le_of_ble_eq_true rfl, Nat.le_of_ble_eq_true rfl⟩ (fun v M1 H locs hp hw => ?_)
  obtain ⟨rfl, hMe⟩ := hp
  rw [hMe] at hw
  refine W.eq (g2 := F0 m 5 ls [.int (iI (if 0 ≤ k ∧ k < cnt then 1 else 0))]) rfl ?_
  refine zq_if_eq (tgt := 17) hx hb d_CR_signOf_5 (by decide) (by split <;> decide) (fun hc2 => ?_) (fun hc2 => ?_)
  · exact absurd hc2 (by rw [if_pos (by omega)]; decide)
  · refine lv_aload_n hx hb d_CR_signOf_8 rfl (lv_at hl 0 rfl) ?_
    refine zq_get hx hb hts i_CR hown hK hw h_o rfl 0 (by decide) (hts _ tw_28) rfl d_CR_signOf_9 ?_
    refine lv_iload_n hx hb d_CR_signOf_12 rfl (lv_at hl 1 rfl) ?_
    refine zq_iald hx hb hK hw 0 h_s rfl (by omega) (by omega) (by decide) d_CR_signOf_13 ?_
    refine lv_goto (tgt := 18) hx hb d_CR_signOf_14 (by decide) ?_
    exact zq_iret hx hb hr hlocks hZ hw ⟨rfl, rfl⟩ d_CR_signOf_18
abbrev P_CR_labelAt (K : Nat → ClassId) (M : zq_M) (o : Nat) (sA : Nat) (lA : Nat) (cnt : Int) (sg : Int → Int) (lb : Int → Int) (x : Int) : Option Value → zq_M → Prop := fun v M' => v = some (.int (iI (lb x))) ∧ M' = M
set_option maxHeartbeats 4000000 in
set_option maxRecDepth 100000 in
theorem c_CR_labelAt (l : Launch) (D : va_G) (K : Nat → ClassId) (M : zq_M) (o : Nat) (sA : Nat) (lA : Nat) (cnt : Int) (sg : Int → Int) (lb : Int → Int) (x : Int) (h_o : M o = some (.inr (2, [.ref sA, .ref lA, .int (iI cnt)]))) (h_s : M sA = some (cI (K 0) 12 sg)) (h_l : M lA = some (cI (K 0) 48 lb)) (hC : zC cnt sg lb) (hk : 0 ≤ x ∧ x < 4 * cnt) : zq_Met l y_CR_labelAt (.code y_CR_labelAt b_CR_labelAt 2 (some .int) :: lw_gd) { frames := 1, cells := 0, slots := 0, locals := 20 } D vwCl (zT K) [.ref o, .int (iI x)] M (P_CR_labelAt K M o sA lA cnt sg lb x) 0 0 := by
  refine zq_start (cc := b_CR_labelAt) (maxL := 2) (ret := (some .int)) (by decide) rfl (Nat.le_of_ble_eq_true rfl) ?_
  intro p e s m below meth c A ls hx hb hr hml hts hown hnm hlocks hA hZ hw hl
  have hts : ∀ w ∈ lw_gd, w.before [.ref o, .int (iI x)].toArray s = true := fun w h => hts w (List.mem_cons_of_mem _ h)
  have hown : s.vm.findClass R_CR = some m.cls := hown
  have hK := hZ.1
  have hl : lv_has ls 2 [(0, .ref o), (1, .int (iI x))] := hl
  obtain ⟨hc1, hc2, hc3, hc4⟩ := id hC
  refine lv_iload_n hx hb d_CR_labelAt_0 rfl (lv_at hl 1 rfl) ?_
  refine zq_if_lt (tgt := 21) hx hb d_CR_labelAt_1 (by decide) ⟨by omega, by omega⟩ (fun hc1 => ?_) (fun hc1 => ?_)
  · exact absurd hc1 (by omega)
  · refine lv_iload_n hx hb d_CR_labelAt_4 rfl (lv_at hl 1 rfl) ?_
    refine lv_aload_n hx hb d_CR_labelAt_5 rfl (lv_at hl 0 rfl) ?_
    refine zq_callV (As := []) (rest := [.int (iI x)]) ⟨hx, hb, hml, hown, hts⟩ (c_CR_places l D K M o sA lA cnt sg lb  h_o h_s h_l hC ) (cwV 0 hts (zg_V tw_251 tw_237 tw_238 tw_2 tw_239) rfl rfl rfl (by decide +kernel) ⟨Nat.le_of_ble_eq_true rfl, Nat.le_of_ble_eq_true rfl⟩) hZ hw hA h_o rfl rfl rfl rfl hl.1 (Nat.le_of_ble_eq_true rfl) d_CR_labelAt_6 ⟨Nat.le_of_ble_eq_true rfl, Nat.le_of_ble_eq_true rfl⟩ (fun v M2 H locs hp hw => ?_)
    obtain ⟨rfl, hMe⟩ := hp
    rw [hMe] at hw
    refine W.eq (g2 := F0 m 9 ls [.int (iI (4 * cnt)), .int (iI x)]) rfl ?_
    refine zq_icmp_ge (tgt := 21) hx hb d_CR_labelAt_9 (by decide) ⟨by omega, by omega⟩ ⟨by omega, by omega⟩ (fun hc3 => ?_) (fun hc3 => ?_)
    · exact absurd hc3 (by omega)
    · refine lv_aload_n hx hb d_CR_labelAt_12 rfl (lv_at hl 0 rfl) ?_
      refine zq_get hx hb hts i_CR hown hK hw h_o rfl 1 (by decide) (hts _ tw_29) rfl d_CR_labelAt_13 ?_
      refine lv_iload_n hx hb d_CR_labelAt_16 rfl (lv_at hl 1 rfl) ?_
      refine zq_iald hx hb hK hw 0 h_l rfl (by omega) (by omega) (by decide) d_CR_labelAt_17 ?_
      refine lv_goto (tgt := 22) hx hb d_CR_labelAt_18 (by decide) ?_
      exact zq_iret hx hb hr hlocks hZ hw ⟨rfl, rfl⟩ d_CR_labelAt_22
abbrev P_CR_lowerIn (K : Nat → ClassId) (M : zq_M) (o : Nat) (sA : Nat) (lA : Nat) (cnt : Int) (sg : Int → Int) (lb : Int → Int) (k : Int) : Option Value → zq_M → Prop := fun v M' => v = some (.int (iI (4 * k))) ∧ M' = M
set_option maxHeartbeats 4000000 in
set_option maxRecDepth 100000 in
theorem c_CR_lowerIn (l : Launch) (D : va_G) (K : Nat → ClassId) (M : zq_M) (o : Nat) (sA : Nat) (lA : Nat) (cnt : Int) (sg : Int → Int) (lb : Int → Int) (k : Int) (h_o : M o = some (.inr (2, [.ref sA, .ref lA, .int (iI cnt)]))) (h_s : M sA = some (cI (K 0) 12 sg)) (h_l : M lA = some (cI (K 0) 48 lb)) (hC : zC cnt sg lb) : zq_Met l y_CR_lowerIn (.code y_CR_lowerIn b_CR_lowerIn 2 (some .int) :: lw_gd) { frames := 0, cells := 0, slots := 0, locals := 0 } D vwCl (zT K) [.ref o, .int (iI k)] M (P_CR_lowerIn K M o sA lA cnt sg lb k) 0 0 := by
  refine zq_start (cc := b_CR_lowerIn) (maxL := 2) (ret := (some .int)) (by decide) rfl (Nat.le_of_ble_eq_true rfl) ?_
  intro p e s m below meth c A ls hx hb hr hml hts hown hnm hlocks hA hZ hw hl
  have hts : ∀ w ∈ lw_gd, w.before [.ref o, .int (iI k)].toArray s = true := fun w h => hts w (List.mem_cons_of_mem _ h)
  have hown : s.vm.findClass R_CR = some m.cls := hown
  have hK := hZ.1
  have hl : lv_has ls 2 [(0, .ref o), (1, .int (iI k))] := hl
  obtain ⟨hc1, hc2, hc3, hc4⟩ := id hC
  refine lv_iconst (v := iI 4) hx hb d_CR_lowerIn_0 rfl ?_
  refine lv_iload_n hx hb d_CR_lowerIn_1 rfl (lv_at hl 1 rfl) ?_
  refine zq_imul hx hb d_CR_lowerIn_2 ?_
  exact zq_iret hx hb hr hlocks hZ hw ⟨rfl, rfl⟩ d_CR_lowerIn_3
abbrev P_CR_lowerOut (K : Nat → ClassId) (M : zq_M) (o : Nat) (sA : Nat) (lA : Nat) (cnt : Int) (sg : Int → Int) (lb : Int → Int) (k : Int) : Option Value → zq_M → Prop := fun v M' => v = some (.int (iI (4 * k + 2))) ∧ M' = M
set_option maxHeartbeats 4000000 in
set_option maxRecDepth 100000 in
theorem c_CR_lowerOut (l : Launch) (D : va_G) (K : Nat → ClassId) (M : zq_M) (o : Nat) (sA : Nat) (lA : Nat) (cnt : Int) (sg : Int → Int) (lb : Int → Int) (k : Int) (h_o : M o = some (.inr (2, [.ref sA, .ref lA, .int (iI cnt)]))) (h_s : M sA = some (cI (K 0) 12 sg)) (h_l : M lA = some (cI (K 0) 48 lb)) (hC : zC cnt sg lb) : zq_Met l y_CR_lowerOut (.code y_CR_lowerOut b_CR_lowerOut 2 (some .int) :: lw_gd) { frames := 0, cells := 0, slots := 0, locals := 0 } D vwCl (zT K) [.ref o, .int (iI k)] M (P_CR_lowerOut K M o sA lA cnt sg lb k) 0 0 := by
  refine zq_start (cc := b_CR_lowerOut) (maxL := 2) (ret := (some .int)) (by decide) rfl (Nat.le_of_ble_eq_true rfl) ?_
  intro p e s m below meth c A ls hx hb hr hml hts hown hnm hlocks hA hZ hw hl
  have hts : ∀ w ∈ lw_gd, w.before [.ref o, .int (iI k)].toArray s = true := fun w h => hts w (List.mem_cons_of_mem _ h)
  have hown : s.vm.findClass R_CR = some m.cls := hown
  have hK := hZ.1
  have hl : lv_has ls 2 [(0, .ref o), (1, .int (iI k))] := hl
  obtain ⟨hc1, hc2, hc3, hc4⟩ := id hC
  refine lv_iconst (v := iI 4) hx hb d_CR_lowerOut_0 rfl ?_
  refine lv_iload_n hx hb d_CR_lowerOut_1 rfl (lv_at hl 1 rfl) ?_
  refine zq_imul hx hb d_CR_lowerOut_2 ?_
  refine lv_iconst (v := iI 2) hx hb d_CR_lowerOut_3 rfl ?_
  refine zq_iadd hx hb d_CR_lowerOut_4 ?_
  exact zq_iret hx hb hr hlocks hZ hw ⟨rfl, rfl⟩ d_CR_lowerOut_5
abbrev P_CR_upperIn (K : Nat → ClassId) (M : zq_M) (o : Nat) (sA : Nat) (lA : Nat) (cnt : Int) (sg : Int → Int) (lb : Int → Int) (k : Int) : Option Value → zq_M → Prop := fun v M' => v = some (.int (iI (4 * k + zup (sg k)))) ∧ M' = M
set_option maxHeartbeats 4000000 in
set_option maxRecDepth 100000 in
theorem c_CR_upperIn (l : Launch) (D : va_G) (K : Nat → ClassId) (M : zq_M) (o : Nat) (sA : Nat) (lA : Nat) (cnt : Int) (sg : Int → Int) (lb : Int → Int) (k : Int) (h_o : M o = some (.inr (2, [.ref sA, .ref lA, .int (iI cnt)]))) (h_s : M sA = some (cI (K 0) 12 sg)) (h_l : M lA = some (cI (K 0) 48 lb)) (hC : zC cnt sg lb) (hk : 0 ≤ k ∧ k < cnt) : zq_Met l y_CR_upperIn (.code y_CR_upperIn b_CR_upperIn 2 (some .int) :: lw_gd) { frames := 2, cells := 0, slots := 0, locals := 42 } D vwCl (zT K) [.ref o, .int (iI k)] M (P_CR_upperIn K M o sA lA cnt sg lb k) 0 0 := by
  refine zq_start (cc := b_CR_upperIn) (maxL := 2) (ret := (some .int)) (by decide) rfl (Nat.le_of_ble_eq_true rfl) ?_
  intro p e s m below meth c A ls hx hb hr hml hts hown hnm hlocks hA hZ hw hl
  have hts : ∀ w ∈ lw_gd, w.before [.ref o, .int (iI k)].toArray s = true := fun w h => hts w (List.mem_cons_of_mem _ h)
  have hown : s.vm.findClass R_CR = some m.cls := hown
  have hK := hZ.1
  have hl : lv_has ls 2 [(0, .ref o), (1, .int (iI k))] := hl
  obtain ⟨hc1, hc2, hc3, hc4⟩ := id hC
  refine lv_iconst (v := iI 4) hx hb d_CR_upperIn_0 rfl ?_
  refine lv_iload_n hx hb d_CR_upperIn_1 rfl (lv_at hl 1 rfl) ?_
  refine zq_imul hx hb d_CR_upperIn_2 ?_
  refine lv_aload_n hx hb d_CR_upperIn_3 rfl (lv_at hl 0 rfl) ?_
  refine lv_iload_n hx hb d_CR_upperIn_4 rfl (lv_at hl 1 rfl) ?_
  refine zq_callV (As := [.int (iI k)]) (rest := [.int (iI (4 * k))]) ⟨hx, hb, hml, hown, hts⟩ (c_CR_signOf l D K M o sA lA cnt sg lb k h_o h_s h_l hC ⟨by omega, by omega⟩) (cwV 1 hts (zg_V tw_268 tw_269 tw_270 tw_2 tw_271) rfl rfl rfl (by decide +kernel) ⟨Nat.le_of_ble_eq_true rfl, Nat.le_of_ble_eq_true rfl⟩) hZ hw hA h_o rfl rfl rfl rfl hl.1 (Nat.le_of_ble_eq_true rfl) d_CR_upperIn_5 ⟨Nat.le_of_ble_eq_true rfl, Nat.le_of_ble_eq_true rfl⟩ (fun v M1 H locs hp hw => ?_)
  obtain ⟨rfl, hMe⟩ := hp
  rw [hMe] at hw
  refine W.eq (g2 := F0 m 8 ls [.int (iI (sg k)), .int (iI (4 * k))]) rfl ?_
  refine lv_iconst (v := iI 1) hx hb d_CR_upperIn_8 rfl ?_
  refine zq_icmp_ne (tgt := 16) hx hb d_CR_upperIn_9 (by decide) (hc3 k) (by decide) (fun hc2 => ?_) (fun hc2 => ?_)
  · refine lv_iconst (v := iI 1) hx hb d_CR_upperIn_16 rfl ?_
    refine zq_iadd hx hb d_CR_upperIn_17 ?_
    exact zq_iret hx hb hr hlocks hZ hw ⟨zq_ri (by unfold zup; rw [if_neg (by omega)]), rfl⟩ d_CR_upperIn_18
  · refine lv_iconst (v := iI 3) hx hb d_CR_upperIn_12 rfl ?_
    refine lv_goto (tgt := 17) hx hb d_CR_upperIn_13 (by decide) ?_
    refine zq_iadd hx hb d_CR_upperIn_17 ?_
    exact zq_iret hx hb hr hlocks hZ hw ⟨zq_ri (by unfold zup; rw [if_pos (by omega)]), rfl⟩ d_CR_upperIn_18
abbrev P_CR_upperOut (K : Nat → ClassId) (M : zq_M) (o : Nat) (sA : Nat) (lA : Nat) (cnt : Int) (sg : Int → Int) (lb : Int → Int) (k : Int) : Option Value → zq_M → Prop := fun v M' => v = some (.int (iI (4 * k + zuo (sg k)))) ∧ M' = M
set_option maxHeartbeats 4000000 in
set_option maxRecDepth 100000 in
theorem c_CR_upperOut (l : Launch) (D : va_G) (K : Nat → ClassId) (M : zq_M) (o : Nat) (sA : Nat) (lA : Nat) (cnt : Int) (sg : Int → Int) (lb : Int → Int) (k : Int) (h_o : M o = some (.inr (2, [.ref sA, .ref lA, .int (iI cnt)]))) (h_s : M sA = some (cI (K 0) 12 sg)) (h_l : M lA = some (cI (K 0) 48 lb)) (hC : zC cnt sg lb) (hk : 0 ≤ k ∧ k < cnt) : zq_Met l y_CR_upperOut (.code y_CR_upperOut b_CR_upperOut 2 (some .int) :: lw_gd) { frames := 2, cells := 0, slots := 0, locals := 42 } D vwCl (zT K) [.ref o, .int (iI k)] M (P_CR_upperOut K M o sA lA cnt sg lb k) 0 0 := by
  refine zq_start (cc := b_CR_upperOut) (maxL := 2) (ret := (some .int)) (by decide) rfl (Nat.le_of_ble_eq_true rfl) ?_
  intro p e s m below meth c A ls hx hb hr hml hts hown hnm hlocks hA hZ hw hl
  have hts : ∀ w ∈ lw_gd, w.before [.ref o, .int (iI k)].toArray s = true := fun w h => hts w (List.mem_cons_of_mem _ h)
  have hown : s.vm.findClass R_CR = some m.cls := hown
  have hK := hZ.1
  have hl : lv_has ls 2 [(0, .ref o), (1, .int (iI k))] := hl
  obtain ⟨hc1, hc2, hc3, hc4⟩ := id hC
  refine lv_iconst (v := iI 4) hx hb d_CR_upperOut_0 rfl ?_
  refine lv_iload_n hx hb d_CR_upperOut_1 rfl (lv_at hl 1 rfl) ?_
  refine zq_imul hx hb d_CR_upperOut_2 ?_
  refine lv_aload_n hx hb d_CR_upperOut_3 rfl (lv_at hl 0 rfl) ?_
  refine lv_iload_n hx hb d_CR_upperOut_4 rfl (lv_at hl 1 rfl) ?_
  refine zq_callV (As := [.int (iI k)]) (rest := [.int (iI (4 * k))]) ⟨hx, hb, hml, hown, hts⟩ (c_CR_signOf l D K M o sA lA cnt sg lb k h_o h_s h_l hC ⟨by omega, by omega⟩) (cwV 1 hts (zg_V tw_268 tw_269 tw_270 tw_2 tw_271) rfl rfl rfl (by decide +kernel) ⟨Nat.le_of_ble_eq_true rfl, Nat.le_of_ble_eq_true rfl⟩) hZ hw hA h_o rfl rfl rfl rfl hl.1 (Nat.le_of_ble_eq_true rfl) d_CR_upperOut_5 ⟨Nat.le_of_ble_eq_true rfl, Nat.le_of_ble_eq_true rfl⟩ (fun v M1 H locs hp hw => ?_)
  obtain ⟨rfl, hMe⟩ := hp
  rw [hMe] at hw
  refine W.eq (g2 := F0 m 8 ls [.int (iI (sg k)), .int (iI (4 * k))]) rfl ?_
  refine lv_iconst (v := iI 1) hx hb d_CR_upperOut_8 rfl ?_
  refine zq_icmp_ne (tgt := 16) hx hb d_CR_upperOut_9 (by decide) (hc3 k) (by decide) (fun hc2 => ?_) (fun hc2 => ?_)
  · refine lv_iconst (v := iI 3) hx hb d_CR_upperOut_16 rfl ?_
    refine zq_iadd hx hb d_CR_upperOut_17 ?_
    exact zq_iret hx hb hr hlocks hZ hw ⟨zq_ri (by unfold zuo; rw [if_neg (by omega)]), rfl⟩ d_CR_upperOut_18
  · refine lv_iconst (v := iI 1) hx hb d_CR_upperOut_12 rfl ?_
    refine lv_goto (tgt := 17) hx hb d_CR_upperOut_13 (by decide) ?_
    refine zq_iadd hx hb d_CR_upperOut_17 ?_
    exact zq_iret hx hb hr hlocks hZ hw ⟨zq_ri (by unfold zuo; rw [if_pos (by omega)]), rfl⟩ d_CR_upperOut_18
abbrev P_CR_goesIn (K : Nat → ClassId) (M : zq_M) (o : Nat) (sA : Nat) (lA : Nat) (cnt : Int) (sg : Int → Int) (lb : Int → Int) (x : Int) : Option Value → zq_M → Prop := fun v M' => v = some (.int (iI (if zgi (sg (x / 4)) x then 1 else 0))) ∧ M' = M
set_option maxHeartbeats 4000000 in
set_option maxRecDepth 100000 in
theorem c_CR_goesIn (l : Launch) (D : va_G) (K : Nat → ClassId) (M : zq_M) (o : Nat) (sA : Nat) (lA : Nat) (cnt : Int) (sg : Int → Int) (lb : Int → Int) (x : Int) (h_o : M o = some (.inr (2, [.ref sA, .ref lA, .int (iI cnt)]))) (h_s : M sA = some (cI (K 0) 12 sg)) (h_l : M lA = some (cI (K 0) 48 lb)) (hC : zC cnt sg lb) (hk : 0 ≤ x ∧ x < 4 * cnt) : zq_Met l y_CR_goesIn (.code y_CR_goesIn b_CR_goesIn 3 (some .boolean) :: lw_gd) { frames := 3, cells := 0, slots := 0, locals := 63 } D vwCl (zT K) [.ref o, .int (iI x)] M (P_CR_goesIn K M o sA lA cnt sg lb x) 0 0 := by
  refine zq_start (cc := b_CR_goesIn) (maxL := 3) (ret := (some .boolean)) (by decide) rfl (Nat.le_of_ble_eq_true rfl) ?_
  intro p e s m below meth c A ls hx hb hr hml hts hown hnm hlocks hA hZ hw hl
  have hts : ∀ w ∈ lw_gd, w.before [.ref o, .int (iI x)].toArray s = true := fun w h => hts w (List.mem_cons_of_mem _ h)
  have hown : s.vm.findClass R_CR = some m.cls := hown
  have hK := hZ.1
  have hl : lv_has ls 3 [(0, .ref o), (1, .int (iI x))] := hl
  obtain ⟨hc1, hc2, hc3, hc4⟩ := id hC
  have hu := zup_in (sg (x / 4))
  refine lv_iload_n hx hb d_CR_goesIn_0 rfl (lv_at hl 1 rfl) ?_
  refine lv_iconst (v := iI 4) hx hb d_CR_goesIn_1 rfl ?_
  refine zq_idiv hx hb (by omega) ⟨by omega, by omega⟩ (by decide) (by decide) d_CR_goesIn_2 ?_
  refine lv_istore_n (lv' := [(2, .int (iI (x / 4))), (0, .ref o), (1, .int (iI x))]) hx hb d_CR_goesIn_3 rfl hl (by decide) rfl (fun ls hl => ?_)
  refine lv_iload_n hx hb d_CR_goesIn_4 rfl (lv_at hl 2 rfl) ?_
  refine lv_aload_n hx hb d_CR_goesIn_5 rfl (lv_at hl 1 rfl) ?_
  refine lv_iload_n hx hb d_CR_goesIn_6 rfl (lv_at hl 0 rfl) ?_
  refine zq_callV (As := [.int (iI (x / 4))]) (rest := [.int (iI x)]) ⟨hx, hb, hml, hown, hts⟩ (c_CR_lowerIn l D K M o sA lA cnt sg lb (x / 4) h_o h_s h_l hC ) (cwV 1 hts (zg_V tw_260 tw_261 tw_262 tw_2 tw_263) rfl rfl rfl (by decide +kernel) ⟨Nat.le_of_ble_eq_true rfl, Nat.le_of_ble_eq_true rfl⟩) hZ hw hA h_o rfl rfl rfl rfl hl.1 (Nat.le_of_ble_eq_true rfl) d_CR_goesIn_7 ⟨Nat.le_of_ble_eq_true rfl, Nat.le_of_ble_eq_true rfl⟩ (fun v M1 H locs hp hw => ?_)
  obtain ⟨rfl, hMe⟩ := hp
  rw [hMe] at hw
  refine W.eq (g2 := F0 m 10 ls [.int (iI (4 * (x / 4))), .int (iI x)]) rfl ?_
  refine zq_icmp_eq (tgt := 22) hx hb d_CR_goesIn_10 (by decide) ⟨by omega, by omega⟩ ⟨by omega, by omega⟩ (fun hc2 => ?_) (fun hc2 => ?_)
  · refine lv_iconst (v := iI 1) hx hb d_CR_goesIn_22 rfl ?_
    refine lv_goto (tgt := 27) hx hb d_CR_goesIn_23 (by decide) ?_
    exact zq_zret hx hb hr rfl hlocks hZ hw ⟨zq_ri (by rw [if_pos (by unfold zgi; omega)]), rfl⟩ d_CR_goesIn_27
  · refine lv_iload_n hx hb d_CR_goesIn_13 rfl (lv_at hl 2 rfl) ?_
    refine lv_aload_n hx hb d_CR_goesIn_14 rfl (lv_at hl 1 rfl) ?_
    refine lv_iload_n hx hb d_CR_goesIn_15 rfl (lv_at hl 0 rfl) ?_
    refine zq_callV (As := [.int (iI (x / 4))]) (rest := [.int (iI x)]) ⟨hx, hb, hml, hown, hts⟩ (c_CR_upperIn l D K M o sA lA cnt sg lb (x / 4) h_o h_s h_l hC ⟨by omega, by omega⟩) (cwV 1 hts (zg_V tw_264 tw_265 tw_266 tw_2 tw_267) rfl rfl rfl (by decide +kernel) ⟨Nat.le_of_ble_eq_true rfl, Nat.le_of_ble_eq_true rfl⟩) hZ hw hA h_o rfl rfl rfl rfl hl.1 (Nat.le_of_ble_eq_true rfl) d_CR_goesIn_16 ⟨Nat.le_of_ble_eq_true rfl, Nat.le_of_ble_eq_true rfl⟩ (fun v M3 H locs hp hw => ?_)
    obtain ⟨rfl, hMe⟩ := hp
    rw [hMe] at hw
    refine W.eq (g2 := F0 m 19 ls [.int (iI (4 * (x / 4) + zup (sg (x / 4)))), .int (iI x)]) rfl ?_
    refine zq_icmp_ne (tgt := 26) hx hb d_CR_goesIn_19 (by decide) ⟨by omega, by omega⟩ ⟨by omega, by omega⟩ (fun hc4 => ?_) (fun hc4 => ?_)
    · refine lv_iconst (v := iI 0) hx hb d_CR_goesIn_26 rfl ?_
      exact zq_zret hx hb hr rfl hlocks hZ hw ⟨zq_ri (by rw [if_neg (by unfold zgi; omega)]), rfl⟩ d_CR_goesIn_27
    · refine lv_iconst (v := iI 1) hx hb d_CR_goesIn_22 rfl ?_
      refine lv_goto (tgt := 27) hx hb d_CR_goesIn_23 (by decide) ?_
      exact zq_zret hx hb hr rfl hlocks hZ hw ⟨zq_ri (by rw [if_pos (by unfold zgi; omega)]), rfl⟩ d_CR_goesIn_27
abbrev P_CR_closingsAt (K : Nat → ClassId) (M : zq_M) (o : Nat) (sA : Nat) (lA : Nat) (cnt : Int) (sg : Int → Int) (lb : Int → Int) (k : Int) : Option Value → zq_M → Prop := fun v M' => v = some (.int (iI (zcl sg lb k))) ∧ M' = M
set_option maxHeartbeats 4000000 in
set_option maxRecDepth 100000 in
theorem c_CR_closingsAt (l : Launch) (D : va_G) (K : Nat → ClassId) (M : zq_M) (o : Nat) (sA : Nat) (lA : Nat) (cnt : Int) (sg : Int → Int) (lb : Int → Int) (k : Int) (h_o : M o = some (.inr (2, [.ref sA, .ref lA, .int (iI cnt)]))) (h_s : M sA = some (cI (K 0) 12 sg)) (h_l : M lA = some (cI (K 0) 48 lb)) (hC : zC cnt sg lb) (hk : 0 ≤ k ∧ k < cnt) : zq_Met l y_CR_closingsAt (.code y_CR_closingsAt b_CR_closingsAt 3 (some .int) :: lw_gd) { frames := 3, cells := 0, slots := 0, locals := 63 } D vwCl (zT K) [.ref o, .int (iI k)] M (P_CR_closingsAt K M o sA lA cnt sg lb k) 0 0 := by
  refine zq_start (cc := b_CR_closingsAt) (maxL := 3) (ret := (some .int)) (by decide) rfl (Nat.le_of_ble_eq_true rfl) ?_
  intro p e s m below meth c A ls hx hb hr hml hts hown hnm hlocks hA hZ hw hl
  have hts : ∀ w ∈ lw_gd, w.before [.ref o, .int (iI k)].toArray s = true := fun w h => hts w (List.mem_cons_of_mem _ h)
  have hown : s.vm.findClass R_CR = some m.cls := hown
  have hK := hZ.1
  have hl : lv_has ls 3 [(0, .ref o), (1, .int (iI k))] := hl
  obtain ⟨hc1, hc2, hc3, hc4⟩ := id hC
  have hu := zup_in (sg k)
  have hu2 := zuo_in (sg k)
  refine lv_iconst (v := iI 0) hx hb d_CR_closingsAt_0 rfl ?_
  refine lv_istore_n (lv' := [(2, .int (iI 0)), (0, .ref o), (1, .int (iI k))]) hx hb d_CR_closingsAt_1 rfl hl (by decide) rfl (fun ls hl => ?_)
  refine lv_aload_n hx hb d_CR_closingsAt_2 rfl (lv_at hl 1 rfl) ?_
  refine lv_aload_n hx hb d_CR_closingsAt_3 rfl (lv_at hl 1 rfl) ?_
  refine lv_iload_n hx hb d_CR_closingsAt_4 rfl (lv_at hl 2 rfl) ?_
  refine zq_callV (As := [.int (iI k)]) (rest := [.ref o]) ⟨hx, hb, hml, hown, hts⟩ (c_CR_lowerIn l D K M o sA lA cnt sg lb k h_o h_s h_l hC ) (cwV 1 hts (zg_V tw_260 tw_261 tw_262 tw_2 tw_263) rfl rfl rfl (by decide +kernel) ⟨Nat.le_of_ble_eq_true rfl, Nat.le_of_ble_eq_true rfl⟩) hZ hw hA h_o rfl rfl rfl rfl hl.1 (Nat.le_of_ble_eq_true rfl) d_CR_closingsAt_5 ⟨Nat.le_of_ble_eq_true rfl, Nat.le_of_ble_eq_true rfl⟩ (fun v M1 H locs hp hw => ?_)
  obtain ⟨rfl, hMe⟩ := hp
  rw [hMe] at hw
  refine W.eq (g2 := F0 m 8 ls [.int (iI (4 * k)), .ref o]) rfl ?_
  refine zq_callV (As := [.int (iI (4 * k))]) (rest := []) ⟨hx, hb, hml, hown, hts⟩ (c_CR_labelAt l D K M o sA lA cnt sg lb (4 * k) h_o h_s h_l hC ⟨by omega, by omega⟩) (cwV 1 hts (zg_V tw_555 tw_248 tw_249 tw_2 tw_250) rfl rfl rfl (by decide +kernel) ⟨Nat.le_of_ble_eq_true rfl, Nat.le_of_ble_eq_true rfl⟩) hZ hw hA h_o rfl rfl rfl rfl hl.1 (Nat.le_of_ble_eq_true rfl) d_CR_closingsAt_8 ⟨Nat.le_of_ble_eq_true rfl, Nat.le_of_ble_eq_true rfl⟩ (fun v M2 H locs hp hw => ?_)
  obtain ⟨rfl, hMe⟩ := hp
  rw [hMe] at hw
  refine W.eq (g2 := F0 m 11 ls [.int (iI (lb (4 * k)))]) rfl ?_
  refine lv_aload_n hx hb d_CR_closingsAt_11 rfl (lv_at hl 1 rfl) ?_
  refine lv_aload_n hx hb d_CR_closingsAt_12 rfl (lv_at hl 1 rfl) ?_
  refine lv_iload_n hx hb d_CR_closingsAt_13 rfl (lv_at hl 2 rfl) ?_
  refine zq_callV (As := [.int (iI k)]) (rest := [.ref o, .int (iI (lb (4 * k)))]) ⟨hx, hb, hml, hown, hts⟩ (c_CR_upperOut l D K M o sA lA cnt sg lb k h_o h_s h_l hC ⟨by omega, by omega⟩) (cwV 1 hts (zg_V tw_564 tw_327 tw_328 tw_2 tw_329) rfl rfl rfl (by decide +kernel) ⟨Nat.le_of_ble_eq_true rfl, Nat.le_of_ble_eq_true rfl⟩) hZ hw hA h_o rfl rfl rfl rfl hl.1 (Nat.le_of_ble_eq_true rfl) d_CR_closingsAt_14 ⟨Nat.le_of_ble_eq_true rfl, Nat.le_of_ble_eq_true rfl⟩ (fun v M3 H locs hp hw => ?_)
  obtain ⟨rfl, hMe⟩ := hp
  rw [hMe] at hw
  refine W.eq (g2 := F0 m 17 ls [.int (iI (4 * k + zuo (sg k))), .ref o, .int (iI (lb (4 * k)))]) rfl ?_
  refine zq_callV (As := [.int (iI (4 * k + zuo (sg k)))]) (rest := [.int (iI (lb (4 * k)))]) ⟨hx, hb, hml, hown, hts⟩ (c_CR_labelAt l D K M o sA lA cnt sg lb (4 * k + zuo (sg k)) h_o h_s h_l hC ⟨by omega, by omega⟩) (cwV 1 hts (zg_V tw_555 tw_248 tw_249 tw_2 tw_250) rfl rfl rfl (by decide +kernel) ⟨Nat.le_of_ble_eq_true rfl, Nat.le_of_ble_eq_true rfl⟩) hZ hw hA h_o rfl rfl rfl rfl hl.1 (Nat.le_of_ble_eq_true rfl) d_CR_closingsAt_17 ⟨Nat.le_of_ble_eq_true rfl, Nat.le_of_ble_eq_true rfl⟩ (fun v M4 H locs hp hw => ?_)
  obtain ⟨rfl, hMe⟩ := hp
  rw [hMe] at hw
  refine W.eq (g2 := F0 m 20 ls [.int (iI (lb (4 * k + zuo (sg k)))), .int (iI (lb (4 * k)))]) rfl ?_
  refine zq_icmp_ne (tgt := 26) hx hb d_CR_closingsAt_20 (by decide) (hc4 _) (hc4 _) (fun hc5 => ?_) (fun hc5 => ?_)
  · refine lv_aload_n hx hb d_CR_closingsAt_26 rfl (lv_at hl 1 rfl) ?_
    refine lv_aload_n hx hb d_CR_closingsAt_27 rfl (lv_at hl 1 rfl) ?_
    refine lv_iload_n hx hb d_CR_closingsAt_28 rfl (lv_at hl 2 rfl) ?_
    refine zq_callV (As := [.int (iI k)]) (rest := [.ref o]) ⟨hx, hb, hml, hown, hts⟩ (c_CR_upperIn l D K M o sA lA cnt sg lb k h_o h_s h_l hC ⟨by omega, by omega⟩) (cwV 1 hts (zg_V tw_264 tw_265 tw_266 tw_2 tw_267) rfl rfl rfl (by decide +kernel) ⟨Nat.le_of_ble_eq_true rfl, Nat.le_of_ble_eq_true rfl⟩) hZ hw hA h_o rfl rfl rfl rfl hl.1 (Nat.le_of_ble_eq_true rfl) d_CR_closingsAt_29 ⟨Nat.le_of_ble_eq_true rfl, Nat.le_of_ble_eq_true rfl⟩ (fun v M6 H locs hp hw => ?_)
    obtain ⟨rfl, hMe⟩ := hp
    rw [hMe] at hw
    refine W.eq (g2 := F0 m 32 ls [.int (iI (4 * k + zup (sg k))), .ref o]) rfl ?_
    refine zq_callV (As := [.int (iI (4 * k + zup (sg k)))]) (rest := []) ⟨hx, hb, hml, hown, hts⟩ (c_CR_labelAt l D K M o sA lA cnt sg lb (4 * k + zup (sg k)) h_o h_s h_l hC ⟨by omega, by omega⟩) (cwV 1 hts (zg_V tw_555 tw_248 tw_249 tw_2 tw_250) rfl rfl rfl (by decide +kernel) ⟨Nat.le_of_ble_eq_true rfl, Nat.le_of_ble_eq_true rfl⟩) hZ hw hA h_o rfl rfl rfl rfl hl.1 (Nat.le_of_ble_eq_true rfl) d_CR_closingsAt_32 ⟨Nat.le_of_ble_eq_true rfl, Nat.le_of_ble_eq_true rfl⟩ (fun v M7 H locs hp hw => ?_)
    obtain ⟨rfl, hMe⟩ := hp
    rw [hMe] at hw
    refine W.eq (g2 := F0 m 35 ls [.int (iI (lb (4 * k + zup (sg k))))]) rfl ?_
    refine lv_aload_n hx hb d_CR_closingsAt_35 rfl (lv_at hl 1 rfl) ?_
    refine lv_aload_n hx hb d_CR_closingsAt_36 rfl (lv_at hl 1 rfl) ?_
    refine lv_iload_n hx hb d_CR_closingsAt_37 rfl (lv_at hl 2 rfl) ?_
    refine zq_callV (As := [.int (iI k)]) (rest := [.ref o, .int (iI (lb (4 * k + zup (sg k))))]) ⟨hx, hb, hml, hown, hts⟩ (c_CR_lowerOut l D K M o sA lA cnt sg lb k h_o h_s h_l hC ) (cwV 1 hts (zg_V tw_565 tw_358 tw_359 tw_2 tw_360) rfl rfl rfl (by decide +kernel) ⟨Nat.le_of_ble_eq_true rfl, Nat.le_of_ble_eq_true rfl⟩) hZ hw hA h_o rfl rfl rfl rfl hl.1 (Nat.le_of_ble_eq_true rfl) d_CR_closingsAt_38 ⟨Nat.le_of_ble_eq_true rfl, Nat.le_of_ble_eq_true rfl⟩ (fun v M8 H locs hp hw => ?_)
    obtain ⟨rfl, hMe⟩ := hp
    rw [hMe] at hw
    refine W.eq (g2 := F0 m 41 ls [.int (iI (4 * k + 2)), .ref o, .int (iI (lb (4 * k + zup (sg k))))]) rfl ?_
    refine zq_callV (As := [.int (iI (4 * k + 2))]) (rest := [.int (iI (lb (4 * k + zup (sg k))))]) ⟨hx, hb, hml, hown, hts⟩ (c_CR_labelAt l D K M o sA lA cnt sg lb (4 * k + 2) h_o h_s h_l hC ⟨by omega, by omega⟩) (cwV 1 hts (zg_V tw_555 tw_248 tw_249 tw_2 tw_250) rfl rfl rfl (by decide +kernel) ⟨Nat.le_of_ble_eq_true rfl, Nat.le_of_ble_eq_true rfl⟩) hZ hw hA h_o rfl rfl rfl rfl hl.1 (Nat.le_of_ble_eq_true rfl) d_CR_closingsAt_41 ⟨Nat.le_of_ble_eq_true rfl, Nat.le_of_ble_eq_true rfl⟩ (fun v M9 H locs hp hw => ?_)
    obtain ⟨rfl, hMe⟩ := hp
    rw [hMe] at hw
    refine W.eq (g2 := F0 m 44 ls [.int (iI (lb (4 * k + 2))), .int (iI (lb (4 * k + zup (sg k))))]) rfl ?_
    refine zq_icmp_ne (tgt := 50) hx hb d_CR_closingsAt_44 (by decide) (hc4 _) (hc4 _) (fun hc10 => ?_) (fun hc10 => ?_)
    · refine lv_iload_n hx hb d_CR_closingsAt_50 rfl (lv_at hl 0 rfl) ?_
      exact zq_iret hx hb hr hlocks hZ hw ⟨zq_ri (by unfold zcl; simp only [*, if_true, if_false]; first | rfl | omega), rfl⟩ d_CR_closingsAt_51
    · refine lv_iinc (v := iI 1) (lv' := [(2, .int (iI 1)), (0, .ref o), (1, .int (iI k))]) hx hb d_CR_closingsAt_47 hl (k := 0) rfl (by decide) (by decide) rfl (fun ls hl => ?_)
      refine lv_iload_n hx hb d_CR_closingsAt_50 rfl (lv_at hl 0 rfl) ?_
      exact zq_iret hx hb hr hlocks hZ hw ⟨zq_ri (by unfold zcl; simp only [*, if_true, if_false]; first | rfl | omega), rfl⟩ d_CR_closingsAt_51
  · refine lv_iinc (v := iI 1) (lv' := [(2, .int (iI 1)), (0, .ref o), (1, .int (iI k))]) hx hb d_CR_closingsAt_23 hl (k := 0) rfl (by decide) (by decide) rfl (fun ls hl => ?_)
    refine lv_aload_n hx hb d_CR_closingsAt_26 rfl (lv_at hl 1 rfl) ?_
    refine lv_aload_n hx hb d_CR_closingsAt_27 rfl (lv_at hl 1 rfl) ?_
    refine lv_iload_n hx hb d_CR_closingsAt_28 rfl (lv_at hl 2 rfl) ?_
    refine zq_callV (As := [.int (iI k)]) (rest := [.ref o]) ⟨hx, hb, hml, hown, hts⟩ (c_CR_upperIn l D K M o sA lA cnt sg lb k h_o h_s h_l hC ⟨by omega, by omega⟩) (cwV 1 hts (zg_V tw_264 tw_265 tw_266 tw_2 tw_267) rfl rfl rfl (by decide +kernel) ⟨Nat.le_of_ble_eq_true rfl, Nat.le_of_ble_eq_true rfl⟩) hZ hw hA h_o rfl rfl rfl rfl hl.1 (Nat.le_of_ble_eq_true rfl) d_CR_closingsAt_29 ⟨Nat.le_of_ble_eq_true rfl, Nat.le_of_ble_eq_true rfl⟩ (fun v M11 H locs hp hw => ?_)
    obtain ⟨rfl, hMe⟩ := hp
    rw [hMe] at hw
    refine W.eq (g2 := F0 m 32 ls [.int (iI (4 * k + zup (sg k))), .ref o]) rfl ?_
    refine zq_callV (As := [.int (iI (4 * k + zup (sg k)))]) (rest := []) ⟨hx, hb, hml, hown, hts⟩ (c_CR_labelAt l D K M o sA lA cnt sg lb (4 * k + zup (sg k)) h_o h_s h_l hC ⟨by omega, by omega⟩) (cwV 1 hts (zg_V tw_555 tw_248 tw_249 tw_2 tw_250) rfl rfl rfl (by decide +kernel) ⟨Nat.le_of_ble_eq_true rfl, Nat.le_of_ble_eq_true rfl⟩) hZ hw hA h_o rfl rfl rfl rfl hl.1 (Nat.le_of_ble_eq_true rfl) d_CR_closingsAt_32 ⟨Nat.le_of_ble_eq_true rfl, Nat.le_of_ble_eq_true rfl⟩ (fun v M12 H locs hp hw => ?_)
    obtain ⟨rfl, hMe⟩ := hp
    rw [hMe] at hw
    refine W.eq (g2 := F0 m 35 ls [.int (iI (lb (4 * k + zup (sg k))))]) rfl ?_
    refine lv_aload_n hx hb d_CR_closingsAt_35 rfl (lv_at hl 1 rfl) ?_
    refine lv_aload_n hx hb d_CR_closingsAt_36 rfl (lv_at hl 1 rfl) ?_
    refine lv_iload_n hx hb d_CR_closingsAt_37 rfl (lv_at hl 2 rfl) ?_
    refine zq_callV (As := [.int (iI k)]) (rest := [.ref o, .int (iI (lb (4 * k + zup (sg k))))]) ⟨hx, hb, hml, hown, hts⟩ (c_CR_lowerOut l D K M o sA lA cnt sg lb k h_o h_s h_l hC ) (cwV 1 hts (zg_V tw_565 tw_358 tw_359 tw_2 tw_360) rfl rfl rfl (by decide +kernel) ⟨Nat.le_of_ble_eq_true rfl, Nat.le_of_ble_eq_true rfl⟩) hZ hw hA h_o rfl rfl rfl rfl hl.1 (Nat.le_of_ble_eq_true rfl) d_CR_closingsAt_38 ⟨Nat.le_of_ble_eq_true rfl, Nat.le_of_ble_eq_true rfl⟩ (fun v M13 H locs hp hw => ?_)
    obtain ⟨rfl, hMe⟩ := hp
    rw [hMe] at hw
    refine W.eq (g2 := F0 m 41 ls [.int (iI (4 * k + 2)), .ref o, .int (iI (lb (4 * k + zup (sg k))))]) rfl ?_
    refine zq_callV (As := [.int (iI (4 * k + 2))]) (rest := [.int (iI (lb (4 * k + zup (sg k))))]) ⟨hx, hb, hml, hown, hts⟩ (c_CR_labelAt l D K M o sA lA cnt sg lb (4 * k + 2) h_o h_s h_l hC ⟨by omega, by omega⟩) (cwV 1 hts (zg_V tw_555 tw_248 tw_249 tw_2 tw_250) rfl rfl rfl (by decide +kernel) ⟨Nat.le_of_ble_eq_true rfl, Nat.le_of_ble_eq_true rfl⟩) hZ hw hA h_o rfl rfl rfl rfl hl.1 (Nat.le_of_ble_eq_true rfl) d_CR_closingsAt_41 ⟨Nat.le_of_ble_eq_true rfl, Nat.le_of_ble_eq_true rfl⟩ (fun v M14 H locs hp hw => ?_)
    obtain ⟨rfl, hMe⟩ := hp
    rw [hMe] at hw
    refine W.eq (g2 := F0 m 44 ls [.int (iI (lb (4 * k + 2))), .int (iI (lb (4 * k + zup (sg k))))]) rfl ?_
    refine zq_icmp_ne (tgt := 50) hx hb d_CR_closingsAt_44 (by decide) (hc4 _) (hc4 _) (fun hc15 => ?_) (fun hc15 => ?_)
    · refine lv_iload_n hx hb d_CR_closingsAt_50 rfl (lv_at hl 0 rfl) ?_
      exact zq_iret hx hb hr hlocks hZ hw ⟨zq_ri (by unfold zcl; simp only [*, if_true, if_false]; first | rfl | omega), rfl⟩ d_CR_closingsAt_51
    · refine lv_iinc (v := iI 2) (lv' := [(2, .int (iI 2)), (0, .ref o), (1, .int (iI k))]) hx hb d_CR_closingsAt_47 hl (k := 0) rfl (by decide) (by decide) rfl (fun ls hl => ?_)
      refine lv_iload_n hx hb d_CR_closingsAt_50 rfl (lv_at hl 0 rfl) ?_
      exact zq_iret hx hb hr hlocks hZ hw ⟨zq_ri (by unfold zcl; simp only [*, if_true, if_false]; first | rfl | omega), rfl⟩ d_CR_closingsAt_51
abbrev P_CR_clear (K : Nat → ClassId) (M : zq_M) (o : Nat) (sA : Nat) (lA : Nat) (cnt : Int) : Option Value → zq_M → Prop := fun v M' => v = none ∧ M' o = some (.inr (2, [.ref sA, .ref lA, .int (iI 0)])) ∧ ∀ q, q ≠ o → M' q = M q
set_option maxHeartbeats 4000000 in
set_option maxRecDepth 100000 in
theorem c_CR_clear (l : Launch) (D : va_G) (K : Nat → ClassId) (M : zq_M) (o : Nat) (sA : Nat) (lA : Nat) (cnt : Int) (h_o : M o = some (.inr (2, [.ref sA, .ref lA, .int (iI cnt)]))) : zq_Met l y_CR_clear (.code y_CR_clear b_CR_clear 1 none :: lw_gd) { frames := 0, cells := 0, slots := 0, locals := 0 } D vwCl (zT K) [.ref o] M (P_CR_clear K M o sA lA cnt) 0 0 := by
  refine zq_start (cc := b_CR_clear) (maxL := 1) (ret := none) (by decide) rfl (Nat.le_of_ble_eq_true rfl) ?_
  intro p e s m below meth c A ls hx hb hr hml hts hown hnm hlocks hA hZ hw hl
  have hts : ∀ w ∈ lw_gd, w.before [.ref o].toArray s = true := fun w h => hts w (List.mem_cons_of_mem _ h)
  have hown : s.vm.findClass R_CR = some m.cls := hown
  have hK := hZ.1
  have hl : lv_has ls 1 [(0, .ref o)] := hl
  have hfr : ∀ q, q ≠ o → M q = M q := fun q _ => rfl
  refine lv_aload_n hx hb d_CR_clear_0 rfl (lv_at hl 0 rfl) ?_
  refine lv_iconst (v := iI 0) hx hb d_CR_clear_1 rfl ?_
  refine zq_put (ci := 2) (v := .int (iI 0)) (ty := .int) hx hb hts i_CR t_CR t_CR_ok n_CR hown hK hw h_o rfl 2 (by decide) (hts _ tw_30) rfl (by decide +kernel) rfl rfl (Nat.le_of_ble_eq_true rfl) d_CR_clear_2 (fun M1 H locs hs ho hw => ?_)
  have h_o : M1 o = some (.inr (2, [.ref sA, .ref lA, .int (iI 0)])) := hs
  have hfr : ∀ q, q ≠ o → M1 q = M q := fun q g0 => (ho q g0).trans (hfr q g0)
  exact zq_vret hx hb hr hlocks hZ hw ⟨rfl, h_o, hfr⟩ d_CR_clear_5
abbrev P_CR_write (K : Nat → ClassId) (M : zq_M) (o : Nat) (sA : Nat) (lA : Nat) (cnt : Int) (sg : Int → Int) (lb : Int → Int) (k : Int) (s0 : Int) (l0 : Int) (l1 : Int) (l2 : Int) (l3 : Int) : Option Value → zq_M → Prop := fun v M' => v = none ∧ M' sA = some (cI (K 0) 12 (zu sg k s0)) ∧ M' lA = some (cI (K 0) 48 (zw4 lb k l0 l1 l2 l3)) ∧ ∀ q, q ≠ sA → q ≠ lA → M' q = M q
set_option maxHeartbeats 4000000 in
set_option maxRecDepth 100000 in
theorem c_CR_write (l : Launch) (D : va_G) (K : Nat → ClassId) (M : zq_M) (o : Nat) (sA : Nat) (lA : Nat) (cnt : Int) (sg : Int → Int) (lb : Int → Int) (k : Int) (s0 : Int) (l0 : Int) (l1 : Int) (l2 : Int) (l3 : Int) (h_o : M o = some (.inr (2, [.ref sA, .ref lA, .int (iI cnt)]))) (h_s : M sA = some (cI (K 0) 12 sg)) (h_l : M lA = some (cI (K 0) 48 lb)) (hk : 0 ≤ k ∧ k < 12) : zq_Met l y_CR_write (.code y_CR_write b_CR_write 8 none :: lw_gd) { frames := 0, cells := 0, slots := 0, locals := 0 } D vwCl (zT K) [.ref o, .int (iI k), .int (iI s0), .int (iI l0), .int (iI l1), .int (iI l2), .int (iI l3)] M (P_CR_write K M o sA lA cnt sg lb k s0 l0 l1 l2 l3) 0 0 := by
  refine zq_start (cc := b_CR_write) (maxL := 8) (ret := none) (by decide) rfl (Nat.le_of_ble_eq_true rfl) ?_
  intro p e s m below meth c A ls hx hb hr hml hts hown hnm hlocks hA hZ hw hl
  have hts : ∀ w ∈ lw_gd, w.before [.ref o, .int (iI k), .int (iI s0), .int (iI l0), .int (iI l1), .int (iI l2), .int (iI l3)].toArray s = true := fun w h => hts w (List.mem_cons_of_mem _ h)
  have hown : s.vm.findClass R_CR = some m.cls := hown
  have hK := hZ.1
  have hl : lv_has ls 8 [(0, .ref o), (1, .int (iI k)), (2, .int (iI s0)), (3, .int (iI l0)), (4, .int (iI l1)), (5, .int (iI l2)), (6, .int (iI l3))] := hl
  have hfr : ∀ q, q ≠ sA → q ≠ lA → M q = M q := fun q _ _ => rfl
  refine lv_iload_n hx hb d_CR_write_0 rfl (lv_at hl 1 rfl) ?_
  refine zq_if_lt (tgt := 10) hx hb d_CR_write_1 (by decide) ⟨by omega, by omega⟩ (fun hc1 => ?_) (fun hc1 => ?_)
  · exact absurd hc1 (by omega)
  · refine lv_iload_n hx hb d_CR_write_4 rfl (lv_at hl 1 rfl) ?_
    refine lv_bipush (v := iI 12) hx hb d_CR_write_5 (by decide) ?_
    refine zq_icmp_lt (tgt := 11) hx hb d_CR_write_7 (by decide) ⟨by omega, by omega⟩ (by decide) (fun hc2 => ?_) (fun hc2 => ?_)
    · refine lv_iconst (v := iI 4) hx hb d_CR_write_11 rfl ?_
      refine lv_iload_n hx hb d_CR_write_12 rfl (lv_at hl 1 rfl) ?_
      refine zq_imul hx hb d_CR_write_13 ?_
      refine lv_istore (lv' := [(7, .int (iI (4 * k))), (0, .ref o), (1, .int (iI k)), (2, .int (iI s0)), (3, .int (iI l0)), (4, .int (iI l1)), (5, .int (iI l2)), (6, .int (iI l3))]) hx hb d_CR_write_14 hl (by decide) rfl (fun ls hl => ?_)
      refine lv_aload_n hx hb d_CR_write_16 rfl (lv_at hl 1 rfl) ?_
      refine zq_get hx hb hts i_CR hown hK hw h_o rfl 0 (by decide) (hts _ tw_28) rfl d_CR_write_17 ?_
      refine lv_iload_n hx hb d_CR_write_20 rfl (lv_at hl 2 rfl) ?_
      refine lv_iload_n hx hb d_CR_write_21 rfl (lv_at hl 3 rfl) ?_
      refine zq_iast hx hb hK hw 0 h_s rfl (by omega) (by omega) (by decide) d_CR_write_22 (fun M3 H locs hs ho hw => ?_)
      have h_o : M3 o = some (.inr (2, [.ref sA, .ref lA, .int (iI cnt)])) := (ho _ (zq_ne h_o h_s (by simp))).trans h_o
      have h_l : M3 lA = some (cI (K 0) 48 lb) := (ho _ (zq_ne h_l h_s (by simp))).trans h_l
      have h_s : M3 sA = some (cI (K 0) 12 (zu sg k s0)) := hs
      have hfr : ∀ q, q ≠ sA → q ≠ lA → M3 q = M q := fun q g0 g1 => (ho q g0).trans (hfr q g0 g1)
      refine lv_aload_n hx hb d_CR_write_23 rfl (lv_at hl 1 rfl) ?_
      refine zq_get hx hb hts i_CR hown hK hw h_o rfl 1 (by decide) (hts _ tw_29) rfl d_CR_write_24 ?_
      refine lv_iload hx hb d_CR_write_27 (lv_at hl 0 rfl) ?_
      refine lv_iload_n hx hb d_CR_write_29 rfl (lv_at hl 4 rfl) ?_
      refine zq_iast hx hb hK hw 0 h_l rfl (by omega) (by omega) (by decide) d_CR_write_30 (fun M4 H locs hs ho hw => ?_)
      have h_o : M4 o = some (.inr (2, [.ref sA, .ref lA, .int (iI cnt)])) := (ho _ (zq_ne h_o h_l (by simp))).trans h_o
      have h_s : M4 sA = some (cI (K 0) 12 (zu sg k s0)) := (ho _ (zq_ne h_s h_l (by simp))).trans h_s
      have h_l : M4 lA = some (cI (K 0) 48 (zu lb (4 * k) l0)) := hs
      have hfr : ∀ q, q ≠ sA → q ≠ lA → M4 q = M q := fun q g0 g1 => (ho q g1).trans (hfr q g0 g1)
      refine lv_aload_n hx hb d_CR_write_31 rfl (lv_at hl 1 rfl) ?_
      refine zq_get hx hb hts i_CR hown hK hw h_o rfl 1 (by decide) (hts _ tw_29) rfl d_CR_write_32 ?_
      refine lv_iload hx hb d_CR_write_35 (lv_at hl 0 rfl) ?_
      refine lv_iconst (v := iI 1) hx hb d_CR_write_37 rfl ?_
      refine zq_iadd hx hb d_CR_write_38 ?_
      refine lv_iload hx hb d_CR_write_39 (lv_at hl 5 rfl) ?_
      refine zq_iast hx hb hK hw 0 h_l rfl (by omega) (by omega) (by decide) d_CR_write_41 (fun M5 H locs hs ho hw => ?_)
      have h_o : M5 o = some (.inr (2, [.ref sA, .ref lA, .int (iI cnt)])) := (ho _ (zq_ne h_o h_l (by simp))).trans h_o
      have h_s : M5 sA = some (cI (K 0) 12 (zu sg k s0)) := (ho _ (zq_ne h_s h_l (by simp))).trans h_s
      have h_l : M5 lA = some (cI (K 0) 48 (zu (zu lb (4 * k) l0) ((4 * k) + 1) l1)) := hs
      have hfr : ∀ q, q ≠ sA → q ≠ lA → M5 q = M q := fun q g0 g1 => (ho q g1).trans (hfr q g0 g1)
      refine lv_aload_n hx hb d_CR_write_42 rfl (lv_at hl 1 rfl) ?_
      refine zq_get hx hb hts i_CR hown hK hw h_o rfl 1 (by decide) (hts _ tw_29) rfl d_CR_write_43 ?_
      refine lv_iload hx hb d_CR_write_46 (lv_at hl 0 rfl) ?_
      refine lv_iconst (v := iI 2) hx hb d_CR_write_48 rfl ?_
      refine zq_iadd hx hb d_CR_write_49 ?_
      refine lv_iload hx hb d_CR_write_50 (lv_at hl 6 rfl) ?_
      refine zq_iast hx hb hK hw 0 h_l rfl (by omega) (by omega) (by decide) d_CR_write_52 (fun M6 H locs hs ho hw => ?_)
      have h_o : M6 o = some (.inr (2, [.ref sA, .ref lA, .int (iI cnt)])) := (ho _ (zq_ne h_o h_l (by simp))).trans h_o
      have h_s : M6 sA = some (cI (K 0) 12 (zu sg k s0)) := (ho _ (zq_ne h_s h_l (by simp))).trans h_s
      have h_l : M6 lA = some (cI (K 0) 48 (zu (zu (zu lb (4 * k) l0) ((4 * k) + 1) l1) ((4 * k) + 2) l2)) := hs
      have hfr : ∀ q, q ≠ sA → q ≠ lA → M6 q = M q := fun q g0 g1 => (ho q g1).trans (hfr q g0 g1)
      refine lv_aload_n hx hb d_CR_write_53 rfl (lv_at hl 1 rfl) ?_
      refine zq_get hx hb hts i_CR hown hK hw h_o rfl 1 (by decide) (hts _ tw_29) rfl d_CR_write_54 ?_
      refine lv_iload hx hb d_CR_write_57 (lv_at hl 0 rfl) ?_
      refine lv_iconst (v := iI 3) hx hb d_CR_write_59 rfl ?_
      refine zq_iadd hx hb d_CR_write_60 ?_
      refine lv_iload hx hb d_CR_write_61 (lv_at hl 7 rfl) ?_
      refine zq_iast hx hb hK hw 0 h_l rfl (by omega) (by omega) (by decide) d_CR_write_63 (fun M7 H locs hs ho hw => ?_)
      have h_o : M7 o = some (.inr (2, [.ref sA, .ref lA, .int (iI cnt)])) := (ho _ (zq_ne h_o h_l (by simp))).trans h_o
      have h_s : M7 sA = some (cI (K 0) 12 (zu sg k s0)) := (ho _ (zq_ne h_s h_l (by simp))).trans h_s
      have h_l : M7 lA = some (cI (K 0) 48 (zu (zu (zu (zu lb (4 * k) l0) ((4 * k) + 1) l1) ((4 * k) + 2) l2) ((4 * k) + 3) l3)) := hs
      have hfr : ∀ q, q ≠ sA → q ≠ lA → M7 q = M q := fun q g0 g1 => (ho q g1).trans (hfr q g0 g1)
      exact zq_vret hx hb hr hlocks hZ hw ⟨rfl, h_s, h_l, hfr⟩ d_CR_write_64
    · exact absurd hc2 (by omega)
abbrev P_CR_append (K : Nat → ClassId) (M : zq_M) (o : Nat) (sA : Nat) (lA : Nat) (cnt : Int) (sg : Int → Int) (lb : Int → Int) (s0 : Int) (l0 : Int) (l1 : Int) (l2 : Int) (l3 : Int) : Option Value → zq_M → Prop := fun v M' => (12 ≤ cnt ∧ v = some (.int (iI (-1))) ∧ M' = M) ∨ (cnt < 12 ∧ v = some (.int (iI (cnt + 1))) ∧ M' o = some (.inr (2, [.ref sA, .ref lA, .int (iI (cnt + 1))])) ∧ M' sA = some (cI (K 0) 12 (zu sg cnt s0)) ∧ M' lA = some (cI (K 0) 48 (zw4 lb cnt l0 l1 l2 l3)) ∧ ∀ q, q ≠ o → q ≠ sA → q ≠ lA → M' q = M q)
set_option maxHeartbeats 4000000 in
set_option maxRecDepth 100000 in
theorem c_CR_append (l : Launch) (D : va_G) (K : Nat → ClassId) (M : zq_M) (o : Nat) (sA : Nat) (lA : Nat) (cnt : Int) (sg : Int → Int) (lb : Int → Int) (s0 : Int) (l0 : Int) (l1 : Int) (l2 : Int) (l3 : Int) (h_o : M o = some (.inr (2, [.ref sA, .ref lA, .int (iI cnt)]))) (h_s : M sA = some (cI (K 0) 12 sg)) (h_l : M lA = some (cI (K 0) 48 lb)) (hC : zC cnt sg lb) : zq_Met l y_CR_append (.code y_CR_append b_CR_append 6 (some .int) :: lw_gd) { frames := 1, cells := 0, slots := 0, locals := 27 } D vwCl (zT K) [.ref o, .int (iI s0), .int (iI l0), .int (iI l1), .int (iI l2), .int (iI l3)] M (P_CR_append K M o sA lA cnt sg lb s0 l0 l1 l2 l3) 0 0 := by
  refine zq_start (cc := b_CR_append) (maxL := 6) (ret := (some .int)) (by decide) rfl (Nat.le_of_ble_eq_true rfl) ?_
  intro p e s m below meth c A ls hx hb hr hml hts hown hnm hlocks hA hZ hw hl
  have hts : ∀ w ∈ lw_gd, w.before [.ref o, .int (iI s0), .int (iI l0), .int (iI l1), .int (iI l2), .int (iI l3)].toArray s = true := fun w h => hts w (List.mem_cons_of_mem _ h)
  have hown : s.vm.findClass R_CR = some m.cls := hown
  have hK := hZ.1
  have hl : lv_has ls 6 [(0, .ref o), (1, .int (iI s0)), (2, .int (iI l0)), (3, .int (iI l1)), (4, .int (iI l2)), (5, .int (iI l3))] := hl
  have hfr : ∀ q, q ≠ o → q ≠ sA → q ≠ lA → M q = M q := fun q _ _ _ => rfl
  obtain ⟨hc1, hc2, hc3, hc4⟩ := id hC
  refine lv_aload_n hx hb d_CR_append_0 rfl (lv_at hl 0 rfl) ?_
  refine zq_get hx hb hts i_CR hown hK hw h_o rfl 2 (by decide) (hts _ tw_30) rfl d_CR_append_1 ?_
  refine lv_bipush (v := iI 12) hx hb d_CR_append_4 (by decide) ?_
  refine zq_icmp_lt (tgt := 11) hx hb d_CR_append_6 (by decide) ⟨by omega, by omega⟩ (by decide) (fun hc1 => ?_) (fun hc1 => ?_)
  · refine lv_aload_n hx hb d_CR_append_11 rfl (lv_at hl 0 rfl) ?_
    refine lv_aload_n hx hb d_CR_append_12 rfl (lv_at hl 0 rfl) ?_
    refine zq_get hx hb hts i_CR hown hK hw h_o rfl 2 (by decide) (hts _ tw_30) rfl d_CR_append_13 ?_
    refine lv_iload_n hx hb d_CR_append_16 rfl (lv_at hl 1 rfl) ?_
    refine lv_iload_n hx hb d_CR_append_17 rfl (lv_at hl 2 rfl) ?_
    refine lv_iload_n hx hb d_CR_append_18 rfl (lv_at hl 3 rfl) ?_
    refine lv_iload hx hb d_CR_append_19 (lv_at hl 4 rfl) ?_
    refine lv_iload hx hb d_CR_append_21 (lv_at hl 5 rfl) ?_
    refine zq_callV (As := [.int (iI cnt), .int (iI s0), .int (iI l0), .int (iI l1), .int (iI l2), .int (iI l3)]) (rest := []) ⟨hx, hb, hml, hown, hts⟩ (c_CR_write l D K M o sA lA cnt sg lb cnt s0 l0 l1 l2 l3 h_o h_s h_l ⟨by omega, by omega⟩) (cwV 6 hts (zg_V tw_224 tw_226 ts_1 tw_2 tw_227) rfl rfl rfl (by decide +kernel) ⟨Nat.le_of_ble_eq_true rfl, Nat.le_of_ble_eq_true rfl⟩) hZ hw hA h_o rfl rfl rfl rfl hl.1 (Nat.le_of_ble_eq_true rfl) d_CR_append_23 ⟨Nat.le_of_ble_eq_true rfl, Nat.le_of_ble_eq_true rfl⟩ (fun v M2 H locs hp hw => ?_)
    obtain ⟨rfl, hs1, hs2, ho⟩ := hp
    have h_o : M2 o = some (.inr (2, [.ref sA, .ref lA, .int (iI cnt)])) := (ho _ (zq_ne h_o h_s (by simp)) (zq_ne h_o h_l (by simp))).trans h_o
    have h_s : M2 sA = some (cI (K 0) 12 (zu sg cnt s0)) := hs1
    have h_l : M2 lA = some (cI (K 0) 48 (zw4 lb cnt l0 l1 l2 l3)) := hs2
    have hfr : ∀ q, q ≠ o → q ≠ sA → q ≠ lA → M2 q = M q := fun q g0 g1 g2 => (ho q g1 g2).trans (hfr q g0 g1 g2)
    refine W.eq (g2 := F0 m 26 ls []) rfl ?_
    refine lv_aload_n hx hb d_CR_append_26 rfl (lv_at hl 0 rfl) ?_
    refine lv_dup hx hb d_CR_append_27 rfl ?_
    refine zq_get hx hb hts i_CR hown hK hw h_o rfl 2 (by decide) (hts _ tw_30) rfl d_CR_append_28 ?_
    refine lv_iconst (v := iI 1) hx hb d_CR_append_31 rfl ?_
    refine zq_iadd hx hb d_CR_append_32 ?_
    refine zq_put (ci := 2) (v := .int (iI (cnt + 1))) (ty := .int) hx hb hts i_CR t_CR t_CR_ok n_CR hown hK hw h_o rfl 2 (by decide) (hts _ tw_30) rfl (by decide +kernel) rfl rfl (Nat.le_of_ble_eq_true rfl) d_CR_append_33 (fun M3 H locs hs ho hw => ?_)
    have h_s : M3 sA = some (cI (K 0) 12 (zu sg cnt s0)) := (ho _ (zq_ne h_s h_o (by simp))).trans h_s
    have h_l : M3 lA = some (cI (K 0) 48 (zw4 lb cnt l0 l1 l2 l3)) := (ho _ (zq_ne h_l h_o (by simp))).trans h_l
    have h_o : M3 o = some (.inr (2, [.ref sA, .ref lA, .int (iI (cnt + 1))])) := hs
    have hfr : ∀ q, q ≠ o → q ≠ sA → q ≠ lA → M3 q = M q := fun q g0 g1 g2 => (ho q g0).trans (hfr q g0 g1 g2)
    refine lv_aload_n hx hb d_CR_append_36 rfl (lv_at hl 0 rfl) ?_
    refine zq_get hx hb hts i_CR hown hK hw h_o rfl 2 (by decide) (hts _ tw_30) rfl d_CR_append_37 ?_
    exact zq_iret hx hb hr hlocks hZ hw (Or.inr ⟨by omega, rfl, h_o, h_s, h_l, hfr⟩) d_CR_append_40
  · refine lv_iconst (v := iI (-1)) hx hb d_CR_append_9 rfl ?_
    exact zq_iret hx hb hr hlocks hZ hw (Or.inl ⟨by omega, rfl, rfl⟩) d_CR_append_10
