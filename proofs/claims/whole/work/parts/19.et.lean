abbrev P_ET_rows (K : Nat → ClassId) (M : zq_M) (o : Nat) (gA : Nat) (kA : Nat) (rw0 : Int) (co0 : Int) : Option Value → zq_M → Prop := fun v M' => v = some (.int (iI rw0)) ∧ M' = M
set_option maxHeartbeats 4000000 in
set_option maxRecDepth 100000 in
theorem c_ET_rows (l : Launch) (D : va_G) (K : Nat → ClassId) (M : zq_M) (o : Nat) (gA : Nat) (kA : Nat) (rw0 : Int) (co0 : Int) (h_o : M o = some (.inr (5, [.ref gA, .ref kA, .int (iI rw0), .int (iI co0)]))) (hrw : 0 ≤ rw0 ∧ rw0 ≤ 12 ∧ 0 ≤ co0 ∧ co0 ≤ 33) : zq_Met l y_ET_rows (.code y_ET_rows b_ET_rows 1 (some .int) :: lw_gd) { frames := 0, cells := 0, slots := 0, locals := 0 } D vwCl (zT K) [.ref o] M (P_ET_rows K M o gA kA rw0 co0) 0 0 := by
  refine zq_start (cc := b_ET_rows) (maxL := 1) (ret := (some .int)) (by decide) rfl (Nat.le_of_ble_eq_true rfl) ?_
  intro p e s m below meth co A ls hx hb hr hml hts hown hnm hlocks hA hZ hw hl
  have hts : ∀ w ∈ lw_gd, w.before [.ref o].toArray s = true := fun w h => hts w (List.mem_cons_of_mem _ h)
  have hown : s.vm.findClass R_ET = some m.cls := hown
  have hK := hZ.1
  have hl : lv_has ls 1 [(0, .ref o)] := hl
  refine lv_aload_n hx hb d_ET_rows_0 rfl (lv_at hl 0 rfl) ?_
  refine zq_get hx hb hts i_ET hown hK hw h_o rfl 2 (by decide) (hts _ tw_91) rfl d_ET_rows_1 ?_
  exact zq_iret hx hb hr hlocks hZ hw ⟨rfl, rfl⟩ d_ET_rows_4
abbrev P_ET_columns (K : Nat → ClassId) (M : zq_M) (o : Nat) (gA : Nat) (kA : Nat) (rw0 : Int) (co0 : Int) : Option Value → zq_M → Prop := fun v M' => v = some (.int (iI co0)) ∧ M' = M
set_option maxHeartbeats 4000000 in
set_option maxRecDepth 100000 in
theorem c_ET_columns (l : Launch) (D : va_G) (K : Nat → ClassId) (M : zq_M) (o : Nat) (gA : Nat) (kA : Nat) (rw0 : Int) (co0 : Int) (h_o : M o = some (.inr (5, [.ref gA, .ref kA, .int (iI rw0), .int (iI co0)]))) (hrw : 0 ≤ rw0 ∧ rw0 ≤ 12 ∧ 0 ≤ co0 ∧ co0 ≤ 33) : zq_Met l y_ET_columns (.code y_ET_columns b_ET_columns 1 (some .int) :: lw_gd) { frames := 0, cells := 0, slots := 0, locals := 0 } D vwCl (zT K) [.ref o] M (P_ET_columns K M o gA kA rw0 co0) 0 0 := by
  refine zq_start (cc := b_ET_columns) (maxL := 1) (ret := (some .int)) (by decide) rfl (Nat.le_of_ble_eq_true rfl) ?_
  intro p e s m below meth co A ls hx hb hr hml hts hown hnm hlocks hA hZ hw hl
  have hts : ∀ w ∈ lw_gd, w.before [.ref o].toArray s = true := fun w h => hts w (List.mem_cons_of_mem _ h)
  have hown : s.vm.findClass R_ET = some m.cls := hown
  have hK := hZ.1
  have hl : lv_has ls 1 [(0, .ref o)] := hl
  refine lv_aload_n hx hb d_ET_columns_0 rfl (lv_at hl 0 rfl) ?_
  refine zq_get hx hb hts i_ET hown hK hw h_o rfl 3 (by decide) (hts _ tw_92) rfl d_ET_columns_1 ?_
  exact zq_iret hx hb hr hlocks hZ hw ⟨rfl, rfl⟩ d_ET_columns_4
abbrev P_ET_has (K : Nat → ClassId) (M : zq_M) (o : Nat) (gA : Nat) (kA : Nat) (rw0 : Int) (co0 : Int) (r : Int) (q0 : Int) : Option Value → zq_M → Prop := fun v M' => v = some (.int (iI (if 0 ≤ r ∧ r < rw0 ∧ 0 ≤ q0 ∧ q0 < co0 then 1 else 0))) ∧ M' = M
set_option maxHeartbeats 4000000 in
set_option maxRecDepth 100000 in
theorem c_ET_has (l : Launch) (D : va_G) (K : Nat → ClassId) (M : zq_M) (o : Nat) (gA : Nat) (kA : Nat) (rw0 : Int) (co0 : Int) (r : Int) (q0 : Int) (h_o : M o = some (.inr (5, [.ref gA, .ref kA, .int (iI rw0), .int (iI co0)]))) (hrw : 0 ≤ rw0 ∧ rw0 ≤ 12 ∧ 0 ≤ co0 ∧ co0 ≤ 33) (hr0 : inI r) (hq0 : inI q0) : zq_Met l y_ET_has (.code y_ET_has b_ET_has 3 (some .boolean) :: lw_gd) { frames := 0, cells := 0, slots := 0, locals := 0 } D vwCl (zT K) [.ref o, .int (iI r), .int (iI q0)] M (P_ET_has K M o gA kA rw0 co0 r q0) 0 0 := by
  refine zq_start (cc := b_ET_has) (maxL := 3) (ret := (some .boolean)) (by decide) rfl (Nat.le_of_ble_eq_true rfl) ?_
  intro p e s m below meth co A ls hx hb hr hml hts hown hnm hlocks hA hZ hw hl
  have hts : ∀ w ∈ lw_gd, w.before [.ref o, .int (iI r), .int (iI q0)].toArray s = true := fun w h => hts w (List.mem_cons_of_mem _ h)
  have hown : s.vm.findClass R_ET = some m.cls := hown
  have hK := hZ.1
  have hl : lv_has ls 3 [(0, .ref o), (1, .int (iI r)), (2, .int (iI q0))] := hl
  refine lv_iload_n hx hb d_ET_has_0 rfl (lv_at hl 1 rfl) ?_
  refine zq_if_lt (tgt := 28) hx hb d_ET_has_1 (by decide) hr0 (fun hc1 => ?_) (fun hc1 => ?_)
  · refine lv_iconst (v := iI 0) hx hb d_ET_has_28 rfl ?_
    exact zq_zret hx hb hr rfl hlocks hZ hw ⟨zq_ri (by rw [if_neg (by omega)]), rfl⟩ d_ET_has_29
  · refine lv_iload_n hx hb d_ET_has_4 rfl (lv_at hl 1 rfl) ?_
    refine lv_aload_n hx hb d_ET_has_5 rfl (lv_at hl 0 rfl) ?_
    refine zq_get hx hb hts i_ET hown hK hw h_o rfl 2 (by decide) (hts _ tw_91) rfl d_ET_has_6 ?_
    refine zq_icmp_ge (tgt := 28) hx hb d_ET_has_9 (by decide) hr0 ⟨by omega, by omega⟩ (fun hc2 => ?_) (fun hc2 => ?_)
    · refine lv_iconst (v := iI 0) hx hb d_ET_has_28 rfl ?_
      exact zq_zret hx hb hr rfl hlocks hZ hw ⟨zq_ri (by rw [if_neg (by omega)]), rfl⟩ d_ET_has_29
    · refine lv_iload_n hx hb d_ET_has_12 rfl (lv_at hl 2 rfl) ?_
      refine zq_if_lt (tgt := 28) hx hb d_ET_has_13 (by decide) hq0 (fun hc3 => ?_) (fun hc3 => ?_)
      · refine lv_iconst (v := iI 0) hx hb d_ET_has_28 rfl ?_
        exact zq_zret hx hb hr rfl hlocks hZ hw ⟨zq_ri (by rw [if_neg (by omega)]), rfl⟩ d_ET_has_29
      · refine lv_iload_n hx hb d_ET_has_16 rfl (lv_at hl 2 rfl) ?_
        refine lv_aload_n hx hb d_ET_has_17 rfl (lv_at hl 0 rfl) ?_
        refine zq_get hx hb hts i_ET hown hK hw h_o rfl 3 (by decide) (hts _ tw_92) rfl d_ET_has_18 ?_
        refine zq_icmp_ge (tgt := 28) hx hb d_ET_has_21 (by decide) hq0 ⟨by omega, by omega⟩ (fun hc4 => ?_) (fun hc4 => ?_)
        · refine lv_iconst (v := iI 0) hx hb d_ET_has_28 rfl ?_
          exact zq_zret hx hb hr rfl hlocks hZ hw ⟨zq_ri (by rw [if_neg (by omega)]), rfl⟩ d_ET_has_29
        · refine lv_iconst (v := iI 1) hx hb d_ET_has_24 rfl ?_
          refine lv_goto (tgt := 29) hx hb d_ET_has_25 (by decide) ?_
          exact zq_zret hx hb hr rfl hlocks hZ hw ⟨zq_ri (by rw [if_pos (by omega)]), rfl⟩ d_ET_has_29
abbrev P_ET_constantAt (K : Nat → ClassId) (M : zq_M) (o : Nat) (gA : Nat) (kA : Nat) (ra : Int → Nat) (rb : Int → Nat) (rw0 : Int) (co0 : Int) (F : Int → Int → Int) (G : Int → Int → Int) (r : Int) (q0 : Int) : Option Value → zq_M → Prop := fun v M' => v = some (.int (iI (zat F rw0 co0 r q0))) ∧ M' = M
set_option maxHeartbeats 4000000 in
set_option maxRecDepth 100000 in
theorem c_ET_constantAt (l : Launch) (D : va_G) (K : Nat → ClassId) (M : zq_M) (o : Nat) (gA : Nat) (kA : Nat) (ra : Int → Nat) (rb : Int → Nat) (rw0 : Int) (co0 : Int) (F : Int → Int → Int) (G : Int → Int → Int) (r : Int) (q0 : Int) (h_o : M o = some (.inr (5, [.ref gA, .ref kA, .int (iI rw0), .int (iI co0)]))) (hG1 : zG K M gA ra F) (hG2 : zG K M kA rb G) (hE : zE rw0 co0 ra rb F G) (hr0 : inI r) (hq0 : inI q0) : zq_Met l y_ET_constantAt (.code y_ET_constantAt b_ET_constantAt 3 (some .int) :: lw_gd) { frames := 1, cells := 0, slots := 0, locals := 22 } D vwCl (zT K) [.ref o, .int (iI r), .int (iI q0)] M (P_ET_constantAt K M o gA kA ra rb rw0 co0 F G r q0) 0 0 := by
  refine zq_start (cc := b_ET_constantAt) (maxL := 3) (ret := (some .int)) (by decide) rfl (Nat.le_of_ble_eq_true rfl) ?_
  intro p e s m below meth co A ls hx hb hr hml hts hown hnm hlocks hA hZ hw hl
  have hts : ∀ w ∈ lw_gd, w.before [.ref o, .int (iI r), .int (iI q0)].toArray s = true := fun w h => hts w (List.mem_cons_of_mem _ h)
  have hown : s.vm.findClass R_ET = some m.cls := hown
  have hK := hZ.1
  have hl : lv_has ls 3 [(0, .ref o), (1, .int (iI r)), (2, .int (iI q0))] := hl
  obtain ⟨he1, he2, he3, he4, he5, he6, he7⟩ := id hE
  have h_g := hG1.1
  have h_k := hG2.1
  refine lv_aload_n hx hb d_ET_constantAt_0 rfl (lv_at hl 0 rfl) ?_
  refine lv_iload_n hx hb d_ET_constantAt_1 rfl (lv_at hl 1 rfl) ?_
  refine lv_iload_n hx hb d_ET_constantAt_2 rfl (lv_at hl 2 rfl) ?_
  refine zq_callV (As := [.int (iI r), .int (iI q0)]) (rest := []) ⟨hx, hb, hml, hown, hts⟩ (c_ET_has l D K M o gA kA rw0 co0 r q0 h_o (by omega) hr0 hq0) (cwV 2 hts (zg_V tw_366 tw_367 tw_368 tw_5 tw_369) rfl rfl rfl (by decide +kernel) ⟨Nat.le_of_ble_eq_true rfl, Nat.le_of_ble_eq_true rfl⟩) hZ hw hA h_o rfl rfl rfl rfl hl.1 (Nat.le_of_ble_eq_true rfl) d_ET_constantAt_3 ⟨Nat.le_of_ble_eq_true rfl, Nat.le_of_ble_eq_true rfl⟩ (fun v M1 H locs hp hw => ?_)
  obtain ⟨rfl, hMe⟩ := hp
  rw [hMe] at hw
  refine W.eq (g2 := F0 m 6 ls [.int (iI (if 0 ≤ r ∧ r < rw0 ∧ 0 ≤ q0 ∧ q0 < co0 then 1 else 0))]) rfl ?_
  refine zq_if_eq (tgt := 20) hx hb d_ET_constantAt_6 (by decide) (by split <;> decide) (fun hc2 => ?_) (fun hc2 => ?_)
  · have hn0 : ¬ (0 ≤ r ∧ r < rw0 ∧ 0 ≤ q0 ∧ q0 < co0) := fun z => by rw [if_pos z] at hc2; omega
    refine lv_iconst (v := iI 0) hx hb d_ET_constantAt_20 rfl ?_
    exact zq_iret hx hb hr hlocks hZ hw ⟨zq_ri (by unfold zat; rw [if_neg hn0]), rfl⟩ d_ET_constantAt_21
  · have hn1 : 0 ≤ r ∧ r < rw0 ∧ 0 ≤ q0 ∧ q0 < co0 := Decidable.byContradiction fun z => by rw [if_neg z] at hc2; exact hc2 rfl
    have h_r : M (ra r) = some (cI (K 0) 33 (F r)) := hG1.2.1 r (by omega) (by omega)
    refine lv_aload_n hx hb d_ET_constantAt_9 rfl (lv_at hl 0 rfl) ?_
    refine zq_get hx hb hts i_ET hown hK hw h_o rfl 0 (by decide) (hts _ tw_89) rfl d_ET_constantAt_10 ?_
    refine lv_iload_n hx hb d_ET_constantAt_13 rfl (lv_at hl 1 rfl) ?_
    refine zq_aald hx hb hK hw 4 rfl h_g rfl (by omega) (by omega) (by decide) rfl d_ET_constantAt_14 ?_
    refine lv_iload_n hx hb d_ET_constantAt_15 rfl (lv_at hl 2 rfl) ?_
    refine zq_iald hx hb hK hw 0 h_r rfl (by omega) (by omega) (by decide) d_ET_constantAt_16 ?_
    refine lv_goto (tgt := 21) hx hb d_ET_constantAt_17 (by decide) ?_
    exact zq_iret hx hb hr hlocks hZ hw ⟨zq_ri (by unfold zat; rw [if_pos hn1]), rfl⟩ d_ET_constantAt_21
abbrev P_ET_slopeAt (K : Nat → ClassId) (M : zq_M) (o : Nat) (gA : Nat) (kA : Nat) (ra : Int → Nat) (rb : Int → Nat) (rw0 : Int) (co0 : Int) (F : Int → Int → Int) (G : Int → Int → Int) (r : Int) (q0 : Int) : Option Value → zq_M → Prop := fun v M' => v = some (.int (iI (zat G rw0 co0 r q0))) ∧ M' = M
set_option maxHeartbeats 4000000 in
set_option maxRecDepth 100000 in
theorem c_ET_slopeAt (l : Launch) (D : va_G) (K : Nat → ClassId) (M : zq_M) (o : Nat) (gA : Nat) (kA : Nat) (ra : Int → Nat) (rb : Int → Nat) (rw0 : Int) (co0 : Int) (F : Int → Int → Int) (G : Int → Int → Int) (r : Int) (q0 : Int) (h_o : M o = some (.inr (5, [.ref gA, .ref kA, .int (iI rw0), .int (iI co0)]))) (hG1 : zG K M gA ra F) (hG2 : zG K M kA rb G) (hE : zE rw0 co0 ra rb F G) (hr0 : inI r) (hq0 : inI q0) : zq_Met l y_ET_slopeAt (.code y_ET_slopeAt b_ET_slopeAt 3 (some .int) :: lw_gd) { frames := 1, cells := 0, slots := 0, locals := 22 } D vwCl (zT K) [.ref o, .int (iI r), .int (iI q0)] M (P_ET_slopeAt K M o gA kA ra rb rw0 co0 F G r q0) 0 0 := by
  refine zq_start (cc := b_ET_slopeAt) (maxL := 3) (ret := (some .int)) (by decide) rfl (Nat.le_of_ble_eq_true rfl) ?_
  intro p e s m below meth co A ls hx hb hr hml hts hown hnm hlocks hA hZ hw hl
  have hts : ∀ w ∈ lw_gd, w.before [.ref o, .int (iI r), .int (iI q0)].toArray s = true := fun w h => hts w (List.mem_cons_of_mem _ h)
  have hown : s.vm.findClass R_ET = some m.cls := hown
  have hK := hZ.1
  have hl : lv_has ls 3 [(0, .ref o), (1, .int (iI r)), (2, .int (iI q0))] := hl
  obtain ⟨he1, he2, he3, he4, he5, he6, he7⟩ := id hE
  have h_g := hG1.1
  have h_k := hG2.1
  refine lv_aload_n hx hb d_ET_slopeAt_0 rfl (lv_at hl 0 rfl) ?_
  refine lv_iload_n hx hb d_ET_slopeAt_1 rfl (lv_at hl 1 rfl) ?_
  refine lv_iload_n hx hb d_ET_slopeAt_2 rfl (lv_at hl 2 rfl) ?_
  refine zq_callV (As := [.int (iI r), .int (iI q0)]) (rest := []) ⟨hx, hb, hml, hown, hts⟩ (c_ET_has l D K M o gA kA rw0 co0 r q0 h_o (by omega) hr0 hq0) (cwV 2 hts (zg_V tw_366 tw_367 tw_368 tw_5 tw_369) rfl rfl rfl (by decide +kernel) ⟨Nat.le_of_ble_eq_true rfl, Nat.le_of_ble_eq_true rfl⟩) hZ hw hA h_o rfl rfl rfl rfl hl.1 (Nat.le_of_ble_eq_true rfl) d_ET_slopeAt_3 ⟨Nat.le_of_ble_eq_true rfl, Nat.le_of_ble_eq_true rfl⟩ (fun v M1 H locs hp hw => ?_)
  obtain ⟨rfl, hMe⟩ := hp
  rw [hMe] at hw
  refine W.eq (g2 := F0 m 6 ls [.int (iI (if 0 ≤ r ∧ r < rw0 ∧ 0 ≤ q0 ∧ q0 < co0 then 1 else 0))]) rfl ?_
  refine zq_if_eq (tgt := 20) hx hb d_ET_slopeAt_6 (by decide) (by split <;> decide) (fun hc2 => ?_) (fun hc2 => ?_)
  · have hn0 : ¬ (0 ≤ r ∧ r < rw0 ∧ 0 ≤ q0 ∧ q0 < co0) := fun z => by rw [if_pos z] at hc2; omega
    refine lv_iconst (v := iI 0) hx hb d_ET_slopeAt_20 rfl ?_
    exact zq_iret hx hb hr hlocks hZ hw ⟨zq_ri (by unfold zat; rw [if_neg hn0]), rfl⟩ d_ET_slopeAt_21
  · have hn1 : 0 ≤ r ∧ r < rw0 ∧ 0 ≤ q0 ∧ q0 < co0 := Decidable.byContradiction fun z => by rw [if_neg z] at hc2; exact hc2 rfl
    have h_r : M (rb r) = some (cI (K 0) 33 (G r)) := hG2.2.1 r (by omega) (by omega)
    refine lv_aload_n hx hb d_ET_slopeAt_9 rfl (lv_at hl 0 rfl) ?_
    refine zq_get hx hb hts i_ET hown hK hw h_o rfl 1 (by decide) (hts _ tw_90) rfl d_ET_slopeAt_10 ?_
    refine lv_iload_n hx hb d_ET_slopeAt_13 rfl (lv_at hl 1 rfl) ?_
    refine zq_aald hx hb hK hw 4 rfl h_k rfl (by omega) (by omega) (by decide) rfl d_ET_slopeAt_14 ?_
    refine lv_iload_n hx hb d_ET_slopeAt_15 rfl (lv_at hl 2 rfl) ?_
    refine zq_iald hx hb hK hw 0 h_r rfl (by omega) (by omega) (by decide) d_ET_slopeAt_16 ?_
    refine lv_goto (tgt := 21) hx hb d_ET_slopeAt_17 (by decide) ?_
    exact zq_iret hx hb hr hlocks hZ hw ⟨zq_ri (by unfold zat; rw [if_pos hn1]), rfl⟩ d_ET_slopeAt_21
abbrev P_ET_add (K : Nat → ClassId) (M : zq_M) (o : Nat) (gA : Nat) (kA : Nat) (ra : Int → Nat) (rb : Int → Nat) (rw0 : Int) (co0 : Int) (f1 : Int → Int) (f2 : Int → Int) (r : Int) (q0 : Int) (x : Int) (y : Int) : Option Value → zq_M → Prop := fun v M' => v = none ∧ M' (ra r) = some (cI (K 0) 33 (zu f1 q0 (f1 q0 + x))) ∧ M' (rb r) = some (cI (K 0) 33 (zu f2 q0 (f2 q0 + y))) ∧ ∀ q, q ≠ ra r → q ≠ rb r → M' q = M q
set_option maxHeartbeats 4000000 in
set_option maxRecDepth 100000 in
theorem c_ET_add (l : Launch) (D : va_G) (K : Nat → ClassId) (M : zq_M) (o : Nat) (gA : Nat) (kA : Nat) (ra : Int → Nat) (rb : Int → Nat) (rw0 : Int) (co0 : Int) (f1 : Int → Int) (f2 : Int → Int) (r : Int) (q0 : Int) (x : Int) (y : Int) (h_o : M o = some (.inr (5, [.ref gA, .ref kA, .int (iI rw0), .int (iI co0)]))) (h_g : M gA = some (cQ (K 4) 12 (fun i => some (ra i)))) (h_k : M kA = some (cQ (K 4) 12 (fun i => some (rb i)))) (h_r : M (ra r) = some (cI (K 0) 33 f1)) (h_t : M (rb r) = some (cI (K 0) 33 f2)) (hrb : ra r ≠ rb r) (hrw : 0 ≤ rw0 ∧ rw0 ≤ 12 ∧ 0 ≤ co0 ∧ co0 ≤ 33) (hn1 : 0 ≤ r ∧ r < rw0 ∧ 0 ≤ q0 ∧ q0 < co0) : zq_Met l y_ET_add (.code y_ET_add b_ET_add 5 none :: lw_gd) { frames := 1, cells := 0, slots := 0, locals := 22 } D vwCl (zT K) [.ref o, .int (iI r), .int (iI q0), .int (iI x), .int (iI y)] M (P_ET_add K M o gA kA ra rb rw0 co0 f1 f2 r q0 x y) 0 0 := by
  refine zq_start (cc := b_ET_add) (maxL := 5) (ret := none) (by decide) rfl (Nat.le_of_ble_eq_true rfl) ?_
  intro p e s m below meth co A ls hx hb hr hml hts hown hnm hlocks hA hZ hw hl
  have hts : ∀ w ∈ lw_gd, w.before [.ref o, .int (iI r), .int (iI q0), .int (iI x), .int (iI y)].toArray s = true := fun w h => hts w (List.mem_cons_of_mem _ h)
  have hown : s.vm.findClass R_ET = some m.cls := hown
  have hK := hZ.1
  have hl : lv_has ls 5 [(0, .ref o), (1, .int (iI r)), (2, .int (iI q0)), (3, .int (iI x)), (4, .int (iI y))] := hl
  have hfr : ∀ q, q ≠ (ra r) → q ≠ (rb r) → M q = M q := fun q _ _ => rfl
  refine lv_aload_n hx hb d_ET_add_0 rfl (lv_at hl 0 rfl) ?_
  refine lv_iload_n hx hb d_ET_add_1 rfl (lv_at hl 1 rfl) ?_
  refine lv_iload_n hx hb d_ET_add_2 rfl (lv_at hl 2 rfl) ?_
  refine zq_callV (As := [.int (iI r), .int (iI q0)]) (rest := []) ⟨hx, hb, hml, hown, hts⟩ (c_ET_has l D K M o gA kA rw0 co0 r q0 h_o (by omega) ⟨by omega, by omega⟩ ⟨by omega, by omega⟩) (cwV 2 hts (zg_V tw_366 tw_367 tw_368 tw_5 tw_369) rfl rfl rfl (by decide +kernel) ⟨Nat.le_of_ble_eq_true rfl, Nat.le_of_ble_eq_true rfl⟩) hZ hw hA h_o rfl rfl rfl rfl hl.1 (Nat.le_of_ble_eq_true rfl) d_ET_add_3 ⟨Nat.le_of_ble_eq_true rfl, Nat.le_of_ble_eq_true rfl⟩ (fun v M1 H locs hp hw => ?_)
  obtain ⟨rfl, hMe⟩ := hp
  rw [hMe] at hw
  refine W.eq (g2 := F0 m 6 ls [.int (iI (if 0 ≤ r ∧ r < rw0 ∧ 0 ≤ q0 ∧ q0 < co0 then 1 else 0))]) rfl ?_
  refine zq_if_eq (tgt := 34) hx hb d_ET_add_6 (by decide) (by split <;> decide) (fun hc2 => ?_) (fun hc2 => ?_)
  · exact absurd hc2 (by rw [if_pos hn1]; decide)
  · refine lv_aload_n hx hb d_ET_add_9 rfl (lv_at hl 0 rfl) ?_
    refine zq_get hx hb hts i_ET hown hK hw h_o rfl 0 (by decide) (hts _ tw_89) rfl d_ET_add_10 ?_
    refine lv_iload_n hx hb d_ET_add_13 rfl (lv_at hl 1 rfl) ?_
    refine zq_aald hx hb hK hw 4 rfl h_g rfl (by omega) (by omega) (by decide) rfl d_ET_add_14 ?_
    refine lv_iload_n hx hb d_ET_add_15 rfl (lv_at hl 2 rfl) ?_
    refine lv_dup2_11 hx hb d_ET_add_16 rfl rfl ?_
    refine zq_iald hx hb hK hw 0 h_r rfl (by omega) (by omega) (by decide) d_ET_add_17 ?_
    refine lv_iload_n hx hb d_ET_add_18 rfl (lv_at hl 3 rfl) ?_
    refine zq_iadd hx hb d_ET_add_19 ?_
    refine zq_iast hx hb hK hw 0 h_r rfl (by omega) (by omega) (by decide) d_ET_add_20 (fun M3 H locs hs ho hw => ?_)
    have h_o : M3 o = some (.inr (5, [.ref gA, .ref kA, .int (iI rw0), .int (iI co0)])) := (ho _ (zq_ne h_o h_r (by simp))).trans h_o
    have h_g : M3 gA = some (cQ (K 4) 12 (fun i => some (ra i))) := (ho _ (zq_ne h_g h_r (by simp))).trans h_g
    have h_k : M3 kA = some (cQ (K 4) 12 (fun i => some (rb i))) := (ho _ (zq_ne h_k h_r (by simp))).trans h_k
    have h_t : M3 (rb r) = some (cI (K 0) 33 f2) := (ho _ (Ne.symm hrb)).trans h_t
    have h_r : M3 (ra r) = some (cI (K 0) 33 (zu f1 q0 ((f1 q0) + x))) := hs
    have hfr : ∀ q, q ≠ (ra r) → q ≠ (rb r) → M3 q = M q := fun q g0 g1 => (ho q g0).trans (hfr q g0 g1)
    refine lv_aload_n hx hb d_ET_add_21 rfl (lv_at hl 0 rfl) ?_
    refine zq_get hx hb hts i_ET hown hK hw h_o rfl 1 (by decide) (hts _ tw_90) rfl d_ET_add_22 ?_
    refine lv_iload_n hx hb d_ET_add_25 rfl (lv_at hl 1 rfl) ?_
    refine zq_aald hx hb hK hw 4 rfl h_k rfl (by omega) (by omega) (by decide) rfl d_ET_add_26 ?_
    refine lv_iload_n hx hb d_ET_add_27 rfl (lv_at hl 2 rfl) ?_
    refine lv_dup2_11 hx hb d_ET_add_28 rfl rfl ?_
    refine zq_iald hx hb hK hw 0 h_t rfl (by omega) (by omega) (by decide) d_ET_add_29 ?_
    refine lv_iload hx hb d_ET_add_30 (lv_at hl 4 rfl) ?_
    refine zq_iadd hx hb d_ET_add_32 ?_
    refine zq_iast hx hb hK hw 0 h_t rfl (by omega) (by omega) (by decide) d_ET_add_33 (fun M4 H locs hs ho hw => ?_)
    have h_o : M4 o = some (.inr (5, [.ref gA, .ref kA, .int (iI rw0), .int (iI co0)])) := (ho _ (zq_ne h_o h_t (by simp))).trans h_o
    have h_g : M4 gA = some (cQ (K 4) 12 (fun i => some (ra i))) := (ho _ (zq_ne h_g h_t (by simp))).trans h_g
    have h_k : M4 kA = some (cQ (K 4) 12 (fun i => some (rb i))) := (ho _ (zq_ne h_k h_t (by simp))).trans h_k
    have h_r : M4 (ra r) = some (cI (K 0) 33 (zu f1 q0 ((f1 q0) + x))) := (ho _ hrb).trans h_r
    have h_t : M4 (rb r) = some (cI (K 0) 33 (zu f2 q0 ((f2 q0) + y))) := hs
    have hfr : ∀ q, q ≠ (ra r) → q ≠ (rb r) → M4 q = M q := fun q g0 g1 => (ho q g1).trans (hfr q g0 g1)
    exact zq_vret hx hb hr hlocks hZ hw ⟨rfl, h_r, h_t, hfr⟩ d_ET_add_34
