abbrev P_MM_isOut (K : Nat → ClassId) (M : zq_M) (o : Nat) (bd : Nat → Nat) (th : Int) (put : Int) (wr : Int) (nn : Int) (cir : Int) (oN : Int) (oC : Int) (lbs : Int) (fcs : Int) (arcs : Int) (mns : Int) (kn : Int) (sg : Int → Int) (x : Int) : Option Value → zq_M → Prop := fun v M' => v = some (.int (iI (if zoo (sg (x / 4)) x then 1 else 0))) ∧ M' = M
set_option maxHeartbeats 4000000 in
set_option maxRecDepth 100000 in
theorem c_MM_isOut (l : Launch) (D : va_G) (K : Nat → ClassId) (M : zq_M) (o : Nat) (bd : Nat → Nat) (th : Int) (put : Int) (wr : Int) (nn : Int) (cir : Int) (oN : Int) (oC : Int) (lbs : Int) (fcs : Int) (arcs : Int) (mns : Int) (kn : Int) (sg : Int → Int) (x : Int) (h_o : M o = some (.inr (9, [.int (iI th), .int (iI put), .int (iI wr), .ref (bd 0), .ref (bd 1), .int (iI nn), .int (iI cir), .int (iI oN), .int (iI oC), .ref (bd 2), .ref (bd 3), .ref (bd 4), .ref (bd 5), .int (iI lbs), .ref (bd 6), .ref (bd 7), .ref (bd 8), .int (iI fcs), .ref (bd 9), .int (iI arcs), .ref (bd 10), .ref (bd 11), .ref (bd 12), .ref (bd 13), .int (iI mns), .ref (bd 14), .ref (bd 15), .ref (bd 16), .int (iI kn), .ref (bd 17)]))) (hbd : ∀ i j, i < 18 → j < 18 → bd i = bd j → i = j) (h_sg : M (bd 2) = some (cI (K 0) 12 sg)) (hsg : ∀ j, inI (sg j)) (hx0 : 0 ≤ x ∧ x < 48) : zq_Met l y_MM_isOut (.code y_MM_isOut b_MM_isOut 3 (some .boolean) :: lw_gd) { frames := 0, cells := 0, slots := 0, locals := 0 } D vwCl (zT K) [.ref o, .int (iI x)] M (P_MM_isOut K M o bd th put wr nn cir oN oC lbs fcs arcs mns kn sg x) 0 0 := by
  refine zq_start (cc := b_MM_isOut) (maxL := 3) (ret := (some .boolean)) (by decide) rfl (Nat.le_of_ble_eq_true rfl) ?_
  intro p e s m below meth co A ls hx hb hr hml hts hown hnm hlocks hA hZ hw hl
  have hts : ∀ w ∈ lw_gd, w.before [.ref o, .int (iI x)].toArray s = true := fun w h => hts w (List.mem_cons_of_mem _ h)
  have hown : s.vm.findClass R_MM = some m.cls := hown
  have hK := hZ.1
  have hl : lv_has ls 3 [(0, .ref o), (1, .int (iI x))] := hl
  refine lv_iload_n hx hb d_MM_isOut_0 rfl (lv_at hl 1 rfl) ?_
  refine lv_iconst (v := iI 4) hx hb d_MM_isOut_1 rfl ?_
  refine zq_irem hx hb (by omega) ⟨by omega, by omega⟩ (by decide) (by decide) d_MM_isOut_2 ?_
  refine lv_istore_n (lv' := [(2, .int (iI (x % 4))), (0, .ref o), (1, .int (iI x))]) hx hb d_MM_isOut_3 rfl hl (by decide) rfl (fun ls hl => ?_)
  refine lv_iload_n hx hb d_MM_isOut_4 rfl (lv_at hl 0 rfl) ?_
  refine lv_iconst (v := iI 2) hx hb d_MM_isOut_5 rfl ?_
  refine zq_icmp_eq (tgt := 29) hx hb d_MM_isOut_6 (by decide) ⟨by omega, by omega⟩ (by decide) (fun hc1 => ?_) (fun hc1 => ?_)
  · refine lv_iconst (v := iI 1) hx hb d_MM_isOut_29 rfl ?_
    refine lv_goto (tgt := 34) hx hb d_MM_isOut_30 (by decide) ?_
    exact zq_zret hx hb hr rfl hlocks hZ hw ⟨zq_ri (by have hz := zoq_or (sg (x / 4)); rw [if_pos (by unfold zoo; omega)]), rfl⟩ d_MM_isOut_34
  · refine lv_iload_n hx hb d_MM_isOut_9 rfl (lv_at hl 0 rfl) ?_
    refine lv_aload_n hx hb d_MM_isOut_10 rfl (lv_at hl 1 rfl) ?_
    refine zq_get hx hb hts i_MM hown hK hw h_o rfl 9 (by decide) (hts _ tw_595) rfl d_MM_isOut_11 ?_
    refine lv_iload_n hx hb d_MM_isOut_14 rfl (lv_at hl 2 rfl) ?_
    refine lv_iconst (v := iI 4) hx hb d_MM_isOut_15 rfl ?_
    refine zq_idiv hx hb (by omega) ⟨by omega, by omega⟩ (by decide) (by decide) d_MM_isOut_16 ?_
    refine zq_iald hx hb hK hw 0 h_sg rfl (by omega) (by omega) (by decide) d_MM_isOut_17 ?_
    refine zq_if_le (tgt := 25) hx hb d_MM_isOut_18 (by decide) (hsg _) (fun hc2 => ?_) (fun hc2 => ?_)
    · refine lv_iconst (v := iI 3) hx hb d_MM_isOut_25 rfl ?_
      refine zq_icmp_ne (tgt := 33) hx hb d_MM_isOut_26 (by decide) ⟨by omega, by omega⟩ (by decide) (fun hc3 => ?_) (fun hc3 => ?_)
      · refine lv_iconst (v := iI 0) hx hb d_MM_isOut_33 rfl ?_
        exact zq_zret hx hb hr rfl hlocks hZ hw ⟨zq_ri (by have hz := zoq_or (sg (x / 4)); rw [if_neg (by unfold zoo; omega)]), rfl⟩ d_MM_isOut_34
      · refine lv_iconst (v := iI 1) hx hb d_MM_isOut_29 rfl ?_
        refine lv_goto (tgt := 34) hx hb d_MM_isOut_30 (by decide) ?_
        exact zq_zret hx hb hr rfl hlocks hZ hw ⟨zq_ri (by have hz := zoq_or (sg (x / 4)); rw [if_pos (by unfold zoo; omega)]), rfl⟩ d_MM_isOut_34
    · refine lv_iconst (v := iI 1) hx hb d_MM_isOut_21 rfl ?_
      refine lv_goto (tgt := 26) hx hb d_MM_isOut_22 (by decide) ?_
      refine zq_icmp_ne (tgt := 33) hx hb d_MM_isOut_26 (by decide) ⟨by omega, by omega⟩ (by decide) (fun hc4 => ?_) (fun hc4 => ?_)
      · refine lv_iconst (v := iI 0) hx hb d_MM_isOut_33 rfl ?_
        exact zq_zret hx hb hr rfl hlocks hZ hw ⟨zq_ri (by have hz := zoq_or (sg (x / 4)); rw [if_neg (by unfold zoo; omega)]), rfl⟩ d_MM_isOut_34
      · refine lv_iconst (v := iI 1) hx hb d_MM_isOut_29 rfl ?_
        refine lv_goto (tgt := 34) hx hb d_MM_isOut_30 (by decide) ?_
        exact zq_zret hx hb hr rfl hlocks hZ hw ⟨zq_ri (by have hz := zoq_or (sg (x / 4)); rw [if_pos (by unfold zoo; omega)]), rfl⟩ d_MM_isOut_34
abbrev P_MM_isUpper (K : Nat → ClassId) (M : zq_M) (x : Int) : Option Value → zq_M → Prop := fun v M' => v = some (.int (iI (if x % 2 = 1 then 1 else 0))) ∧ M' = M
set_option maxHeartbeats 4000000 in
set_option maxRecDepth 100000 in
theorem c_MM_isUpper (l : Launch) (D : va_G) (K : Nat → ClassId) (M : zq_M) (x : Int) (hx0 : 0 ≤ x ∧ x < 48) : zq_Met l y_MM_isUpper (.code y_MM_isUpper b_MM_isUpper 1 (some .boolean) :: lw_gd) { frames := 0, cells := 0, slots := 0, locals := 0 } D vwCl (zT K) [.int (iI x)] M (P_MM_isUpper K M x) 0 0 := by
  refine zq_start (cc := b_MM_isUpper) (maxL := 1) (ret := (some .boolean)) (by decide) rfl (Nat.le_of_ble_eq_true rfl) ?_
  intro p e s m below meth co A ls hx hb hr hml hts hown hnm hlocks hA hZ hw hl
  have hts : ∀ w ∈ lw_gd, w.before [.int (iI x)].toArray s = true := fun w h => hts w (List.mem_cons_of_mem _ h)
  have hown : s.vm.findClass R_MM = some m.cls := hown
  have hK := hZ.1
  have hl : lv_has ls 1 [(0, .int (iI x))] := hl
  refine lv_iload_n hx hb d_MM_isUpper_0 rfl (lv_at hl 0 rfl) ?_
  refine lv_iconst (v := iI 2) hx hb d_MM_isUpper_1 rfl ?_
  refine zq_irem hx hb (by omega) ⟨by omega, by omega⟩ (by decide) (by decide) d_MM_isUpper_2 ?_
  refine lv_iconst (v := iI 1) hx hb d_MM_isUpper_3 rfl ?_
  refine zq_icmp_ne (tgt := 11) hx hb d_MM_isUpper_4 (by decide) ⟨by omega, by omega⟩ (by decide) (fun hc1 => ?_) (fun hc1 => ?_)
  · refine lv_iconst (v := iI 0) hx hb d_MM_isUpper_11 rfl ?_
    exact zq_zret hx hb hr rfl hlocks hZ hw ⟨zq_ri (by rw [if_neg (by omega)]), rfl⟩ d_MM_isUpper_12
  · refine lv_iconst (v := iI 1) hx hb d_MM_isUpper_7 rfl ?_
    refine lv_goto (tgt := 12) hx hb d_MM_isUpper_8 (by decide) ?_
    exact zq_zret hx hb hr rfl hlocks hZ hw ⟨zq_ri (by rw [if_pos (by omega)]), rfl⟩ d_MM_isUpper_12
abbrev P_MM_across (K : Nat → ClassId) (M : zq_M) (x : Int) : Option Value → zq_M → Prop := fun v M' => v = some (.int (iI (zac x))) ∧ M' = M
set_option maxHeartbeats 4000000 in
set_option maxRecDepth 100000 in
theorem c_MM_across (l : Launch) (D : va_G) (K : Nat → ClassId) (M : zq_M) (x : Int) (hx0 : 0 ≤ x ∧ x < 48) : zq_Met l y_MM_across (.code y_MM_across b_MM_across 1 (some .int) :: lw_gd) { frames := 0, cells := 0, slots := 0, locals := 0 } D vwCl (zT K) [.int (iI x)] M (P_MM_across K M x) 0 0 := by
  refine zq_start (cc := b_MM_across) (maxL := 1) (ret := (some .int)) (by decide) rfl (Nat.le_of_ble_eq_true rfl) ?_
  intro p e s m below meth co A ls hx hb hr hml hts hown hnm hlocks hA hZ hw hl
  have hts : ∀ w ∈ lw_gd, w.before [.int (iI x)].toArray s = true := fun w h => hts w (List.mem_cons_of_mem _ h)
  have hown : s.vm.findClass R_MM = some m.cls := hown
  have hK := hZ.1
  have hl : lv_has ls 1 [(0, .int (iI x))] := hl
  refine lv_iload_n hx hb d_MM_across_0 rfl (lv_at hl 0 rfl) ?_
  refine lv_iconst (v := iI 4) hx hb d_MM_across_1 rfl ?_
  refine zq_idiv hx hb (by omega) ⟨by omega, by omega⟩ (by decide) (by decide) d_MM_across_2 ?_
  refine lv_iconst (v := iI 4) hx hb d_MM_across_3 rfl ?_
  refine zq_imul hx hb d_MM_across_4 ?_
  refine lv_iload_n hx hb d_MM_across_5 rfl (lv_at hl 0 rfl) ?_
  refine lv_iconst (v := iI 2) hx hb d_MM_across_6 rfl ?_
  refine zq_iadd hx hb d_MM_across_7 ?_
  refine lv_iconst (v := iI 4) hx hb d_MM_across_8 rfl ?_
  refine zq_irem hx hb (by omega) ⟨by omega, by omega⟩ (by decide) (by decide) d_MM_across_9 ?_
  refine zq_iadd hx hb d_MM_across_10 ?_
  exact zq_iret hx hb hr hlocks hZ hw ⟨rfl, rfl⟩ d_MM_across_11
abbrev P_MM_upperIn (K : Nat → ClassId) (M : zq_M) (o : Nat) (bd : Nat → Nat) (th : Int) (put : Int) (wr : Int) (nn : Int) (cir : Int) (oN : Int) (oC : Int) (lbs : Int) (fcs : Int) (arcs : Int) (mns : Int) (kn : Int) (sg : Int → Int) (k : Int) : Option Value → zq_M → Prop := fun v M' => v = some (.int (iI (if 0 < sg k then 3 else 1))) ∧ M' = M
set_option maxHeartbeats 4000000 in
set_option maxRecDepth 100000 in
theorem c_MM_upperIn (l : Launch) (D : va_G) (K : Nat → ClassId) (M : zq_M) (o : Nat) (bd : Nat → Nat) (th : Int) (put : Int) (wr : Int) (nn : Int) (cir : Int) (oN : Int) (oC : Int) (lbs : Int) (fcs : Int) (arcs : Int) (mns : Int) (kn : Int) (sg : Int → Int) (k : Int) (h_o : M o = some (.inr (9, [.int (iI th), .int (iI put), .int (iI wr), .ref (bd 0), .ref (bd 1), .int (iI nn), .int (iI cir), .int (iI oN), .int (iI oC), .ref (bd 2), .ref (bd 3), .ref (bd 4), .ref (bd 5), .int (iI lbs), .ref (bd 6), .ref (bd 7), .ref (bd 8), .int (iI fcs), .ref (bd 9), .int (iI arcs), .ref (bd 10), .ref (bd 11), .ref (bd 12), .ref (bd 13), .int (iI mns), .ref (bd 14), .ref (bd 15), .ref (bd 16), .int (iI kn), .ref (bd 17)]))) (hbd : ∀ i j, i < 18 → j < 18 → bd i = bd j → i = j) (h_sg : M (bd 2) = some (cI (K 0) 12 sg)) (hsg : ∀ j, inI (sg j)) (hk0 : 0 ≤ k ∧ k < 12) : zq_Met l y_MM_upperIn (.code y_MM_upperIn b_MM_upperIn 2 (some .int) :: lw_gd) { frames := 0, cells := 0, slots := 0, locals := 0 } D vwCl (zT K) [.ref o, .int (iI k)] M (P_MM_upperIn K M o bd th put wr nn cir oN oC lbs fcs arcs mns kn sg k) 0 0 := by
  refine zq_start (cc := b_MM_upperIn) (maxL := 2) (ret := (some .int)) (by decide) rfl (Nat.le_of_ble_eq_true rfl) ?_
  intro p e s m below meth co A ls hx hb hr hml hts hown hnm hlocks hA hZ hw hl
  have hts : ∀ w ∈ lw_gd, w.before [.ref o, .int (iI k)].toArray s = true := fun w h => hts w (List.mem_cons_of_mem _ h)
  have hown : s.vm.findClass R_MM = some m.cls := hown
  have hK := hZ.1
  have hl : lv_has ls 2 [(0, .ref o), (1, .int (iI k))] := hl
  refine lv_aload_n hx hb d_MM_upperIn_0 rfl (lv_at hl 0 rfl) ?_
  refine zq_get hx hb hts i_MM hown hK hw h_o rfl 9 (by decide) (hts _ tw_595) rfl d_MM_upperIn_1 ?_
  refine lv_iload_n hx hb d_MM_upperIn_4 rfl (lv_at hl 1 rfl) ?_
  refine zq_iald hx hb hK hw 0 h_sg rfl (by omega) (by omega) (by decide) d_MM_upperIn_5 ?_
  refine zq_if_le (tgt := 13) hx hb d_MM_upperIn_6 (by decide) (hsg _) (fun hc1 => ?_) (fun hc1 => ?_)
  · refine lv_iconst (v := iI 1) hx hb d_MM_upperIn_13 rfl ?_
    exact zq_iret hx hb hr hlocks hZ hw ⟨zq_ri (by rw [if_neg (by omega)]), rfl⟩ d_MM_upperIn_14
  · refine lv_iconst (v := iI 3) hx hb d_MM_upperIn_9 rfl ?_
    refine lv_goto (tgt := 14) hx hb d_MM_upperIn_10 (by decide) ?_
    exact zq_iret hx hb hr hlocks hZ hw ⟨zq_ri (by rw [if_pos (by omega)]), rfl⟩ d_MM_upperIn_14
abbrev P_MM_placeOf (K : Nat → ClassId) (M : zq_M) (o : Nat) (bd : Nat → Nat) (th : Int) (put : Int) (wr : Int) (nn : Int) (cir : Int) (oN : Int) (oC : Int) (lbs : Int) (fcs : Int) (arcs : Int) (mns : Int) (kn : Int) (sg : Int → Int) (lb : Int → Int) (y : Int) (ou : Int) : Option Value → zq_M → Prop := fun v M' => ∃ r, v = some (.int (iI r)) ∧ zPl (4 * nn) sg lb y ou r ∧ M' = M
set_option maxHeartbeats 4000000 in
set_option maxRecDepth 100000 in
theorem c_MM_placeOf (l : Launch) (D : va_G) (K : Nat → ClassId) (M : zq_M) (o : Nat) (bd : Nat → Nat) (th : Int) (put : Int) (wr : Int) (nn : Int) (cir : Int) (oN : Int) (oC : Int) (lbs : Int) (fcs : Int) (arcs : Int) (mns : Int) (kn : Int) (sg : Int → Int) (lb : Int → Int) (y : Int) (ou : Int) (h_o : M o = some (.inr (9, [.int (iI th), .int (iI put), .int (iI wr), .ref (bd 0), .ref (bd 1), .int (iI nn), .int (iI cir), .int (iI oN), .int (iI oC), .ref (bd 2), .ref (bd 3), .ref (bd 4), .ref (bd 5), .int (iI lbs), .ref (bd 6), .ref (bd 7), .ref (bd 8), .int (iI fcs), .ref (bd 9), .int (iI arcs), .ref (bd 10), .ref (bd 11), .ref (bd 12), .ref (bd 13), .int (iI mns), .ref (bd 14), .ref (bd 15), .ref (bd 16), .int (iI kn), .ref (bd 17)]))) (hbd : ∀ i j, i < 18 → j < 18 → bd i = bd j → i = j) (h_sg : M (bd 2) = some (cI (K 0) 12 sg)) (h_lb : M (bd 3) = some (cI (K 0) 48 lb)) (hsg : ∀ j, inI (sg j)) (hlb : ∀ j, inI (lb j)) (hnn : 0 ≤ nn ∧ nn ≤ 12) (hy : inI y) (hou : ou = 0 ∨ ou = 1) : zq_Met l y_MM_placeOf (.code y_MM_placeOf b_MM_placeOf 5 (some .int) :: lw_gd) { frames := 1, cells := 0, slots := 0, locals := 22 } D vwCl (zT K) [.ref o, .int (iI y), .int (iI ou)] M (P_MM_placeOf K M o bd th put wr nn cir oN oC lbs fcs arcs mns kn sg lb y ou) 0 0 := by
  refine zq_start (cc := b_MM_placeOf) (maxL := 5) (ret := (some .int)) (by decide) rfl (Nat.le_of_ble_eq_true rfl) ?_
  intro p e s m below meth co A ls hx hb hr hml hts hown hnm hlocks hA hZ hw hl
  have hts : ∀ w ∈ lw_gd, w.before [.ref o, .int (iI y), .int (iI ou)].toArray s = true := fun w h => hts w (List.mem_cons_of_mem _ h)
  have hown : s.vm.findClass R_MM = some m.cls := hown
  have hK := hZ.1
  have hl : lv_has ls 5 [(0, .ref o), (1, .int (iI y)), (2, .int (iI ou))] := hl
  have hL : ∀ (n : Nat) (i : Int) (fn : Int) (H : Heap) (locs : List Loc) (ls : Array Slot), (0 ≤ i ∧ i ≤ 4 * nn) → (zPl i sg lb y ou fn) → (4 * nn - i).toNat < n → zq_W D vwCl A s.heap M H locs → lv_has ls 5 [(0, .ref o), (1, .int (iI y)), (2, .int (iI ou)), (3, .int (iI fn)), (4, .int (iI i))] → W p l e ({ frames := 1, cells := 0, slots := 0, locals := 22 } : Room) s m [.ref o, .int (iI y), .int (iI ou)].toArray below meth co H locs 0 0 (MQ below (zq_Q D vwCl (zT K) (P_MM_placeOf K M o bd th put wr nn cir oN oC lbs fcs arcs mns kn sg lb y ou) A) [.ref o, .int (iI y), .int (iI ou)].toArray s 0 0 A) (F0 m 5 ls []) := by
    intro n
    induction n with
    | zero =>
      intro i fn H locs ls hi hP hms hw hl
      exact absurd hms (Nat.not_lt_zero _)
    | succ n ih_hL =>
      intro i fn H locs ls hi hP hms hw hl
      refine lv_iload hx hb d_MM_placeOf_5 (lv_at hl 4 rfl) ?_
      refine lv_iconst (v := iI 4) hx hb d_MM_placeOf_7 rfl ?_
      refine lv_aload_n hx hb d_MM_placeOf_8 rfl (lv_at hl 0 rfl) ?_
      refine zq_get hx hb hts i_MM hown hK hw h_o rfl 5 (by decide) (hts _ tw_591) rfl d_MM_placeOf_9 ?_
      refine zq_imul hx hb d_MM_placeOf_12 ?_
      refine zq_icmp_ge (tgt := 50) hx hb d_MM_placeOf_13 (by decide) ⟨by omega, by omega⟩ ⟨by omega, by omega⟩ (fun hc1 => ?_) (fun hc1 => ?_)
      · refine lv_iload_n hx hb d_MM_placeOf_50 rfl (lv_at hl 3 rfl) ?_
        exact zq_iret hx hb hr hlocks hZ hw ⟨fn, rfl, by rw [← show i = 4 * nn from by omega]; exact hP, rfl⟩ d_MM_placeOf_51
      · refine lv_aload_n hx hb d_MM_placeOf_16 rfl (lv_at hl 0 rfl) ?_
        refine zq_get hx hb hts i_MM hown hK hw h_o rfl 10 (by decide) (hts _ tw_596) rfl d_MM_placeOf_17 ?_
        refine lv_iload hx hb d_MM_placeOf_20 (lv_at hl 4 rfl) ?_
        refine zq_iald hx hb hK hw 0 h_lb rfl (by omega) (by omega) (by decide) d_MM_placeOf_22 ?_
        refine lv_iload_n hx hb d_MM_placeOf_23 rfl (lv_at hl 1 rfl) ?_
        refine zq_icmp_ne (tgt := 42) hx hb d_MM_placeOf_24 (by decide) (hlb _) hy (fun hc2 => ?_) (fun hc2 => ?_)
        · refine lv_iload_n hx hb d_MM_placeOf_42 rfl (lv_at hl 3 rfl) ?_
          refine lv_istore_n (lv' := [(3, .int (iI fn)), (0, .ref o), (1, .int (iI y)), (2, .int (iI ou)), (4, .int (iI i))]) hx hb d_MM_placeOf_43 rfl hl (by decide) rfl (fun ls hl => ?_)
          refine lv_iinc (v := iI (i + 1)) (lv' := [(4, .int (iI (i + 1))), (3, .int (iI fn)), (0, .ref o), (1, .int (iI y)), (2, .int (iI ou))]) hx hb d_MM_placeOf_44 hl (k := 4) rfl (iI_add _ _) (by decide) rfl (fun ls hl => ?_)
          refine lv_goto (tgt := 5) hx hb d_MM_placeOf_47 (by decide) ?_
          exact ih_hL (i + 1) fn _ _ _ (by omega) (zPl_no hP (by first | exact Or.inl (by assumption) | exact Or.inr (by assumption))) (by omega) hw (lv_sub hl [2, 3, 4, 1, 0] rfl)
        · refine lv_aload_n hx hb d_MM_placeOf_27 rfl (lv_at hl 0 rfl) ?_
          refine lv_iload hx hb d_MM_placeOf_28 (lv_at hl 4 rfl) ?_
          refine zq_callV (As := [.int (iI i)]) (rest := []) ⟨hx, hb, hml, hown, hts⟩ (c_MM_isOut l D K M o bd th put wr nn cir oN oC lbs fcs arcs mns kn sg i h_o hbd h_sg hsg ⟨by omega, by omega⟩) (cwV 1 hts (zg_V tw_705 tw_707 ts_31 tw_10 tw_708) rfl rfl rfl (by decide +kernel) ⟨Nat.le_of_ble_eq_true rfl, Nat.le_of_ble_eq_true rfl⟩) hZ hw hA h_o rfl rfl rfl rfl hl.1 (Nat.le_of_ble_eq_true rfl) d_MM_placeOf_30 ⟨Nat.le_of_ble_eq_true rfl, Nat.le_of_ble_eq_true rfl⟩ (fun v M3 H locs hp hw => ?_)
          obtain ⟨rfl, hMe⟩ := hp
          rw [hMe] at hw
          refine W.eq (g2 := F0 m 33 ls [.int (iI (if zoo (sg (i / 4)) i then 1 else 0))]) rfl ?_
          refine lv_iload_n hx hb d_MM_placeOf_33 rfl (lv_at hl 2 rfl) ?_
          refine zq_icmp_ne (tgt := 42) hx hb d_MM_placeOf_34 (by decide) (by split <;> decide) ⟨by omega, by omega⟩ (fun hc4 => ?_) (fun hc4 => ?_)
          · refine lv_iload_n hx hb d_MM_placeOf_42 rfl (lv_at hl 3 rfl) ?_
            refine lv_istore_n (lv' := [(3, .int (iI fn)), (0, .ref o), (1, .int (iI y)), (2, .int (iI ou)), (4, .int (iI i))]) hx hb d_MM_placeOf_43 rfl hl (by decide) rfl (fun ls hl => ?_)
            refine lv_iinc (v := iI (i + 1)) (lv' := [(4, .int (iI (i + 1))), (3, .int (iI fn)), (0, .ref o), (1, .int (iI y)), (2, .int (iI ou))]) hx hb d_MM_placeOf_44 hl (k := 4) rfl (iI_add _ _) (by decide) rfl (fun ls hl => ?_)
            refine lv_goto (tgt := 5) hx hb d_MM_placeOf_47 (by decide) ?_
            exact ih_hL (i + 1) fn _ _ _ (by omega) (zPl_no hP (by first | exact Or.inl (by assumption) | exact Or.inr (by assumption))) (by omega) hw (lv_sub hl [2, 3, 4, 1, 0] rfl)
          · refine lv_iload hx hb d_MM_placeOf_37 (lv_at hl 4 rfl) ?_
            refine lv_goto (tgt := 43) hx hb d_MM_placeOf_39 (by decide) ?_
            refine lv_istore_n (lv' := [(3, .int (iI i)), (0, .ref o), (1, .int (iI y)), (2, .int (iI ou)), (4, .int (iI i))]) hx hb d_MM_placeOf_43 rfl hl (by decide) rfl (fun ls hl => ?_)
            refine lv_iinc (v := iI (i + 1)) (lv' := [(4, .int (iI (i + 1))), (3, .int (iI i)), (0, .ref o), (1, .int (iI y)), (2, .int (iI ou))]) hx hb d_MM_placeOf_44 hl (k := 4) rfl (iI_add _ _) (by decide) rfl (fun ls hl => ?_)
            refine lv_goto (tgt := 5) hx hb d_MM_placeOf_47 (by decide) ?_
            exact ih_hL (i + 1) i _ _ _ (by omega) (zPl_yes hP (by omega) (by assumption) (by assumption)) (by omega) hw (lv_sub hl [2, 3, 4, 1, 0] rfl)
  refine lv_iconst (v := iI (-1)) hx hb d_MM_placeOf_0 rfl ?_
  refine lv_istore_n (lv' := [(3, .int (iI (-1))), (0, .ref o), (1, .int (iI y)), (2, .int (iI ou))]) hx hb d_MM_placeOf_1 rfl hl (by decide) rfl (fun ls hl => ?_)
  refine lv_iconst (v := iI 0) hx hb d_MM_placeOf_2 rfl ?_
  refine lv_istore (lv' := [(4, .int (iI 0)), (3, .int (iI (-1))), (0, .ref o), (1, .int (iI y)), (2, .int (iI ou))]) hx hb d_MM_placeOf_3 hl (by decide) rfl (fun ls hl => ?_)
  exact hL _ 0 (-1) _ _ _ (by omega) (zPl_0 _ _ _ _) (Nat.lt_succ_self _) hw (lv_sub hl [2, 3, 4, 1, 0] rfl)
abbrev P_MM_next (K : Nat → ClassId) (M : zq_M) (o : Nat) (bd : Nat → Nat) (th : Int) (put : Int) (wr : Int) (nn : Int) (cir : Int) (oN : Int) (oC : Int) (lbs : Int) (fcs : Int) (arcs : Int) (mns : Int) (kn : Int) (sg : Int → Int) (lb : Int → Int) (y : Int) : Option Value → zq_M → Prop := fun v M' => ∃ r, v = some (.int (iI (lb (zac r)))) ∧ zPl (4 * nn) sg lb y 0 r ∧ (0 ≤ r ∧ r < 4 * nn) ∧ M' = M
set_option maxHeartbeats 4000000 in
set_option maxRecDepth 100000 in
theorem c_MM_next (l : Launch) (D : va_G) (K : Nat → ClassId) (M : zq_M) (o : Nat) (bd : Nat → Nat) (th : Int) (put : Int) (wr : Int) (nn : Int) (cir : Int) (oN : Int) (oC : Int) (lbs : Int) (fcs : Int) (arcs : Int) (mns : Int) (kn : Int) (sg : Int → Int) (lb : Int → Int) (y : Int) (h_o : M o = some (.inr (9, [.int (iI th), .int (iI put), .int (iI wr), .ref (bd 0), .ref (bd 1), .int (iI nn), .int (iI cir), .int (iI oN), .int (iI oC), .ref (bd 2), .ref (bd 3), .ref (bd 4), .ref (bd 5), .int (iI lbs), .ref (bd 6), .ref (bd 7), .ref (bd 8), .int (iI fcs), .ref (bd 9), .int (iI arcs), .ref (bd 10), .ref (bd 11), .ref (bd 12), .ref (bd 13), .int (iI mns), .ref (bd 14), .ref (bd 15), .ref (bd 16), .int (iI kn), .ref (bd 17)]))) (hbd : ∀ i j, i < 18 → j < 18 → bd i = bd j → i = j) (h_sg : M (bd 2) = some (cI (K 0) 12 sg)) (h_lb : M (bd 3) = some (cI (K 0) 48 lb)) (hsg : ∀ j, inI (sg j)) (hlb : ∀ j, inI (lb j)) (hnn : 0 ≤ nn ∧ nn ≤ 12) (hy : inI y) (hex : ∃ z, 0 ≤ z ∧ z < 4 * nn ∧ lb z = y ∧ ¬ zoo (sg (z / 4)) z) : zq_Met l y_MM_next (.code y_MM_next b_MM_next 2 (some .int) :: lw_gd) { frames := 2, cells := 0, slots := 0, locals := 46 } D vwCl (zT K) [.ref o, .int (iI y)] M (P_MM_next K M o bd th put wr nn cir oN oC lbs fcs arcs mns kn sg lb y) 0 0 := by
  refine zq_start (cc := b_MM_next) (maxL := 2) (ret := (some .int)) (by decide) rfl (Nat.le_of_ble_eq_true rfl) ?_
  intro p e s m below meth co A ls hx hb hr hml hts hown hnm hlocks hA hZ hw hl
  have hts : ∀ w ∈ lw_gd, w.before [.ref o, .int (iI y)].toArray s = true := fun w h => hts w (List.mem_cons_of_mem _ h)
  have hown : s.vm.findClass R_MM = some m.cls := hown
  have hK := hZ.1
  have hl : lv_has ls 2 [(0, .ref o), (1, .int (iI y))] := hl
  refine lv_aload_n hx hb d_MM_next_0 rfl (lv_at hl 0 rfl) ?_
  refine zq_get hx hb hts i_MM hown hK hw h_o rfl 10 (by decide) (hts _ tw_596) rfl d_MM_next_1 ?_
  refine lv_aload_n hx hb d_MM_next_4 rfl (lv_at hl 0 rfl) ?_
  refine lv_iload_n hx hb d_MM_next_5 rfl (lv_at hl 1 rfl) ?_
  refine lv_iconst (v := iI 0) hx hb d_MM_next_6 rfl ?_
  refine zq_callV (As := [.int (iI y), .int (iI 0)]) (rest := [.ref (bd 3)]) ⟨hx, hb, hml, hown, hts⟩ (c_MM_placeOf l D K M o bd th put wr nn cir oN oC lbs fcs arcs mns kn sg lb y 0 h_o hbd h_sg h_lb hsg hlb hnn hy (Or.inl rfl)) (cwV 2 hts (zg_V tw_701 tw_703 ts_30 tw_10 tw_704) rfl rfl rfl (by decide +kernel) ⟨Nat.le_of_ble_eq_true rfl, Nat.le_of_ble_eq_true rfl⟩) hZ hw hA h_o rfl rfl rfl rfl hl.1 (Nat.le_of_ble_eq_true rfl) d_MM_next_7 ⟨Nat.le_of_ble_eq_true rfl, Nat.le_of_ble_eq_true rfl⟩ (fun v M2 H locs hp hw => ?_)
  obtain ⟨rp1, rfl, hPrp1, hMe⟩ := hp
  rw [hMe] at hw
  refine W.eq (g2 := F0 m 10 ls [.int (iI rp1), .ref (bd 3)]) rfl ?_
  have hr0 := zPl_ex hPrp1 (by obtain ⟨z, z1, z2, z3, z4⟩ := hex; exact ⟨z, z1, z2, z3, if_neg z4⟩)
  have hr1 := zPl_lt hPrp1
  refine zq_callS (b := 0) (C := "") (As := [.int (iI rp1)]) (rest := [.ref (bd 3)]) ⟨hx, hb, hml, hown, hts⟩ (c_MM_across l D K M rp1 ⟨by omega, by omega⟩) (va_cwS 1 hts (zg_T tw_760 tw_761 tw_10 tw_762) rfl rfl rfl (by decide +kernel) ⟨Nat.le_of_ble_eq_true rfl, Nat.le_of_ble_eq_true rfl⟩) hZ hw hA rfl rfl hl.1 (Nat.le_of_ble_eq_true rfl) d_MM_next_10 ⟨Nat.le_of_ble_eq_true rfl, Nat.le_of_ble_eq_true rfl⟩ (fun v M3 H locs hp hw => ?_)
  obtain ⟨rfl, hMe⟩ := hp
  rw [hMe] at hw
  refine W.eq (g2 := F0 m 13 ls [.int (iI (zac rp1)), .ref (bd 3)]) rfl ?_
  refine zq_iald hx hb hK hw 0 h_lb rfl (by unfold zac; omega) (by unfold zac; omega) (by decide) d_MM_next_13 ?_
  exact zq_iret hx hb hr hlocks hZ hw ⟨rp1, rfl, hPrp1, ⟨hr0, by omega⟩, rfl⟩ d_MM_next_14
