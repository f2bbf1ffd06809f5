abbrev P_PO_degree (K : Nat → ClassId) (M : zq_M) (o : Nat) (b : Nat) (d : Int) : Option Value → zq_M → Prop := fun v M' => v = some (.int (iI d)) ∧ M' = M
set_option maxHeartbeats 4000000 in
set_option maxRecDepth 100000 in
theorem c_PO_degree (l : Launch) (D : va_G) (K : Nat → ClassId) (M : zq_M) (o : Nat) (b : Nat) (d : Int) (h_o : M o = some (.inr (8, [.ref b, .int (iI d)]))) : zq_Met l y_PO_degree (.code y_PO_degree b_PO_degree 1 (some .int) :: lw_gd) { frames := 0, cells := 0, slots := 0, locals := 0 } D vwCl (zT K) [.ref o] M (P_PO_degree K M o b d) 0 0 := by
  refine zq_start (cc := b_PO_degree) (maxL := 1) (ret := (some .int)) (by decide) rfl (Nat.le_of_ble_eq_true rfl) ?_
  intro p e s m below meth c A ls hx hb hr hml hts hown hnm hlocks hA hZ hw hl
  have hts : ∀ w ∈ lw_gd, w.before [.ref o].toArray s = true := fun w h => hts w (List.mem_cons_of_mem _ h)
  have hown : s.vm.findClass R_PO = some m.cls := hown
  have hK := hZ.1
  have hl : lv_has ls 1 [(0, .ref o)] := hl
  refine lv_aload_n hx hb d_PO_degree_0 rfl (lv_at hl 0 rfl) ?_
  refine zq_get hx hb hts i_PO hown hK hw h_o rfl 1 (by decide) (hts _ tw_122) rfl d_PO_degree_1 ?_
  exact zq_iret hx hb hr hlocks hZ hw ⟨rfl, rfl⟩ d_PO_degree_4
abbrev P_PO_isZero (K : Nat → ClassId) (M : zq_M) (o : Nat) (b : Nat) (d : Int) : Option Value → zq_M → Prop := fun v M' => v = some (.int (iI (if d < 0 then 1 else 0))) ∧ M' = M
set_option maxHeartbeats 4000000 in
set_option maxRecDepth 100000 in
theorem c_PO_isZero (l : Launch) (D : va_G) (K : Nat → ClassId) (M : zq_M) (o : Nat) (b : Nat) (d : Int) (h_o : M o = some (.inr (8, [.ref b, .int (iI d)]))) (hd : inI d) : zq_Met l y_PO_isZero (.code y_PO_isZero b_PO_isZero 1 (some .boolean) :: lw_gd) { frames := 0, cells := 0, slots := 0, locals := 0 } D vwCl (zT K) [.ref o] M (P_PO_isZero K M o b d) 0 0 := by
  refine zq_start (cc := b_PO_isZero) (maxL := 1) (ret := (some .boolean)) (by decide) rfl (Nat.le_of_ble_eq_true rfl) ?_
  intro p e s m below meth c A ls hx hb hr hml hts hown hnm hlocks hA hZ hw hl
  have hts : ∀ w ∈ lw_gd, w.before [.ref o].toArray s = true := fun w h => hts w (List.mem_cons_of_mem _ h)
  have hown : s.vm.findClass R_PO = some m.cls := hown
  have hK := hZ.1
  have hl : lv_has ls 1 [(0, .ref o)] := hl
  refine lv_aload_n hx hb d_PO_isZero_0 rfl (lv_at hl 0 rfl) ?_
  refine zq_get hx hb hts i_PO hown hK hw h_o rfl 1 (by decide) (hts _ tw_122) rfl d_PO_isZero_1 ?_
  refine zq_if_ge (tgt := 11) hx hb d_PO_isZero_4 (by decide) hd (fun hc1 => ?_) (fun hc1 => ?_)
  · refine lv_iconst (v := iI 0) hx hb d_PO_isZero_11 rfl ?_
    exact zq_zret hx hb hr rfl hlocks hZ hw ⟨zq_ri (by rw [if_neg (by omega)]), rfl⟩ d_PO_isZero_12
  · refine lv_iconst (v := iI 1) hx hb d_PO_isZero_7 rfl ?_
    refine lv_goto (tgt := 12) hx hb d_PO_isZero_8 (by decide) ?_
    exact zq_zret hx hb hr rfl hlocks hZ hw ⟨zq_ri (by rw [if_pos (by omega)]), rfl⟩ d_PO_isZero_12
abbrev P_PO_coefficient (K : Nat → ClassId) (M : zq_M) (o : Nat) (b : Nat) (d : Int) (f : Int → Int) (e0 : Int) : Option Value → zq_M → Prop := fun v M' => v = some (.long (iL (f e0))) ∧ M' = M
set_option maxHeartbeats 4000000 in
set_option maxRecDepth 100000 in
theorem c_PO_coefficient (l : Launch) (D : va_G) (K : Nat → ClassId) (M : zq_M) (o : Nat) (b : Nat) (d : Int) (f : Int → Int) (e0 : Int) (h_o : M o = some (.inr (8, [.ref b, .int (iI d)]))) (h_b : M b = some (cJ (K 1) 25 f)) (hf0 : ∀ j, j < 0 ∨ 25 ≤ j → f j = 0) (he : inI e0) : zq_Met l y_PO_coefficient (.code y_PO_coefficient b_PO_coefficient 2 (some .long) :: lw_gd) { frames := 0, cells := 0, slots := 0, locals := 0 } D vwCl (zT K) [.ref o, .int (iI e0)] M (P_PO_coefficient K M o b d f e0) 0 0 := by
  refine zq_start (cc := b_PO_coefficient) (maxL := 2) (ret := (some .long)) (by decide) rfl (Nat.le_of_ble_eq_true rfl) ?_
  intro p e s m below meth c A ls hx hb hr hml hts hown hnm hlocks hA hZ hw hl
  have hts : ∀ w ∈ lw_gd, w.before [.ref o, .int (iI e0)].toArray s = true := fun w h => hts w (List.mem_cons_of_mem _ h)
  have hown : s.vm.findClass R_PO = some m.cls := hown
  have hK := hZ.1
  have hl : lv_has ls 2 [(0, .ref o), (1, .int (iI e0))] := hl
  refine lv_iload_n hx hb d_PO_coefficient_0 rfl (lv_at hl 1 rfl) ?_
  refine zq_if_lt (tgt := 19) hx hb d_PO_coefficient_1 (by decide) he (fun hc1 => ?_) (fun hc1 => ?_)
  · refine lv_lconst (v := iL 0) hx hb d_PO_coefficient_19 (by decide) ?_
    exact zq_lret hx hb hr hlocks hZ hw ⟨zq_rl (hf0 e0 (by omega)).symm, rfl⟩ d_PO_coefficient_20
  · refine lv_iload_n hx hb d_PO_coefficient_4 rfl (lv_at hl 1 rfl) ?_
    refine lv_bipush (v := iI 25) hx hb d_PO_coefficient_5 (by decide) ?_
    refine zq_icmp_ge (tgt := 19) hx hb d_PO_coefficient_7 (by decide) he (by decide) (fun hc2 => ?_) (fun hc2 => ?_)
    · refine lv_lconst (v := iL 0) hx hb d_PO_coefficient_19 (by decide) ?_
      exact zq_lret hx hb hr hlocks hZ hw ⟨zq_rl (hf0 e0 (by omega)).symm, rfl⟩ d_PO_coefficient_20
    · refine lv_aload_n hx hb d_PO_coefficient_10 rfl (lv_at hl 0 rfl) ?_
      refine zq_get hx hb hts i_PO hown hK hw h_o rfl 0 (by decide) (hts _ tw_121) rfl d_PO_coefficient_11 ?_
      refine lv_iload_n hx hb d_PO_coefficient_14 rfl (lv_at hl 1 rfl) ?_
      refine zq_lald hx hb hK hw 1 h_b rfl (by omega) (by omega) (by decide) d_PO_coefficient_15 ?_
      refine lv_goto (tgt := 20) hx hb d_PO_coefficient_16 (by decide) ?_
      exact zq_lret hx hb hr hlocks hZ hw ⟨rfl, rfl⟩ d_PO_coefficient_20
abbrev P_PO_valueAt (K : Nat → ClassId) (M : zq_M) (o : Nat) (b : Nat) (d : Int) (f : Int → Int) (t : Int) : Option Value → zq_M → Prop := fun v M' => v = some (.long (iL (zhor f t 0 (d + 1).toNat))) ∧ M' = M
set_option maxHeartbeats 4000000 in
set_option maxRecDepth 100000 in
theorem c_PO_valueAt (l : Launch) (D : va_G) (K : Nat → ClassId) (M : zq_M) (o : Nat) (b : Nat) (d : Int) (f : Int → Int) (t : Int) (h_o : M o = some (.inr (8, [.ref b, .int (iI d)]))) (h_b : M b = some (cJ (K 1) 25 f)) (hD : zD f d) (ht : inI t) : zq_Met l y_PO_valueAt (.code y_PO_valueAt b_PO_valueAt 5 (some .long) :: lw_gd) { frames := 1, cells := 0, slots := 0, locals := 21 } D vwCl (zT K) [.ref o, .int (iI t)] M (P_PO_valueAt K M o b d f t) 0 0 := by
  refine zq_start (cc := b_PO_valueAt) (maxL := 5) (ret := (some .long)) (by decide) rfl (Nat.le_of_ble_eq_true rfl) ?_
  intro p e s m below meth c A ls hx hb hr hml hts hown hnm hlocks hA hZ hw hl
  have hts : ∀ w ∈ lw_gd, w.before [.ref o, .int (iI t)].toArray s = true := fun w h => hts w (List.mem_cons_of_mem _ h)
  have hown : s.vm.findClass R_PO = some m.cls := hown
  have hK := hZ.1
  have hl : lv_has ls 5 [(0, .ref o), (1, .int (iI t))] := hl
  obtain ⟨hd1, hd2⟩ := zD_le hD
  have hL : ∀ (n : Nat) (k : Nat) (i : Int) (x : Int) (H : Heap) (locs : List Loc) (ls : Array Slot), -1 ≤ i → i + k = d → x = zhor f t (i + 1) k → (i + 1).toNat < n → zq_W D vwCl A s.heap M H locs → lv_has ls 5 [(0, .ref o), (1, .int (iI t)), (2, .long (iL x)), (4, .int (iI i))] → W p l e ({ frames := 1, cells := 0, slots := 0, locals := 21 } : Room) s m [.ref o, .int (iI t)].toArray below meth c H locs 0 0 (MQ below (zq_Q D vwCl (zT K) (P_PO_valueAt K M o b d f t) A) [.ref o, .int (iI t)].toArray s 0 0 A) (F0 m 8 ls []) := by
    intro n
    induction n with
    | zero =>
      intro k i x H locs ls hi hk hx0 hms hw hl
      exact absurd hms (Nat.not_lt_zero _)
    | succ n ih_hL =>
      intro k i x H locs ls hi hk hx0 hms hw hl
      refine lv_iload hx hb d_PO_valueAt_8 (lv_at hl 3 rfl) ?_
      refine zq_if_lt (tgt := 31) hx hb d_PO_valueAt_10 (by decide) ⟨by omega, by omega⟩ (fun hc1 => ?_) (fun hc1 => ?_)
      · refine lv_lload_n hx hb d_PO_valueAt_31 rfl (lv_at hl 2 rfl) ?_
        exact zq_lret hx hb hr hlocks hZ hw ⟨zq_rl (by rw [hx0, show i + 1 = 0 from by omega, show (d + 1).toNat = k from by omega]), rfl⟩ d_PO_valueAt_32
      · refine lv_lload_n hx hb d_PO_valueAt_13 rfl (lv_at hl 2 rfl) ?_
        refine lv_iload_n hx hb d_PO_valueAt_14 rfl (lv_at hl 1 rfl) ?_
        refine zq_i2l hx hb ht d_PO_valueAt_15 ?_
        refine zq_lmul hx hb d_PO_valueAt_16 ?_
        refine lv_aload_n hx hb d_PO_valueAt_17 rfl (lv_at hl 0 rfl) ?_
        refine lv_iload hx hb d_PO_valueAt_18 (lv_at hl 3 rfl) ?_
        refine zq_callV (As := [.int (iI i)]) (rest := [.long (iL (x * t))]) ⟨hx, hb, hml, hown, hts⟩ (c_PO_coefficient l D K M o b d f i h_o h_b (fun j hj => zD_out hD hj) ⟨by omega, by omega⟩) (cwV 1 hts (zg_V tw_452 tw_453 tw_454 tw_8 tw_455) rfl rfl rfl (by decide +kernel) ⟨Nat.le_of_ble_eq_true rfl, Nat.le_of_ble_eq_true rfl⟩) hZ hw hA h_o rfl rfl rfl rfl hl.1 (Nat.le_of_ble_eq_true rfl) d_PO_valueAt_20 ⟨Nat.le_of_ble_eq_true rfl, Nat.le_of_ble_eq_true rfl⟩ (fun v M2 H locs hp hw => ?_)
        obtain ⟨rfl, hMe⟩ := hp
        rw [hMe] at hw
        refine W.eq (g2 := F0 m 23 ls [.long (iL (f i)), .long (iL (x * t))]) rfl ?_
        refine zq_ladd hx hb d_PO_valueAt_23 ?_
        refine lv_lstore_n (lv' := [(2, .long (iL ((x * t) + (f i)))), (0, .ref o), (1, .int (iI t)), (4, .int (iI i))]) hx hb d_PO_valueAt_24 rfl hl (by decide) rfl (fun ls hl => ?_)
        refine lv_iinc (v := iI (i - 1)) (lv' := [(4, .int (iI (i - 1))), (2, .long (iL ((x * t) + (f i)))), (0, .ref o), (1, .int (iI t))]) hx hb d_PO_valueAt_25 hl (k := 3) rfl ((iI_add _ _).trans (congrArg iI (Int.sub_eq_add_neg).symm)) (by decide) rfl (fun ls hl => ?_)
        refine lv_goto (tgt := 8) hx hb d_PO_valueAt_28 (by decide) ?_
        exact ih_hL (k + 1) (i - 1) ((x * t) + (f i)) _ _ _ (by omega) (by omega) (by rw [show i - 1 + 1 = i from by omega, zhor, hx0, Int.mul_comm, Int.add_comm]) (by omega) hw (lv_sub hl [2, 3, 1, 0] rfl)
  refine lv_lconst (v := iL 0) hx hb d_PO_valueAt_0 (by decide) ?_
  refine lv_lstore_n (lv' := [(2, .long (iL 0)), (0, .ref o), (1, .int (iI t))]) hx hb d_PO_valueAt_1 rfl hl (by decide) rfl (fun ls hl => ?_)
  refine lv_aload_n hx hb d_PO_valueAt_2 rfl (lv_at hl 1 rfl) ?_
  refine zq_get hx hb hts i_PO hown hK hw h_o rfl 1 (by decide) (hts _ tw_122) rfl d_PO_valueAt_3 ?_
  refine lv_istore (lv' := [(4, .int (iI d)), (2, .long (iL 0)), (0, .ref o), (1, .int (iI t))]) hx hb d_PO_valueAt_6 hl (by decide) rfl (fun ls hl => ?_)
  exact hL _ 0 d 0 _ _ _ (by omega) (by omega) rfl (Nat.lt_succ_self _) hw (lv_sub hl [2, 3, 1, 0] rfl)
