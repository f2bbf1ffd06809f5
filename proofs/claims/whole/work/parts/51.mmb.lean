abbrev P_MM_bits (K : Nat → ClassId) (M : zq_M) (x : Int) : Option Value → zq_M → Prop := fun v M' => v = some (.int (iI (zbc x 13))) ∧ M' = M
set_option maxHeartbeats 4000000 in
set_option maxRecDepth 100000 in
theorem c_MM_bits (l : Launch) (D : va_G) (K : Nat → ClassId) (M : zq_M) (x : Int) (hx0 : inI x ∧ 0 ≤ x) : zq_Met l y_MM_bits (.code y_MM_bits b_MM_bits 3 (some .int) :: lw_gd) { frames := 0, cells := 0, slots := 0, locals := 0 } D vwCl (zT K) [.int (iI x)] M (P_MM_bits K M x) 0 0 := by
  refine zq_start (cc := b_MM_bits) (maxL := 3) (ret := (some .int)) (by decide) rfl (Nat.le_of_ble_eq_true rfl) ?_
  intro p e s m below meth co A ls hx hb hr hml hts hown hnm hlocks hA hZ hw hl
  have hts : ∀ w ∈ lw_gd, w.before [.int (iI x)].toArray s = true := fun w h => hts w (List.mem_cons_of_mem _ h)
  have hown : s.vm.findClass R_MM = some m.cls := hown
  have hK := hZ.1
  have hl : lv_has ls 3 [(0, .int (iI x))] := hl
  have hL : ∀ (n : Nat) (k : Int) (mv : Int) (H : Heap) (locs : List Loc) (ls : Array Slot), (0 ≤ k ∧ k ≤ 13) → (mv = zbc x k.toNat) → (13 - k).toNat < n → zq_W D vwCl A s.heap M H locs → lv_has ls 3 [(0, .int (iI x)), (1, .int (iI mv)), (2, .int (iI k))] → W p l e ({ frames := 0, cells := 0, slots := 0, locals := 0 } : Room) s m [.int (iI x)].toArray below meth co H locs 0 0 (MQ below (zq_Q D vwCl (zT K) (P_MM_bits K M x) A) [.int (iI x)].toArray s 0 0 A) (F0 m 4 ls []) := by
    intro n
    induction n with
    | zero =>
      intro k mv H locs ls hk hm hms hw hl
      exact absurd hms (Nat.not_lt_zero _)
    | succ n ih_hL =>
      intro k mv H locs ls hk hm hms hw hl
      refine lv_iload_n hx hb d_MM_bits_4 rfl (lv_at hl 2 rfl) ?_
      refine lv_bipush (v := iI 13) hx hb d_MM_bits_5 (by decide) ?_
      refine zq_icmp_ge (tgt := 24) hx hb d_MM_bits_7 (by decide) ⟨by omega, by omega⟩ (by decide) (fun hc1 => ?_) (fun hc1 => ?_)
      · refine lv_iload_n hx hb d_MM_bits_24 rfl (lv_at hl 1 rfl) ?_
        exact zq_iret hx hb hr hlocks hZ hw ⟨zq_ri (by rw [hm, show k = 13 by omega]; rfl), rfl⟩ d_MM_bits_25
      · refine lv_iload_n hx hb d_MM_bits_10 rfl (lv_at hl 1 rfl) ?_
        refine lv_iload_n hx hb d_MM_bits_11 rfl (lv_at hl 0 rfl) ?_
        refine lv_iload_n hx hb d_MM_bits_12 rfl (lv_at hl 2 rfl) ?_
        refine zq_ishr hx hb hx0.1 (by omega) (by omega) (by omega) d_MM_bits_13 ?_
        refine lv_iconst (v := iI 1) hx hb d_MM_bits_14 rfl ?_
        refine zq_iand1 hx hb (by have := zdp hx0.2 k.toNat; exact ⟨by omega, by omega⟩) (zdp hx0.2 k.toNat).1 d_MM_bits_15 ?_
        refine zq_iadd hx hb d_MM_bits_16 ?_
        refine lv_istore_n (lv' := [(1, .int (iI (mv + ((x / 2 ^ k.toNat) % 2)))), (0, .int (iI x)), (2, .int (iI k))]) hx hb d_MM_bits_17 rfl hl (by decide) rfl (fun ls hl => ?_)
        refine lv_iinc (v := iI (k + 1)) (lv' := [(2, .int (iI (k + 1))), (1, .int (iI (mv + ((x / 2 ^ k.toNat) % 2)))), (0, .int (iI x))]) hx hb d_MM_bits_18 hl (k := 2) rfl (iI_add _ _) (by decide) rfl (fun ls hl => ?_)
        refine lv_goto (tgt := 4) hx hb d_MM_bits_21 (by decide) ?_
        exact ih_hL (k + 1) (mv + ((x / 2 ^ k.toNat) % 2)) _ _ _ (by omega) (by rw [hm]; exact zbc_s hk.1) (by omega) hw (lv_sub hl [2, 1, 0] rfl)
  refine lv_iconst (v := iI 0) hx hb d_MM_bits_0 rfl ?_
  refine lv_istore_n (lv' := [(1, .int (iI 0)), (0, .int (iI x))]) hx hb d_MM_bits_1 rfl hl (by decide) rfl (fun ls hl => ?_)
  refine lv_iconst (v := iI 0) hx hb d_MM_bits_2 rfl ?_
  refine lv_istore_n (lv' := [(2, .int (iI 0)), (1, .int (iI 0)), (0, .int (iI x))]) hx hb d_MM_bits_3 rfl hl (by decide) rfl (fun ls hl => ?_)
  exact hL _ 0 0 _ _ _ ⟨by omega, by omega⟩ rfl (Nat.lt_succ_self _) hw (lv_sub hl [2, 1, 0] rfl)
abbrev P_MM_behind (K : Nat → ClassId) (M : zq_M) (x : Int) (a : Int) : Option Value → zq_M → Prop := fun v M' => v = some (.int (iI (zbc (x / 2 ^ (a + 1).toNat) 13))) ∧ M' = M
set_option maxHeartbeats 4000000 in
set_option maxRecDepth 100000 in
theorem c_MM_behind (l : Launch) (D : va_G) (K : Nat → ClassId) (M : zq_M) (x : Int) (a : Int) (hx0 : inI x ∧ 0 ≤ x) (ha : 0 ≤ a ∧ a < 31) : zq_Met l y_MM_behind (.code y_MM_behind b_MM_behind 2 (some .int) :: lw_gd) { frames := 1, cells := 0, slots := 0, locals := 22 } D vwCl (zT K) [.int (iI x), .int (iI a)] M (P_MM_behind K M x a) 0 0 := by
  refine zq_start (cc := b_MM_behind) (maxL := 2) (ret := (some .int)) (by decide) rfl (Nat.le_of_ble_eq_true rfl) ?_
  intro p e s m below meth co A ls hx hb hr hml hts hown hnm hlocks hA hZ hw hl
  have hts : ∀ w ∈ lw_gd, w.before [.int (iI x), .int (iI a)].toArray s = true := fun w h => hts w (List.mem_cons_of_mem _ h)
  have hown : s.vm.findClass R_MM = some m.cls := hown
  have hK := hZ.1
  have hl : lv_has ls 2 [(0, .int (iI x)), (1, .int (iI a))] := hl
  refine lv_iload_n hx hb d_MM_behind_0 rfl (lv_at hl 0 rfl) ?_
  refine lv_iload_n hx hb d_MM_behind_1 rfl (lv_at hl 1 rfl) ?_
  refine lv_iconst (v := iI 1) hx hb d_MM_behind_2 rfl ?_
  refine zq_iadd hx hb d_MM_behind_3 ?_
  refine zq_ishr hx hb hx0.1 (by omega) (by omega) (by omega) d_MM_behind_4 ?_
  refine zq_callS (b := 0) (C := "") (As := [.int (iI (x / 2 ^ (a + 1).toNat))]) (rest := []) ⟨hx, hb, hml, hown, hts⟩ (c_MM_bits l D K M    (x / 2 ^ (a + 1).toNat)  (by have := zdp hx0.2 (a + 1).toNat; exact ⟨⟨by omega, by omega⟩, by omega⟩)) (va_cwS 1 hts (zg_T tw_779 tw_780 tw_10 tw_781) rfl rfl rfl (by decide +kernel) ⟨Nat.le_of_ble_eq_true rfl, Nat.le_of_ble_eq_true rfl⟩) hZ hw hA rfl rfl hl.1 (Nat.le_of_ble_eq_true rfl) d_MM_behind_5 ⟨Nat.le_of_ble_eq_true rfl, Nat.le_of_ble_eq_true rfl⟩ (fun v M1 H locs hp hw => ?_)
  obtain ⟨rfl, hMe⟩ := hp
  rw [hMe] at hw
  refine W.eq (g2 := F0 m 8 ls [.int (iI (zbc (x / 2 ^ (a + 1).toNat) 13))]) rfl ?_
  exact zq_iret hx hb hr hlocks hZ hw ⟨rfl, rfl⟩ d_MM_behind_8
abbrev P_MM_carry (K : Nat → ClassId) (M : zq_M) (o : Nat) (bd : Nat → Nat) (th : Int) (put : Int) (wr : Int) (nn : Int) (cir : Int) (oN : Int) (oC : Int) (lbs : Int) (fcs : Int) (arcs : Int) (mns : Int) (kn : Int) (on : Int → Int) (tw : Int → Int) (sm : Int → Int) (k : Int) (se : Int) (a : Int) : Option Value → zq_M → Prop := fun v M' => v = none ∧ M' (bd 13) = some (cJ (K 1) 114688 (zcar sm (se + 2 ^ a.toNat) se (zsn se a.toNat * on (32 * k + a)) (zsn se a.toNat * tw (32 * k + a)) 14)) ∧ ∀ q, q ≠ (bd 13) → M' q = M q
set_option maxHeartbeats 4000000 in
set_option maxRecDepth 100000 in
theorem c_MM_carry (l : Launch) (D : va_G) (K : Nat → ClassId) (M : zq_M) (o : Nat) (bd : Nat → Nat) (th : Int) (put : Int) (wr : Int) (nn : Int) (cir : Int) (oN : Int) (oC : Int) (lbs : Int) (fcs : Int) (arcs : Int) (mns : Int) (kn : Int) (on : Int → Int) (tw : Int → Int) (sm : Int → Int) (k : Int) (se : Int) (a : Int) (h_o : M o = some (.inr (9, [.int (iI th), .int (iI put), .int (iI wr), .ref (bd 0), .ref (bd 1), .int (iI nn), .int (iI cir), .int (iI oN), .int (iI oC), .ref (bd 2), .ref (bd 3), .ref (bd 4), .ref (bd 5), .int (iI lbs), .ref (bd 6), .ref (bd 7), .ref (bd 8), .int (iI fcs), .ref (bd 9), .int (iI arcs), .ref (bd 10), .ref (bd 11), .ref (bd 12), .ref (bd 13), .int (iI mns), .ref (bd 14), .ref (bd 15), .ref (bd 16), .int (iI kn), .ref (bd 17)]))) (hbd : ∀ i j, i < 18 → j < 18 → bd i = bd j → i = j) (h_on : M (bd 11) = some (cI (K 0) 384 on)) (h_tw : M (bd 12) = some (cI (K 0) 384 tw)) (h_sm : M (bd 13) = some (cJ (K 1) 114688 sm)) (hon : ∀ j, 0 ≤ j → j < 384 → inI (on j)) (htw : ∀ j, 0 ≤ j → j < 384 → inI (tw j)) (hk : 0 ≤ k ∧ k < 12) (hse : 0 ≤ se ∧ se < 8192) (ha : 0 ≤ a ∧ a < 13) (hbit : se / 2 ^ a.toNat % 2 = 0) (hlt : se + 2 ^ a.toNat < 8192) : zq_Met l y_MM_carry (.code y_MM_carry b_MM_carry 11 none :: lw_gd) { frames := 2, cells := 0, slots := 0, locals := 43 } D vwCl (zT K) [.ref o, .int (iI k), .int (iI se), .int (iI a)] M (P_MM_carry K M o bd th put wr nn cir oN oC lbs fcs arcs mns kn on tw sm k se a) 0 0 := by
  refine zq_start (cc := b_MM_carry) (maxL := 11) (ret := none) (by decide) rfl (Nat.le_of_ble_eq_true rfl) ?_
  intro p e s m below meth co A ls hx hb hr hml hts hown hnm hlocks hA hZ hw hl
  have hts : ∀ w ∈ lw_gd, w.before [.ref o, .int (iI k), .int (iI se), .int (iI a)].toArray s = true := fun w h => hts w (List.mem_cons_of_mem _ h)
  have hown : s.vm.findClass R_MM = some m.cls := hown
  have hK := hZ.1
  have hl : lv_has ls 11 [(0, .ref o), (1, .int (iI k)), (2, .int (iI se)), (3, .int (iI a))] := hl
  have hfr : ∀ q, q ≠ (bd 13) → M q = M q := fun q _ => rfl
  have hpw := zpw a.toNat
  refine lv_bipush (v := iI 14) hx hb d_MM_carry_0 (by decide) ?_
  refine lv_iload_n hx hb d_MM_carry_2 rfl (lv_at hl 2 rfl) ?_
  refine lv_iconst (v := iI 1) hx hb d_MM_carry_3 rfl ?_
  refine lv_iload_n hx hb d_MM_carry_4 rfl (lv_at hl 3 rfl) ?_
  refine zq_ishl1 hx hb (by omega) (by omega) d_MM_carry_5 ?_
  refine zq_ior2 hx hb (by omega) (by omega) hbit d_MM_carry_6 ?_
  refine zq_imul hx hb d_MM_carry_7 ?_
  refine lv_istore (lv' := [(4, .int (iI (14 * (se + 2 ^ a.toNat)))), (0, .ref o), (1, .int (iI k)), (2, .int (iI se)), (3, .int (iI a))]) hx hb d_MM_carry_8 hl (by decide) rfl (fun ls hl => ?_)
  refine lv_iload_n hx hb d_MM_carry_10 rfl (lv_at hl 3 rfl) ?_
  refine lv_iload_n hx hb d_MM_carry_11 rfl (lv_at hl 4 rfl) ?_
  refine zq_callS (b := 0) (C := "") (As := [.int (iI se), .int (iI a)]) (rest := []) ⟨hx, hb, hml, hown, hts⟩ (c_MM_behind l D K M    se a  ⟨⟨by omega, by omega⟩, by omega⟩ ⟨by omega, by omega⟩) (va_cwS 2 hts (zg_T tw_786 tw_787 tw_10 tw_788) rfl rfl rfl (by decide +kernel) ⟨Nat.le_of_ble_eq_true rfl, Nat.le_of_ble_eq_true rfl⟩) hZ hw hA rfl rfl hl.1 (Nat.le_of_ble_eq_true rfl) d_MM_carry_12 ⟨Nat.le_of_ble_eq_true rfl, Nat.le_of_ble_eq_true rfl⟩ (fun v M1 H locs hp hw => ?_)
  obtain ⟨rfl, hMe⟩ := hp
  rw [hMe] at hw
  refine W.eq (g2 := F0 m 15 ls [.int (iI (zbc (se / 2 ^ (a + 1).toNat) 13))]) rfl ?_
  have hzb := zbc_bd (se / 2 ^ (a + 1).toNat) 13
  refine lv_iconst (v := iI 2) hx hb d_MM_carry_15 rfl ?_
  refine zq_irem hx hb (zbc_bd _ 13).1 ⟨by omega, by omega⟩ (by decide) (by decide) d_MM_carry_16 ?_
  refine zq_if_ne (tgt := 24) hx hb d_MM_carry_17 (by decide) ⟨by omega, by omega⟩ (fun hc2 => ?_) (fun hc2 => ?_)
  · have hzs : (-1 : Int) = zsn se a.toNat := by unfold zsn; rw [show a.toNat + 1 = (a + 1).toNat by omega]; exact (if_neg (by omega)).symm
    refine lv_iconst (v := iI (-1)) hx hb d_MM_carry_24 rfl ?_
    refine lv_istore (lv' := [(5, .int (iI (-1))), (4, .int (iI (14 * (se + 2 ^ a.toNat)))), (0, .ref o), (1, .int (iI k)), (2, .int (iI se)), (3, .int (iI a))]) hx hb d_MM_carry_25 hl (by decide) rfl (fun ls hl => ?_)
    refine lv_iload hx hb d_MM_carry_27 (lv_at hl 0 rfl) ?_
    refine zq_i2l hx hb (by decide) d_MM_carry_29 ?_
    refine lv_aload_n hx hb d_MM_carry_30 rfl (lv_at hl 2 rfl) ?_
    refine zq_get hx hb hts i_MM hown hK hw h_o rfl 21 (by decide) (hts _ tw_607) rfl d_MM_carry_31 ?_
    refine lv_bipush (v := iI 32) hx hb d_MM_carry_34 (by decide) ?_
    refine lv_iload_n hx hb d_MM_carry_36 rfl (lv_at hl 3 rfl) ?_
    refine zq_imul hx hb d_MM_carry_37 ?_
    refine lv_iload_n hx hb d_MM_carry_38 rfl (lv_at hl 5 rfl) ?_
    refine zq_iadd hx hb d_MM_carry_39 ?_
    refine zq_iald hx hb hK hw 0 h_on rfl (by omega) (by omega) (by decide) d_MM_carry_40 ?_
    refine zq_i2l hx hb (hon _ (by omega) (by omega)) d_MM_carry_41 ?_
    refine zq_lmul hx hb d_MM_carry_42 ?_
    refine lv_lstore (lv' := [(6, .long (iL ((-1) * (on ((32 * k) + a))))), (5, .int (iI (-1))), (4, .int (iI (14 * (se + 2 ^ a.toNat)))), (0, .ref o), (1, .int (iI k)), (2, .int (iI se)), (3, .int (iI a))]) hx hb d_MM_carry_43 hl (by decide) rfl (fun ls hl => ?_)
    refine lv_iload hx hb d_MM_carry_45 (lv_at hl 1 rfl) ?_
    refine zq_i2l hx hb (by decide) d_MM_carry_47 ?_
    refine lv_aload_n hx hb d_MM_carry_48 rfl (lv_at hl 3 rfl) ?_
    refine zq_get hx hb hts i_MM hown hK hw h_o rfl 22 (by decide) (hts _ tw_608) rfl d_MM_carry_49 ?_
    refine lv_bipush (v := iI 32) hx hb d_MM_carry_52 (by decide) ?_
    refine lv_iload_n hx hb d_MM_carry_54 rfl (lv_at hl 4 rfl) ?_
    refine zq_imul hx hb d_MM_carry_55 ?_
    refine lv_iload_n hx hb d_MM_carry_56 rfl (lv_at hl 6 rfl) ?_
    refine zq_iadd hx hb d_MM_carry_57 ?_
    refine zq_iald hx hb hK hw 0 h_tw rfl (by omega) (by omega) (by decide) d_MM_carry_58 ?_
    refine zq_i2l hx hb (htw _ (by omega) (by omega)) d_MM_carry_59 ?_
    refine zq_lmul hx hb d_MM_carry_60 ?_
    refine lv_lstore (lv' := [(8, .long (iL ((-1) * (tw ((32 * k) + a))))), (6, .long (iL ((-1) * (on ((32 * k) + a))))), (5, .int (iI (-1))), (4, .int (iI (14 * (se + 2 ^ a.toNat)))), (0, .ref o), (1, .int (iI k)), (2, .int (iI se)), (3, .int (iI a))]) hx hb d_MM_carry_61 hl (by decide) rfl (fun ls hl => ?_)
    obtain ⟨tz, htz⟩ : ∃ z, z = (-1) * (tw ((32 * k) + a)) := ⟨_, rfl⟩
    rw [← htz] at hl
    obtain ⟨pz, hpz⟩ : ∃ z, z = (-1) * (on ((32 * k) + a)) := ⟨_, rfl⟩
    rw [← hpz] at hl
    have hpz : pz = zsn se a.toNat * on (32 * k + a) := by rw [hpz, hzs]
    have htz : tz = zsn se a.toNat * tw (32 * k + a) := by rw [htz, hzs]
    have hL : ∀ (n : Nat) (e0 : Int) (g : Int → Int) (Mq : zq_M) (H : Heap) (locs : List Loc) (ls : Array Slot), (0 ≤ e0 ∧ e0 ≤ 14) → (∀ z, g z = zcar sm (se + 2 ^ a.toNat) se pz tz e0 z) → (14 - e0).toNat < n → (∀ q, q ≠ (bd 13) → Mq q = M q) → Mq o = some (.inr (9, [.int (iI th), .int (iI put), .int (iI wr), .ref (bd 0), .ref (bd 1), .int (iI nn), .int (iI cir), .int (iI oN), .int (iI oC), .ref (bd 2), .ref (bd 3), .ref (bd 4), .ref (bd 5), .int (iI lbs), .ref (bd 6), .ref (bd 7), .ref (bd 8), .int (iI fcs), .ref (bd 9), .int (iI arcs), .ref (bd 10), .ref (bd 11), .ref (bd 12), .ref (bd 13), .int (iI mns), .ref (bd 14), .ref (bd 15), .ref (bd 16), .int (iI kn), .ref (bd 17)])) → Mq (bd 11) = some (cI (K 0) 384 on) → Mq (bd 12) = some (cI (K 0) 384 tw) → Mq (bd 13) = some (cJ (K 1) 114688 g) → zq_W D vwCl A s.heap Mq H locs → lv_has ls 11 [(0, .ref o), (2, .int (iI se)), (4, .int (iI (14 * (se + 2 ^ a.toNat)))), (6, .long (iL pz)), (8, .long (iL tz)), (10, .int (iI e0))] → W p l e ({ frames := 2, cells := 0, slots := 0, locals := 43 } : Room) s m [.ref o, .int (iI k), .int (iI se), .int (iI a)].toArray below meth co H locs 0 0 (MQ below (zq_Q D vwCl (zT K) (P_MM_carry K M o bd th put wr nn cir oN oC lbs fcs arcs mns kn on tw sm k se a) A) [.ref o, .int (iI k), .int (iI se), .int (iI a)].toArray s 0 0 A) (F0 m 66 ls []) := by
      intro n
      induction n with
      | zero =>
        intro e0 g Mq H locs ls he hg hms hfr h_o h_on h_tw h_sm hw hl
        exact absurd hms (Nat.not_lt_zero _)
      | succ n ih_hL =>
        intro e0 g Mq H locs ls he hg hms hfr h_o h_on h_tw h_sm hw hl
        refine lv_iload hx hb d_MM_carry_66 (lv_at hl 5 rfl) ?_
        refine lv_bipush (v := iI 14) hx hb d_MM_carry_68 (by decide) ?_
        refine zq_icmp_ge (tgt := 142) hx hb d_MM_carry_70 (by decide) ⟨by omega, by omega⟩ (by decide) (fun hc3 => ?_) (fun hc3 => ?_)
        · exact zq_vret hx hb hr hlocks hZ hw ⟨rfl, (by rw [← hpz, ← htz, show zcar sm (se + 2 ^ a.toNat) se pz tz 14 = g from (funext fun z => by rw [hg z, show e0 = 14 by omega])]; exact h_sm), hfr⟩ d_MM_carry_142
        · refine lv_aload_n hx hb d_MM_carry_73 rfl (lv_at hl 0 rfl) ?_
          refine zq_get hx hb hts i_MM hown hK hw h_o rfl 23 (by decide) (hts _ tw_609) rfl d_MM_carry_74 ?_
          refine lv_iload hx hb d_MM_carry_77 (lv_at hl 2 rfl) ?_
          refine lv_iload hx hb d_MM_carry_79 (lv_at hl 5 rfl) ?_
          refine zq_iadd hx hb d_MM_carry_81 ?_
          refine lv_aload_n hx hb d_MM_carry_82 rfl (lv_at hl 0 rfl) ?_
          refine zq_get hx hb hts i_MM hown hK hw h_o rfl 23 (by decide) (hts _ tw_609) rfl d_MM_carry_83 ?_
          refine lv_iload hx hb d_MM_carry_86 (lv_at hl 2 rfl) ?_
          refine lv_iload hx hb d_MM_carry_88 (lv_at hl 5 rfl) ?_
          refine zq_iadd hx hb d_MM_carry_90 ?_
          refine zq_lald hx hb hK hw 1 h_sm rfl (by omega) (by omega) (by decide) d_MM_carry_91 ?_
          refine lv_lload hx hb d_MM_carry_92 (lv_at hl 3 rfl) ?_
          refine lv_aload_n hx hb d_MM_carry_94 rfl (lv_at hl 0 rfl) ?_
          refine zq_get hx hb hts i_MM hown hK hw h_o rfl 23 (by decide) (hts _ tw_609) rfl d_MM_carry_95 ?_
          refine lv_bipush (v := iI 14) hx hb d_MM_carry_98 (by decide) ?_
          refine lv_iload_n hx hb d_MM_carry_100 rfl (lv_at hl 1 rfl) ?_
          refine zq_imul hx hb d_MM_carry_101 ?_
          refine lv_iload hx hb d_MM_carry_102 (lv_at hl 5 rfl) ?_
          refine zq_iadd hx hb d_MM_carry_104 ?_
          refine zq_lald hx hb hK hw 1 h_sm rfl (by omega) (by omega) (by decide) d_MM_carry_105 ?_
          refine zq_lmul hx hb d_MM_carry_106 ?_
          refine zq_ladd hx hb d_MM_carry_107 ?_
          refine lv_iload hx hb d_MM_carry_108 (lv_at hl 5 rfl) ?_
          refine zq_if_le (tgt := 133) hx hb d_MM_carry_110 (by decide) ⟨by omega, by omega⟩ (fun hc4 => ?_) (fun hc4 => ?_)
          · refine lv_lconst (v := iL 0) hx hb d_MM_carry_133 (by decide) ?_
            refine zq_ladd hx hb d_MM_carry_134 ?_
            rw [show ((g ((14 * (se + 2 ^ a.toNat)) + e0)) + (pz * (g ((14 * se) + e0)))) + 0 = ((g ((14 * (se + 2 ^ a.toNat)) + e0)) + (pz * (g ((14 * se) + e0))) : Int) from by omega]
            refine zq_last hx hb hK hw 1 h_sm rfl (by omega) (by omega) (by decide) d_MM_carry_135 (fun M5 H locs hs ho hw => ?_)
            have h_o : M5 o = some (.inr (9, [.int (iI th), .int (iI put), .int (iI wr), .ref (bd 0), .ref (bd 1), .int (iI nn), .int (iI cir), .int (iI oN), .int (iI oC), .ref (bd 2), .ref (bd 3), .ref (bd 4), .ref (bd 5), .int (iI lbs), .ref (bd 6), .ref (bd 7), .ref (bd 8), .int (iI fcs), .ref (bd 9), .int (iI arcs), .ref (bd 10), .ref (bd 11), .ref (bd 12), .ref (bd 13), .int (iI mns), .ref (bd 14), .ref (bd 15), .ref (bd 16), .int (iI kn), .ref (bd 17)])) := (ho _ (zq_ne h_o h_sm (by simp))).trans h_o
            have h_on : M5 (bd 11) = some (cI (K 0) 384 on) := (ho _ (zbd hbd 11 13)).trans h_on
            have h_tw : M5 (bd 12) = some (cI (K 0) 384 tw) := (ho _ (zbd hbd 12 13)).trans h_tw
            have h_sm : M5 (bd 13) = some (cJ (K 1) 114688 (zu g ((14 * (se + 2 ^ a.toNat)) + e0) ((g ((14 * (se + 2 ^ a.toNat)) + e0)) + (pz * (g ((14 * se) + e0)))))) := hs
            have hfr : ∀ q, q ≠ (bd 13) → M5 q = M q := fun q g0 => (ho q g0).trans (hfr q g0)
            refine lv_iinc (v := iI (e0 + 1)) (lv' := [(10, .int (iI (e0 + 1))), (0, .ref o), (2, .int (iI se)), (4, .int (iI (14 * (se + 2 ^ a.toNat)))), (6, .long (iL pz)), (8, .long (iL tz))]) hx hb d_MM_carry_136 hl (k := 5) rfl (iI_add _ _) (by decide) rfl (fun ls hl => ?_)
            refine lv_goto (tgt := 66) hx hb d_MM_carry_139 (by decide) ?_
            exact ih_hL (e0 + 1) (zu g ((14 * (se + 2 ^ a.toNat)) + e0) ((g ((14 * (se + 2 ^ a.toNat)) + e0)) + (pz * (g ((14 * se) + e0))))) M5 _ _ _ (by omega) (zcar_s hg (by omega) ⟨by omega, by omega⟩ (by rw [if_neg (by omega), Int.add_zero])) (by omega) hfr h_o h_on h_tw h_sm hw (lv_sub hl [1, 2, 3, 4, 5, 0] rfl)
          · refine lv_lload hx hb d_MM_carry_113 (lv_at hl 4 rfl) ?_
            refine lv_aload_n hx hb d_MM_carry_115 rfl (lv_at hl 0 rfl) ?_
            refine zq_get hx hb hts i_MM hown hK hw h_o rfl 23 (by decide) (hts _ tw_609) rfl d_MM_carry_116 ?_
            refine lv_bipush (v := iI 14) hx hb d_MM_carry_119 (by decide) ?_
            refine lv_iload_n hx hb d_MM_carry_121 rfl (lv_at hl 1 rfl) ?_
            refine zq_imul hx hb d_MM_carry_122 ?_
            refine lv_iload hx hb d_MM_carry_123 (lv_at hl 5 rfl) ?_
            refine zq_iadd hx hb d_MM_carry_125 ?_
            refine lv_iconst (v := iI 1) hx hb d_MM_carry_126 rfl ?_
            refine zq_isub hx hb d_MM_carry_127 ?_
            refine zq_lald hx hb hK hw 1 h_sm rfl (by omega) (by omega) (by decide) d_MM_carry_128 ?_
            refine zq_lmul hx hb d_MM_carry_129 ?_
            refine lv_goto (tgt := 134) hx hb d_MM_carry_130 (by decide) ?_
            refine zq_ladd hx hb d_MM_carry_134 ?_
            refine zq_last hx hb hK hw 1 h_sm rfl (by omega) (by omega) (by decide) d_MM_carry_135 (fun M6 H locs hs ho hw => ?_)
            have h_o : M6 o = some (.inr (9, [.int (iI th), .int (iI put), .int (iI wr), .ref (bd 0), .ref (bd 1), .int (iI nn), .int (iI cir), .int (iI oN), .int (iI oC), .ref (bd 2), .ref (bd 3), .ref (bd 4), .ref (bd 5), .int (iI lbs), .ref (bd 6), .ref (bd 7), .ref (bd 8), .int (iI fcs), .ref (bd 9), .int (iI arcs), .ref (bd 10), .ref (bd 11), .ref (bd 12), .ref (bd 13), .int (iI mns), .ref (bd 14), .ref (bd 15), .ref (bd 16), .int (iI kn), .ref (bd 17)])) := (ho _ (zq_ne h_o h_sm (by simp))).trans h_o
            have h_on : M6 (bd 11) = some (cI (K 0) 384 on) := (ho _ (zbd hbd 11 13)).trans h_on
            have h_tw : M6 (bd 12) = some (cI (K 0) 384 tw) := (ho _ (zbd hbd 12 13)).trans h_tw
            have h_sm : M6 (bd 13) = some (cJ (K 1) 114688 (zu g ((14 * (se + 2 ^ a.toNat)) + e0) (((g ((14 * (se + 2 ^ a.toNat)) + e0)) + (pz * (g ((14 * se) + e0)))) + (tz * (g (((14 * se) + e0) - 1)))))) := hs
            have hfr : ∀ q, q ≠ (bd 13) → M6 q = M q := fun q g0 => (ho q g0).trans (hfr q g0)
            refine lv_iinc (v := iI (e0 + 1)) (lv' := [(10, .int (iI (e0 + 1))), (0, .ref o), (2, .int (iI se)), (4, .int (iI (14 * (se + 2 ^ a.toNat)))), (6, .long (iL pz)), (8, .long (iL tz))]) hx hb d_MM_carry_136 hl (k := 5) rfl (iI_add _ _) (by decide) rfl (fun ls hl => ?_)
            refine lv_goto (tgt := 66) hx hb d_MM_carry_139 (by decide) ?_
            exact ih_hL (e0 + 1) (zu g ((14 * (se + 2 ^ a.toNat)) + e0) (((g ((14 * (se + 2 ^ a.toNat)) + e0)) + (pz * (g ((14 * se) + e0)))) + (tz * (g (((14 * se) + e0) - 1))))) M6 _ _ _ (by omega) (zcar_s hg (by omega) ⟨by omega, by omega⟩ (by rw [if_pos (by omega)])) (by omega) hfr h_o h_on h_tw h_sm hw (lv_sub hl [1, 2, 3, 4, 5, 0] rfl)
    refine lv_iconst (v := iI 0) hx hb d_MM_carry_63 rfl ?_
    refine lv_istore (lv' := [(10, .int (iI 0)), (8, .long (iL tz)), (6, .long (iL pz)), (5, .int (iI (-1))), (4, .int (iI (14 * (se + 2 ^ a.toNat)))), (0, .ref o), (1, .int (iI k)), (2, .int (iI se)), (3, .int (iI a))]) hx hb d_MM_carry_64 hl (by decide) rfl (fun ls hl => ?_)
    exact hL _ 0 sm M _ _ _ ⟨by omega, by omega⟩ (zcar_0 _ _ _ _ _) (Nat.lt_succ_self _) hfr h_o h_on h_tw h_sm hw (lv_sub hl [5, 7, 4, 2, 1, 0] rfl)
  · have hzs : (1 : Int) = zsn se a.toNat := by unfold zsn; rw [show a.toNat + 1 = (a + 1).toNat by omega]; exact (if_pos (by omega)).symm
    refine lv_iconst (v := iI 1) hx hb d_MM_carry_20 rfl ?_
    refine lv_goto (tgt := 25) hx hb d_MM_carry_21 (by decide) ?_
    refine lv_istore (lv' := [(5, .int (iI 1)), (4, .int (iI (14 * (se + 2 ^ a.toNat)))), (0, .ref o), (1, .int (iI k)), (2, .int (iI se)), (3, .int (iI a))]) hx hb d_MM_carry_25 hl (by decide) rfl (fun ls hl => ?_)
    refine lv_iload hx hb d_MM_carry_27 (lv_at hl 0 rfl) ?_
    refine zq_i2l hx hb (by decide) d_MM_carry_29 ?_
    refine lv_aload_n hx hb d_MM_carry_30 rfl (lv_at hl 2 rfl) ?_
    refine zq_get hx hb hts i_MM hown hK hw h_o rfl 21 (by decide) (hts _ tw_607) rfl d_MM_carry_31 ?_
    refine lv_bipush (v := iI 32) hx hb d_MM_carry_34 (by decide) ?_
    refine lv_iload_n hx hb d_MM_carry_36 rfl (lv_at hl 3 rfl) ?_
    refine zq_imul hx hb d_MM_carry_37 ?_
    refine lv_iload_n hx hb d_MM_carry_38 rfl (lv_at hl 5 rfl) ?_
    refine zq_iadd hx hb d_MM_carry_39 ?_
    refine zq_iald hx hb hK hw 0 h_on rfl (by omega) (by omega) (by decide) d_MM_carry_40 ?_
    refine zq_i2l hx hb (hon _ (by omega) (by omega)) d_MM_carry_41 ?_
    refine zq_lmul hx hb d_MM_carry_42 ?_
    refine lv_lstore (lv' := [(6, .long (iL (1 * (on ((32 * k) + a))))), (5, .int (iI 1)), (4, .int (iI (14 * (se + 2 ^ a.toNat)))), (0, .ref o), (1, .int (iI k)), (2, .int (iI se)), (3, .int (iI a))]) hx hb d_MM_carry_43 hl (by decide) rfl (fun ls hl => ?_)
    refine lv_iload hx hb d_MM_carry_45 (lv_at hl 1 rfl) ?_
    refine zq_i2l hx hb (by decide) d_MM_carry_47 ?_
    refine lv_aload_n hx hb d_MM_carry_48 rfl (lv_at hl 3 rfl) ?_
    refine zq_get hx hb hts i_MM hown hK hw h_o rfl 22 (by decide) (hts _ tw_608) rfl d_MM_carry_49 ?_
    refine lv_bipush (v := iI 32) hx hb d_MM_carry_52 (by decide) ?_
    refine lv_iload_n hx hb d_MM_carry_54 rfl (lv_at hl 4 rfl) ?_
    refine zq_imul hx hb d_MM_carry_55 ?_
    refine lv_iload_n hx hb d_MM_carry_56 rfl (lv_at hl 6 rfl) ?_
    refine zq_iadd hx hb d_MM_carry_57 ?_
    refine zq_iald hx hb hK hw 0 h_tw rfl (by omega) (by omega) (by decide) d_MM_carry_58 ?_
    refine zq_i2l hx hb (htw _ (by omega) (by omega)) d_MM_carry_59 ?_
    refine zq_lmul hx hb d_MM_carry_60 ?_
    refine lv_lstore (lv' := [(8, .long (iL (1 * (tw ((32 * k) + a))))), (6, .long (iL (1 * (on ((32 * k) + a))))), (5, .int (iI 1)), (4, .int (iI (14 * (se + 2 ^ a.toNat)))), (0, .ref o), (1, .int (iI k)), (2, .int (iI se)), (3, .int (iI a))]) hx hb d_MM_carry_61 hl (by decide) rfl (fun ls hl => ?_)
    obtain ⟨tz, htz⟩ : ∃ z, z = 1 * (tw ((32 * k) + a)) := ⟨_, rfl⟩
    rw [← htz] at hl
    obtain ⟨pz, hpz⟩ : ∃ z, z = 1 * (on ((32 * k) + a)) := ⟨_, rfl⟩
    rw [← hpz] at hl
    have hpz : pz = zsn se a.toNat * on (32 * k + a) := by rw [hpz, hzs]
    have htz : tz = zsn se a.toNat * tw (32 * k + a) := by rw [htz, hzs]
    have hL : ∀ (n : Nat) (e0 : Int) (g : Int → Int) (Mq : zq_M) (H : Heap) (locs : List Loc) (ls : Array Slot), (0 ≤ e0 ∧ e0 ≤ 14) → (∀ z, g z = zcar sm (se + 2 ^ a.toNat) se pz tz e0 z) → (14 - e0).toNat < n → (∀ q, q ≠ (bd 13) → Mq q = M q) → Mq o = some (.inr (9, [.int (iI th), .int (iI put), .int (iI wr), .ref (bd 0), .ref (bd 1), .int (iI nn), .int (iI cir), .int (iI oN), .int (iI oC), .ref (bd 2), .ref (bd 3), .ref (bd 4), .ref (bd 5), .int (iI lbs), .ref (bd 6), .ref (bd 7), .ref (bd 8), .int (iI fcs), .ref (bd 9), .int (iI arcs), .ref (bd 10), .ref (bd 11), .ref (bd 12), .ref (bd 13), .int (iI mns), .ref (bd 14), .ref (bd 15), .ref (bd 16), .int (iI kn), .ref (bd 17)])) → Mq (bd 11) = some (cI (K 0) 384 on) → Mq (bd 12) = some (cI (K 0) 384 tw) → Mq (bd 13) = some (cJ (K 1) 114688 g) → zq_W D vwCl A s.heap Mq H locs → lv_has ls 11 [(0, .ref o), (2, .int (iI se)), (4, .int (iI (14 * (se + 2 ^ a.toNat)))), (6, .long (iL pz)), (8, .long (iL tz)), (10, .int (iI e0))] → W p l e ({ frames := 2, cells := 0, slots := 0, locals := 43 } : Room) s m [.ref o, .int (iI k), .int (iI se), .int (iI a)].toArray below meth co H locs 0 0 (MQ below (zq_Q D vwCl (zT K) (P_MM_carry K M o bd th put wr nn cir oN oC lbs fcs arcs mns kn on tw sm k se a) A) [.ref o, .int (iI k), .int (iI se), .int (iI a)].toArray s 0 0 A) (F0 m 66 ls []) := by
      intro n
      induction n with
      | zero =>
        intro e0 g Mq H locs ls he hg hms hfr h_o h_on h_tw h_sm hw hl
        exact absurd hms (Nat.not_lt_zero _)
      | succ n ih_hL =>
        intro e0 g Mq H locs ls he hg hms hfr h_o h_on h_tw h_sm hw hl
        refine lv_iload hx hb d_MM_carry_66 (lv_at hl 5 rfl) ?_
        refine lv_bipush (v := iI 14) hx hb d_MM_carry_68 (by decide) ?_
        refine zq_icmp_ge (tgt := 142) hx hb d_MM_carry_70 (by decide) ⟨by omega, by omega⟩ (by decide) (fun hc7 => ?_) (fun hc7 => ?_)
        · exact zq_vret hx hb hr hlocks hZ hw ⟨rfl, (by rw [← hpz, ← htz, show zcar sm (se + 2 ^ a.toNat) se pz tz 14 = g from (funext fun z => by rw [hg z, show e0 = 14 by omega])]; exact h_sm), hfr⟩ d_MM_carry_142
        · refine lv_aload_n hx hb d_MM_carry_73 rfl (lv_at hl 0 rfl) ?_
          refine zq_get hx hb hts i_MM hown hK hw h_o rfl 23 (by decide) (hts _ tw_609) rfl d_MM_carry_74 ?_
          refine lv_iload hx hb d_MM_carry_77 (lv_at hl 2 rfl) ?_
          refine lv_iload hx hb d_MM_carry_79 (lv_at hl 5 rfl) ?_
          refine zq_iadd hx hb d_MM_carry_81 ?_
          refine lv_aload_n hx hb d_MM_carry_82 rfl (lv_at hl 0 rfl) ?_
          refine zq_get hx hb hts i_MM hown hK hw h_o rfl 23 (by decide) (hts _ tw_609) rfl d_MM_carry_83 ?_
          refine lv_iload hx hb d_MM_carry_86 (lv_at hl 2 rfl) ?_
          refine lv_iload hx hb d_MM_carry_88 (lv_at hl 5 rfl) ?_
          refine zq_iadd hx hb d_MM_carry_90 ?_
          refine zq_lald hx hb hK hw 1 h_sm rfl (by omega) (by omega) (by decide) d_MM_carry_91 ?_
          refine lv_lload hx hb d_MM_carry_92 (lv_at hl 3 rfl) ?_
          refine lv_aload_n hx hb d_MM_carry_94 rfl (lv_at hl 0 rfl) ?_
          refine zq_get hx hb hts i_MM hown hK hw h_o rfl 23 (by decide) (hts _ tw_609) rfl d_MM_carry_95 ?_
          refine lv_bipush (v := iI 14) hx hb d_MM_carry_98 (by decide) ?_
          refine lv_iload_n hx hb d_MM_carry_100 rfl (lv_at hl 1 rfl) ?_
          refine zq_imul hx hb d_MM_carry_101 ?_
          refine lv_iload hx hb d_MM_carry_102 (lv_at hl 5 rfl) ?_
          refine zq_iadd hx hb d_MM_carry_104 ?_
          refine zq_lald hx hb hK hw 1 h_sm rfl (by omega) (by omega) (by decide) d_MM_carry_105 ?_
          refine zq_lmul hx hb d_MM_carry_106 ?_
          refine zq_ladd hx hb d_MM_carry_107 ?_
          refine lv_iload hx hb d_MM_carry_108 (lv_at hl 5 rfl) ?_
          refine zq_if_le (tgt := 133) hx hb d_MM_carry_110 (by decide) ⟨by omega, by omega⟩ (fun hc8 => ?_) (fun hc8 => ?_)
          · refine lv_lconst (v := iL 0) hx hb d_MM_carry_133 (by decide) ?_
            refine zq_ladd hx hb d_MM_carry_134 ?_
            rw [show ((g ((14 * (se + 2 ^ a.toNat)) + e0)) + (pz * (g ((14 * se) + e0)))) + 0 = ((g ((14 * (se + 2 ^ a.toNat)) + e0)) + (pz * (g ((14 * se) + e0))) : Int) from by omega]
            refine zq_last hx hb hK hw 1 h_sm rfl (by omega) (by omega) (by decide) d_MM_carry_135 (fun M9 H locs hs ho hw => ?_)
            have h_o : M9 o = some (.inr (9, [.int (iI th), .int (iI put), .int (iI wr), .ref (bd 0), .ref (bd 1), .int (iI nn), .int (iI cir), .int (iI oN), .int (iI oC), .ref (bd 2), .ref (bd 3), .ref (bd 4), .ref (bd 5), .int (iI lbs), .ref (bd 6), .ref (bd 7), .ref (bd 8), .int (iI fcs), .ref (bd 9), .int (iI arcs), .ref (bd 10), .ref (bd 11), .ref (bd 12), .ref (bd 13), .int (iI mns), .ref (bd 14), .ref (bd 15), .ref (bd 16), .int (iI kn), .ref (bd 17)])) := (ho _ (zq_ne h_o h_sm (by simp))).trans h_o
            have h_on : M9 (bd 11) = some (cI (K 0) 384 on) := (ho _ (zbd hbd 11 13)).trans h_on
            have h_tw : M9 (bd 12) = some (cI (K 0) 384 tw) := (ho _ (zbd hbd 12 13)).trans h_tw
            have h_sm : M9 (bd 13) = some (cJ (K 1) 114688 (zu g ((14 * (se + 2 ^ a.toNat)) + e0) ((g ((14 * (se + 2 ^ a.toNat)) + e0)) + (pz * (g ((14 * se) + e0)))))) := hs
            have hfr : ∀ q, q ≠ (bd 13) → M9 q = M q := fun q g0 => (ho q g0).trans (hfr q g0)
            refine lv_iinc (v := iI (e0 + 1)) (lv' := [(10, .int (iI (e0 + 1))), (0, .ref o), (2, .int (iI se)), (4, .int (iI (14 * (se + 2 ^ a.toNat)))), (6, .long (iL pz)), (8, .long (iL tz))]) hx hb d_MM_carry_136 hl (k := 5) rfl (iI_add _ _) (by decide) rfl (fun ls hl => ?_)
            refine lv_goto (tgt := 66) hx hb d_MM_carry_139 (by decide) ?_
            exact ih_hL (e0 + 1) (zu g ((14 * (se + 2 ^ a.toNat)) + e0) ((g ((14 * (se + 2 ^ a.toNat)) + e0)) + (pz * (g ((14 * se) + e0))))) M9 _ _ _ (by omega) (zcar_s hg (by omega) ⟨by omega, by omega⟩ (by rw [if_neg (by omega), Int.add_zero])) (by omega) hfr h_o h_on h_tw h_sm hw (lv_sub hl [1, 2, 3, 4, 5, 0] rfl)
          · refine lv_lload hx hb d_MM_carry_113 (lv_at hl 4 rfl) ?_
            refine lv_aload_n hx hb d_MM_carry_115 rfl (lv_at hl 0 rfl) ?_
            refine zq_get hx hb hts i_MM hown hK hw h_o rfl 23 (by decide) (hts _ tw_609) rfl d_MM_carry_116 ?_
            refine lv_bipush (v := iI 14) hx hb d_MM_carry_119 (by decide) ?_
            refine lv_iload_n hx hb d_MM_carry_121 rfl (lv_at hl 1 rfl) ?_
            refine zq_imul hx hb d_MM_carry_122 ?_
            refine lv_iload hx hb d_MM_carry_123 (lv_at hl 5 rfl) ?_
            refine zq_iadd hx hb d_MM_carry_125 ?_
            refine lv_iconst (v := iI 1) hx hb d_MM_carry_126 rfl ?_
            refine zq_isub hx hb d_MM_carry_127 ?_
            refine zq_lald hx hb hK hw 1 h_sm rfl (by omega) (by omega) (by decide) d_MM_carry_128 ?_
            refine zq_lmul hx hb d_MM_carry_129 ?_
            refine lv_goto (tgt := 134) hx hb d_MM_carry_130 (by decide) ?_
            refine zq_ladd hx hb d_MM_carry_134 ?_
            refine zq_last hx hb hK hw 1 h_sm rfl (by omega) (by omega) (by decide) d_MM_carry_135 (fun M10 H locs hs ho hw => ?_)
            have h_o : M10 o = some (.inr (9, [.int (iI th), .int (iI put), .int (iI wr), .ref (bd 0), .ref (bd 1), .int (iI nn), .int (iI cir), .int (iI oN), .int (iI oC), .ref (bd 2), .ref (bd 3), .ref (bd 4), .ref (bd 5), .int (iI lbs), .ref (bd 6), .ref (bd 7), .ref (bd 8), .int (iI fcs), .ref (bd 9), .int (iI arcs), .ref (bd 10), .ref (bd 11), .ref (bd 12), .ref (bd 13), .int (iI mns), .ref (bd 14), .ref (bd 15), .ref (bd 16), .int (iI kn), .ref (bd 17)])) := (ho _ (zq_ne h_o h_sm (by simp))).trans h_o
            have h_on : M10 (bd 11) = some (cI (K 0) 384 on) := (ho _ (zbd hbd 11 13)).trans h_on
            have h_tw : M10 (bd 12) = some (cI (K 0) 384 tw) := (ho _ (zbd hbd 12 13)).trans h_tw
            have h_sm : M10 (bd 13) = some (cJ (K 1) 114688 (zu g ((14 * (se + 2 ^ a.toNat)) + e0) (((g ((14 * (se + 2 ^ a.toNat)) + e0)) + (pz * (g ((14 * se) + e0)))) + (tz * (g (((14 * se) + e0) - 1)))))) := hs
            have hfr : ∀ q, q ≠ (bd 13) → M10 q = M q := fun q g0 => (ho q g0).trans (hfr q g0)
            refine lv_iinc (v := iI (e0 + 1)) (lv' := [(10, .int (iI (e0 + 1))), (0, .ref o), (2, .int (iI se)), (4, .int (iI (14 * (se + 2 ^ a.toNat)))), (6, .long (iL pz)), (8, .long (iL tz))]) hx hb d_MM_carry_136 hl (k := 5) rfl (iI_add _ _) (by decide) rfl (fun ls hl => ?_)
            refine lv_goto (tgt := 66) hx hb d_MM_carry_139 (by decide) ?_
            exact ih_hL (e0 + 1) (zu g ((14 * (se + 2 ^ a.toNat)) + e0) (((g ((14 * (se + 2 ^ a.toNat)) + e0)) + (pz * (g ((14 * se) + e0)))) + (tz * (g (((14 * se) + e0) - 1))))) M10 _ _ _ (by omega) (zcar_s hg (by omega) ⟨by omega, by omega⟩ (by rw [if_pos (by omega)])) (by omega) hfr h_o h_on h_tw h_sm hw (lv_sub hl [1, 2, 3, 4, 5, 0] rfl)
    refine lv_iconst (v := iI 0) hx hb d_MM_carry_63 rfl ?_
    refine lv_istore (lv' := [(10, .int (iI 0)), (8, .long (iL tz)), (6, .long (iL pz)), (5, .int (iI 1)), (4, .int (iI (14 * (se + 2 ^ a.toNat)))), (0, .ref o), (1, .int (iI k)), (2, .int (iI se)), (3, .int (iI a))]) hx hb d_MM_carry_64 hl (by decide) rfl (fun ls hl => ?_)
    exact hL _ 0 sm M _ _ _ ⟨by omega, by omega⟩ (zcar_0 _ _ _ _ _) (Nat.lt_succ_self _) hfr h_o h_on h_tw h_sm hw (lv_sub hl [5, 7, 4, 2, 1, 0] rfl)
