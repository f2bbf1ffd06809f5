abbrev P_AL_size (K : Nat → ClassId) (M : zq_M) (o : Nat) (aA : Nat) (bA : Nat) (cA : Nat) (p0 : Int) (c : Int) (al : Int → Int) (at0 : Int → Int) (ls0 : Int → Int) : Option Value → zq_M → Prop := fun v M' => v = some (.int (iI c)) ∧ M' = M
set_option maxHeartbeats 4000000 in
set_option maxRecDepth 100000 in
theorem c_AL_size (l : Launch) (D : va_G) (K : Nat → ClassId) (M : zq_M) (o : Nat) (aA : Nat) (bA : Nat) (cA : Nat) (p0 : Int) (c : Int) (al : Int → Int) (at0 : Int → Int) (ls0 : Int → Int) (h_o : M o = some (.inr (1, [.ref aA, .ref bA, .ref cA, .int (iI p0), .int (iI c)]))) (h_a : M aA = some (cI (K 0) 48 al)) (h_b : M bA = some (cI (K 0) 48 at0)) (h_c : M cA = some (cI (K 0) 33 ls0)) (hab : aA ≠ bA) (hA0 : zA p0 c al at0 ls0) : zq_Met l y_AL_size (.code y_AL_size b_AL_size 1 (some .int) :: lw_gd) { frames := 0, cells := 0, slots := 0, locals := 0 } D vwCl (zT K) [.ref o] M (P_AL_size K M o aA bA cA p0 c al at0 ls0) 0 0 := by
  refine zq_start (cc := b_AL_size) (maxL := 1) (ret := (some .int)) (by decide) rfl (Nat.le_of_ble_eq_true rfl) ?_
  intro p e s m below meth co A ls hx hb hr hml hts hown hnm hlocks hA hZ hw hl
  have hts : ∀ w ∈ lw_gd, w.before [.ref o].toArray s = true := fun w h => hts w (List.mem_cons_of_mem _ h)
  have hown : s.vm.findClass R_AL = some m.cls := hown
  have hK := hZ.1
  have hl : lv_has ls 1 [(0, .ref o)] := hl
  refine lv_aload_n hx hb d_AL_size_0 rfl (lv_at hl 0 rfl) ?_
  refine zq_get hx hb hts i_AL hown hK hw h_o rfl 4 (by decide) (hts _ tw_69) rfl d_AL_size_1 ?_
  exact zq_iret hx hb hr hlocks hZ hw ⟨rfl, rfl⟩ d_AL_size_4
abbrev P_AL_leastLabel (K : Nat → ClassId) (M : zq_M) (o : Nat) (aA : Nat) (bA : Nat) (cA : Nat) (p0 : Int) (c : Int) (al : Int → Int) (at0 : Int → Int) (ls0 : Int → Int) (n0 : Int) : Option Value → zq_M → Prop := fun v M' => v = some (.int (iI (if 0 ≤ n0 ∧ n0 < c then ls0 n0 else -1))) ∧ M' = M
set_option maxHeartbeats 4000000 in
set_option maxRecDepth 100000 in
theorem c_AL_leastLabel (l : Launch) (D : va_G) (K : Nat → ClassId) (M : zq_M) (o : Nat) (aA : Nat) (bA : Nat) (cA : Nat) (p0 : Int) (c : Int) (al : Int → Int) (at0 : Int → Int) (ls0 : Int → Int) (n0 : Int) (h_o : M o = some (.inr (1, [.ref aA, .ref bA, .ref cA, .int (iI p0), .int (iI c)]))) (h_a : M aA = some (cI (K 0) 48 al)) (h_b : M bA = some (cI (K 0) 48 at0)) (h_c : M cA = some (cI (K 0) 33 ls0)) (hab : aA ≠ bA) (hA0 : zA p0 c al at0 ls0) (hn : inI n0) : zq_Met l y_AL_leastLabel (.code y_AL_leastLabel b_AL_leastLabel 2 (some .int) :: lw_gd) { frames := 0, cells := 0, slots := 0, locals := 0 } D vwCl (zT K) [.ref o, .int (iI n0)] M (P_AL_leastLabel K M o aA bA cA p0 c al at0 ls0 n0) 0 0 := by
  refine zq_start (cc := b_AL_leastLabel) (maxL := 2) (ret := (some .int)) (by decide) rfl (Nat.le_of_ble_eq_true rfl) ?_
  intro p e s m below meth co A ls hx hb hr hml hts hown hnm hlocks hA hZ hw hl
  have hts : ∀ w ∈ lw_gd, w.before [.ref o, .int (iI n0)].toArray s = true := fun w h => hts w (List.mem_cons_of_mem _ h)
  have hown : s.vm.findClass R_AL = some m.cls := hown
  have hK := hZ.1
  have hl : lv_has ls 2 [(0, .ref o), (1, .int (iI n0))] := hl
  obtain ⟨hp1, hp2, hq1, hq2, hi1, hi2, hi3⟩ := id hA0
  refine lv_iload_n hx hb d_AL_leastLabel_0 rfl (lv_at hl 1 rfl) ?_
  refine zq_if_lt (tgt := 21) hx hb d_AL_leastLabel_1 (by decide) hn (fun hc1 => ?_) (fun hc1 => ?_)
  · refine lv_iconst (v := iI (-1)) hx hb d_AL_leastLabel_21 rfl ?_
    exact zq_iret hx hb hr hlocks hZ hw ⟨zq_ri (by rw [if_neg (by omega)]), rfl⟩ d_AL_leastLabel_22
  · refine lv_iload_n hx hb d_AL_leastLabel_4 rfl (lv_at hl 1 rfl) ?_
    refine lv_aload_n hx hb d_AL_leastLabel_5 rfl (lv_at hl 0 rfl) ?_
    refine zq_get hx hb hts i_AL hown hK hw h_o rfl 4 (by decide) (hts _ tw_69) rfl d_AL_leastLabel_6 ?_
    refine zq_icmp_ge (tgt := 21) hx hb d_AL_leastLabel_9 (by decide) hn ⟨by omega, by omega⟩ (fun hc2 => ?_) (fun hc2 => ?_)
    · refine lv_iconst (v := iI (-1)) hx hb d_AL_leastLabel_21 rfl ?_
      exact zq_iret hx hb hr hlocks hZ hw ⟨zq_ri (by rw [if_neg (by omega)]), rfl⟩ d_AL_leastLabel_22
    · refine lv_aload_n hx hb d_AL_leastLabel_12 rfl (lv_at hl 0 rfl) ?_
      refine zq_get hx hb hts i_AL hown hK hw h_o rfl 2 (by decide) (hts _ tw_67) rfl d_AL_leastLabel_13 ?_
      refine lv_iload_n hx hb d_AL_leastLabel_16 rfl (lv_at hl 1 rfl) ?_
      refine zq_iald hx hb hK hw 0 h_c rfl (by omega) (by omega) (by decide) d_AL_leastLabel_17 ?_
      refine lv_goto (tgt := 22) hx hb d_AL_leastLabel_18 (by decide) ?_
      exact zq_iret hx hb hr hlocks hZ hw ⟨zq_ri (by rw [if_pos (by omega)]), rfl⟩ d_AL_leastLabel_22
abbrev P_AL_numberAt (K : Nat → ClassId) (M : zq_M) (o : Nat) (aA : Nat) (bA : Nat) (cA : Nat) (p0 : Int) (c : Int) (al : Int → Int) (at0 : Int → Int) (ls0 : Int → Int) (x : Int) : Option Value → zq_M → Prop := fun v M' => ∃ r, v = some (.int (iI r)) ∧ zNum ls0 c (at0 x) r ∧ M' = M
set_option maxHeartbeats 4000000 in
set_option maxRecDepth 100000 in
theorem c_AL_numberAt (l : Launch) (D : va_G) (K : Nat → ClassId) (M : zq_M) (o : Nat) (aA : Nat) (bA : Nat) (cA : Nat) (p0 : Int) (c : Int) (al : Int → Int) (at0 : Int → Int) (ls0 : Int → Int) (x : Int) (h_o : M o = some (.inr (1, [.ref aA, .ref bA, .ref cA, .int (iI p0), .int (iI c)]))) (h_a : M aA = some (cI (K 0) 48 al)) (h_b : M bA = some (cI (K 0) 48 at0)) (h_c : M cA = some (cI (K 0) 33 ls0)) (hab : aA ≠ bA) (hA0 : zA p0 c al at0 ls0) (hx0 : 0 ≤ x ∧ x < p0) : zq_Met l y_AL_numberAt (.code y_AL_numberAt b_AL_numberAt 3 (some .int) :: lw_gd) { frames := 0, cells := 0, slots := 0, locals := 0 } D vwCl (zT K) [.ref o, .int (iI x)] M (P_AL_numberAt K M o aA bA cA p0 c al at0 ls0 x) 0 0 := by
  refine zq_start (cc := b_AL_numberAt) (maxL := 3) (ret := (some .int)) (by decide) rfl (Nat.le_of_ble_eq_true rfl) ?_
  intro p e s m below meth co A ls hx hb hr hml hts hown hnm hlocks hA hZ hw hl
  have hts : ∀ w ∈ lw_gd, w.before [.ref o, .int (iI x)].toArray s = true := fun w h => hts w (List.mem_cons_of_mem _ h)
  have hown : s.vm.findClass R_AL = some m.cls := hown
  have hK := hZ.1
  have hl : lv_has ls 3 [(0, .ref o), (1, .int (iI x))] := hl
  obtain ⟨hp1, hp2, hq1, hq2, hi1, hi2, hi3⟩ := id hA0
  have hL : ∀ (n : Nat) (i : Int) (H : Heap) (locs : List Loc) (ls : Array Slot), (0 ≤ i ∧ i ≤ c) → (∀ j, 0 ≤ j → j < i → ¬ ls0 j = at0 x) → (c - i).toNat < n → zq_W D vwCl A s.heap M H locs → lv_has ls 3 [(0, .ref o), (1, .int (iI x)), (2, .int (iI i))] → W p l e ({ frames := 0, cells := 0, slots := 0, locals := 0 } : Room) s m [.ref o, .int (iI x)].toArray below meth co H locs 0 0 (MQ below (zq_Q D vwCl (zT K) (P_AL_numberAt K M o aA bA cA p0 c al at0 ls0 x) A) [.ref o, .int (iI x)].toArray s 0 0 A) (F0 m 16 ls []) := by
    intro n
    induction n with
    | zero =>
      intro i H locs ls hi hn hms hw hl
      exact absurd hms (Nat.not_lt_zero _)
    | succ n ih_hL =>
      intro i H locs ls hi hn hms hw hl
      refine lv_iload_n hx hb d_AL_numberAt_16 rfl (lv_at hl 2 rfl) ?_
      refine lv_aload_n hx hb d_AL_numberAt_17 rfl (lv_at hl 0 rfl) ?_
      refine zq_get hx hb hts i_AL hown hK hw h_o rfl 4 (by decide) (hts _ tw_69) rfl d_AL_numberAt_18 ?_
      refine zq_icmp_ge (tgt := 47) hx hb d_AL_numberAt_21 (by decide) ⟨by omega, by omega⟩ ⟨by omega, by omega⟩ (fun hc1 => ?_) (fun hc1 => ?_)
      · refine lv_iconst (v := iI (-1)) hx hb d_AL_numberAt_47 rfl ?_
        exact zq_iret hx hb hr hlocks hZ hw ⟨_, rfl, Or.inr ⟨rfl, fun j h1 h2 => hn j h1 (by omega)⟩, rfl⟩ d_AL_numberAt_48
      · refine lv_aload_n hx hb d_AL_numberAt_24 rfl (lv_at hl 0 rfl) ?_
        refine zq_get hx hb hts i_AL hown hK hw h_o rfl 2 (by decide) (hts _ tw_67) rfl d_AL_numberAt_25 ?_
        refine lv_iload_n hx hb d_AL_numberAt_28 rfl (lv_at hl 2 rfl) ?_
        refine zq_iald hx hb hK hw 0 h_c rfl (by omega) (by omega) (by decide) d_AL_numberAt_29 ?_
        refine lv_aload_n hx hb d_AL_numberAt_30 rfl (lv_at hl 0 rfl) ?_
        refine zq_get hx hb hts i_AL hown hK hw h_o rfl 1 (by decide) (hts _ tw_66) rfl d_AL_numberAt_31 ?_
        refine lv_iload_n hx hb d_AL_numberAt_34 rfl (lv_at hl 1 rfl) ?_
        refine zq_iald hx hb hK hw 0 h_b rfl (by omega) (by omega) (by decide) d_AL_numberAt_35 ?_
        refine zq_icmp_ne (tgt := 41) hx hb d_AL_numberAt_36 (by decide) (hi3 _) (hi2 _) (fun hc2 => ?_) (fun hc2 => ?_)
        · refine lv_iinc (v := iI (i + 1)) (lv' := [(2, .int (iI (i + 1))), (0, .ref o), (1, .int (iI x))]) hx hb d_AL_numberAt_41 hl (k := 2) rfl (iI_add _ _) (by decide) rfl (fun ls hl => ?_)
          refine lv_goto (tgt := 16) hx hb d_AL_numberAt_44 (by decide) ?_
          exact ih_hL (i + 1) _ _ _ (by omega) (fun j h1 h2 => by by_cases q : j = i; rw [q]; assumption; exact hn j h1 (by omega)) (by omega) hw (lv_sub hl [1, 2, 0] rfl)
        · refine lv_iload_n hx hb d_AL_numberAt_39 rfl (lv_at hl 2 rfl) ?_
          exact zq_iret hx hb hr hlocks hZ hw ⟨_, rfl, Or.inl ⟨by omega, by omega, by assumption, hn⟩, rfl⟩ d_AL_numberAt_40
  refine lv_iload_n hx hb d_AL_numberAt_0 rfl (lv_at hl 1 rfl) ?_
  refine zq_if_lt (tgt := 12) hx hb d_AL_numberAt_1 (by decide) ⟨by omega, by omega⟩ (fun hc3 => ?_) (fun hc3 => ?_)
  · exact absurd hc3 (by omega)
  · refine lv_iload_n hx hb d_AL_numberAt_4 rfl (lv_at hl 1 rfl) ?_
    refine lv_aload_n hx hb d_AL_numberAt_5 rfl (lv_at hl 0 rfl) ?_
    refine zq_get hx hb hts i_AL hown hK hw h_o rfl 3 (by decide) (hts _ tw_68) rfl d_AL_numberAt_6 ?_
    refine zq_icmp_lt (tgt := 14) hx hb d_AL_numberAt_9 (by decide) ⟨by omega, by omega⟩ ⟨by omega, by omega⟩ (fun hc4 => ?_) (fun hc4 => ?_)
    · refine lv_iconst (v := iI 0) hx hb d_AL_numberAt_14 rfl ?_
      refine lv_istore_n (lv' := [(2, .int (iI 0)), (0, .ref o), (1, .int (iI x))]) hx hb d_AL_numberAt_15 rfl hl (by decide) rfl (fun ls hl => ?_)
      exact hL _ 0 _ _ _ (by omega) (fun j h1 h2 => by omega) (Nat.lt_succ_self _) hw (lv_sub hl [1, 2, 0] rfl)
    · exact absurd hc4 (by omega)
abbrev P_AL_numberOfLabel (K : Nat → ClassId) (M : zq_M) (o : Nat) (aA : Nat) (bA : Nat) (cA : Nat) (p0 : Int) (c : Int) (al : Int → Int) (at0 : Int → Int) (ls0 : Int → Int) (x : Int) : Option Value → zq_M → Prop := fun v M' => ∃ r, v = some (.int (iI r)) ∧ ((∃ y, 0 ≤ y ∧ y < p0 ∧ al y = x ∧ zNum ls0 c (at0 y) r) ∨ (r = -1 ∧ ∀ y, 0 ≤ y → y < p0 → ¬ al y = x)) ∧ M' = M
set_option maxHeartbeats 4000000 in
set_option maxRecDepth 100000 in
theorem c_AL_numberOfLabel (l : Launch) (D : va_G) (K : Nat → ClassId) (M : zq_M) (o : Nat) (aA : Nat) (bA : Nat) (cA : Nat) (p0 : Int) (c : Int) (al : Int → Int) (at0 : Int → Int) (ls0 : Int → Int) (x : Int) (h_o : M o = some (.inr (1, [.ref aA, .ref bA, .ref cA, .int (iI p0), .int (iI c)]))) (h_a : M aA = some (cI (K 0) 48 al)) (h_b : M bA = some (cI (K 0) 48 at0)) (h_c : M cA = some (cI (K 0) 33 ls0)) (hab : aA ≠ bA) (hA0 : zA p0 c al at0 ls0) (hx0 : inI x) : zq_Met l y_AL_numberOfLabel (.code y_AL_numberOfLabel b_AL_numberOfLabel 3 (some .int) :: lw_gd) { frames := 1, cells := 0, slots := 0, locals := 22 } D vwCl (zT K) [.ref o, .int (iI x)] M (P_AL_numberOfLabel K M o aA bA cA p0 c al at0 ls0 x) 0 0 := by
  refine zq_start (cc := b_AL_numberOfLabel) (maxL := 3) (ret := (some .int)) (by decide) rfl (Nat.le_of_ble_eq_true rfl) ?_
  intro p e s m below meth co A ls hx hb hr hml hts hown hnm hlocks hA hZ hw hl
  have hts : ∀ w ∈ lw_gd, w.before [.ref o, .int (iI x)].toArray s = true := fun w h => hts w (List.mem_cons_of_mem _ h)
  have hown : s.vm.findClass R_AL = some m.cls := hown
  have hK := hZ.1
  have hl : lv_has ls 3 [(0, .ref o), (1, .int (iI x))] := hl
  obtain ⟨hp1, hp2, hq1, hq2, hi1, hi2, hi3⟩ := id hA0
  have hL : ∀ (n : Nat) (i : Int) (H : Heap) (locs : List Loc) (ls : Array Slot), (0 ≤ i ∧ i ≤ p0) → (∀ j, 0 ≤ j → j < i → ¬ al j = x) → (p0 - i).toNat < n → zq_W D vwCl A s.heap M H locs → lv_has ls 3 [(0, .ref o), (1, .int (iI x)), (2, .int (iI i))] → W p l e ({ frames := 1, cells := 0, slots := 0, locals := 22 } : Room) s m [.ref o, .int (iI x)].toArray below meth co H locs 0 0 (MQ below (zq_Q D vwCl (zT K) (P_AL_numberOfLabel K M o aA bA cA p0 c al at0 ls0 x) A) [.ref o, .int (iI x)].toArray s 0 0 A) (F0 m 2 ls []) := by
    intro n
    induction n with
    | zero =>
      intro i H locs ls hi hn hms hw hl
      exact absurd hms (Nat.not_lt_zero _)
    | succ n ih_hL =>
      intro i H locs ls hi hn hms hw hl
      refine lv_iload_n hx hb d_AL_numberOfLabel_2 rfl (lv_at hl 2 rfl) ?_
      refine lv_aload_n hx hb d_AL_numberOfLabel_3 rfl (lv_at hl 0 rfl) ?_
      refine zq_get hx hb hts i_AL hown hK hw h_o rfl 3 (by decide) (hts _ tw_68) rfl d_AL_numberOfLabel_4 ?_
      refine zq_icmp_ge (tgt := 32) hx hb d_AL_numberOfLabel_7 (by decide) ⟨by omega, by omega⟩ ⟨by omega, by omega⟩ (fun hc1 => ?_) (fun hc1 => ?_)
      · refine lv_iconst (v := iI (-1)) hx hb d_AL_numberOfLabel_32 rfl ?_
        exact zq_iret hx hb hr hlocks hZ hw ⟨_, rfl, Or.inr ⟨rfl, fun j h1 h2 => hn j h1 (by omega)⟩, rfl⟩ d_AL_numberOfLabel_33
      · refine lv_aload_n hx hb d_AL_numberOfLabel_10 rfl (lv_at hl 0 rfl) ?_
        refine zq_get hx hb hts i_AL hown hK hw h_o rfl 0 (by decide) (hts _ tw_65) rfl d_AL_numberOfLabel_11 ?_
        refine lv_iload_n hx hb d_AL_numberOfLabel_14 rfl (lv_at hl 2 rfl) ?_
        refine zq_iald hx hb hK hw 0 h_a rfl (by omega) (by omega) (by decide) d_AL_numberOfLabel_15 ?_
        refine lv_iload_n hx hb d_AL_numberOfLabel_16 rfl (lv_at hl 1 rfl) ?_
        refine zq_icmp_ne (tgt := 26) hx hb d_AL_numberOfLabel_17 (by decide) (hi1 _) hx0 (fun hc2 => ?_) (fun hc2 => ?_)
        · refine lv_iinc (v := iI (i + 1)) (lv' := [(2, .int (iI (i + 1))), (0, .ref o), (1, .int (iI x))]) hx hb d_AL_numberOfLabel_26 hl (k := 2) rfl (iI_add _ _) (by decide) rfl (fun ls hl => ?_)
          refine lv_goto (tgt := 2) hx hb d_AL_numberOfLabel_29 (by decide) ?_
          exact ih_hL (i + 1) _ _ _ (by omega) (fun j h1 h2 => by by_cases q : j = i; rw [q]; assumption; exact hn j h1 (by omega)) (by omega) hw (lv_sub hl [1, 2, 0] rfl)
        · refine lv_aload_n hx hb d_AL_numberOfLabel_20 rfl (lv_at hl 0 rfl) ?_
          refine lv_iload_n hx hb d_AL_numberOfLabel_21 rfl (lv_at hl 2 rfl) ?_
          refine zq_callV (As := [.int (iI i)]) (rest := []) ⟨hx, hb, hml, hown, hts⟩ (c_AL_numberAt l D K M o aA bA cA p0 c al at0 ls0 i h_o h_a h_b h_c hab hA0 ⟨by omega, by omega⟩) (cwV 1 hts (zg_V tw_491 tw_354 tw_355 tw_4 tw_356) rfl rfl rfl (by decide +kernel) ⟨Nat.le_of_ble_eq_true rfl, Nat.le_of_ble_eq_true rfl⟩) hZ hw hA h_o rfl rfl rfl rfl hl.1 (Nat.le_of_ble_eq_true rfl) d_AL_numberOfLabel_22 ⟨Nat.le_of_ble_eq_true rfl, Nat.le_of_ble_eq_true rfl⟩ (fun v M4 H locs hp hw => ?_)
          obtain ⟨rr3, rfl, hNrr3, hMe⟩ := hp
          rw [hMe] at hw
          refine W.eq (g2 := F0 m 25 ls [.int (iI rr3)]) rfl ?_
          exact zq_iret hx hb hr hlocks hZ hw ⟨_, rfl, Or.inl ⟨i, by omega, by omega, by assumption, hNrr3⟩, rfl⟩ d_AL_numberOfLabel_25
  refine lv_iconst (v := iI 0) hx hb d_AL_numberOfLabel_0 rfl ?_
  refine lv_istore_n (lv' := [(2, .int (iI 0)), (0, .ref o), (1, .int (iI x))]) hx hb d_AL_numberOfLabel_1 rfl hl (by decide) rfl (fun ls hl => ?_)
  exact hL _ 0 _ _ _ (by omega) (fun j h1 h2 => by omega) (Nat.lt_succ_self _) hw (lv_sub hl [1, 2, 0] rfl)
abbrev P_AL_joinOver (K : Nat → ClassId) (M : zq_M) (o : Nat) (aA : Nat) (bA : Nat) (cA : Nat) (p0 : Int) (c : Int) (al : Int → Int) (at0 : Int → Int) (ls0 : Int → Int) (x : Int) (y : Int) : Option Value → zq_M → Prop := fun v M' => v = none ∧ M' bA = some (cI (K 0) 48 (zmp at0 p0 (at0 x) (at0 y))) ∧ ∀ q, q ≠ bA → M' q = M q
set_option maxHeartbeats 4000000 in
set_option maxRecDepth 100000 in
theorem c_AL_joinOver (l : Launch) (D : va_G) (K : Nat → ClassId) (M : zq_M) (o : Nat) (aA : Nat) (bA : Nat) (cA : Nat) (p0 : Int) (c : Int) (al : Int → Int) (at0 : Int → Int) (ls0 : Int → Int) (x : Int) (y : Int) (h_o : M o = some (.inr (1, [.ref aA, .ref bA, .ref cA, .int (iI p0), .int (iI c)]))) (h_a : M aA = some (cI (K 0) 48 al)) (h_b : M bA = some (cI (K 0) 48 at0)) (h_c : M cA = some (cI (K 0) 33 ls0)) (hab : aA ≠ bA) (hA0 : zA p0 c al at0 ls0) (hx0 : 0 ≤ x ∧ x < p0) (hy0 : 0 ≤ y ∧ y < p0) : zq_Met l y_AL_joinOver (.code y_AL_joinOver b_AL_joinOver 6 none :: lw_gd) { frames := 1, cells := 0, slots := 0, locals := 24 } D vwCl (zT K) [.ref o, .int (iI x), .int (iI y)] M (P_AL_joinOver K M o aA bA cA p0 c al at0 ls0 x y) 0 0 := by
  refine zq_start (cc := b_AL_joinOver) (maxL := 6) (ret := none) (by decide) rfl (Nat.le_of_ble_eq_true rfl) ?_
  intro p e s m below meth co A ls hx hb hr hml hts hown hnm hlocks hA hZ hw hl
  have hts : ∀ w ∈ lw_gd, w.before [.ref o, .int (iI x), .int (iI y)].toArray s = true := fun w h => hts w (List.mem_cons_of_mem _ h)
  have hown : s.vm.findClass R_AL = some m.cls := hown
  have hK := hZ.1
  have hl : lv_has ls 6 [(0, .ref o), (1, .int (iI x)), (2, .int (iI y))] := hl
  have hfr : ∀ q, q ≠ bA → M q = M q := fun q _ => rfl
  obtain ⟨hp1, hp2, hq1, hq2, hi1, hi2, hi3⟩ := id hA0
  have hL : ∀ (n : Nat) (i : Int) (h : Int → Int) (Mq : zq_M) (H : Heap) (locs : List Loc) (ls : Array Slot), (0 ≤ i ∧ i ≤ p0) → (∀ z, h z = if 0 ≤ z ∧ z < i ∧ at0 z = max (at0 x) (at0 y) then min (at0 x) (at0 y) else at0 z) → (p0 - i).toNat < n → (∀ q, q ≠ bA → Mq q = M q) → Mq o = some (.inr (1, [.ref aA, .ref bA, .ref cA, .int (iI p0), .int (iI c)])) → Mq aA = some (cI (K 0) 48 al) → Mq bA = some (cI (K 0) 48 h) → Mq cA = some (cI (K 0) 33 ls0) → zq_W D vwCl A s.heap Mq H locs → lv_has ls 6 [(0, .ref o), (3, .int (iI (min (at0 x) (at0 y)))), (4, .int (iI (max (at0 x) (at0 y)))), (5, .int (iI i))] → W p l e ({ frames := 1, cells := 0, slots := 0, locals := 24 } : Room) s m [.ref o, .int (iI x), .int (iI y)].toArray below meth co H locs 0 0 (MQ below (zq_Q D vwCl (zT K) (P_AL_joinOver K M o aA bA cA p0 c al at0 ls0 x y) A) [.ref o, .int (iI x), .int (iI y)].toArray s 0 0 A) (F0 m 61 ls []) := by
    intro n
    induction n with
    | zero =>
      intro i h Mq H locs ls hi hh hms hfr h_o h_a h_b h_c hw hl
      exact absurd hms (Nat.not_lt_zero _)
    | succ n ih_hL =>
      intro i h Mq H locs ls hi hh hms hfr h_o h_a h_b h_c hw hl
      refine lv_iload hx hb d_AL_joinOver_61 (lv_at hl 3 rfl) ?_
      refine lv_aload_n hx hb d_AL_joinOver_63 rfl (lv_at hl 0 rfl) ?_
      refine zq_get hx hb hts i_AL hown hK hw h_o rfl 3 (by decide) (hts _ tw_68) rfl d_AL_joinOver_64 ?_
      refine zq_icmp_ge (tgt := 96) hx hb d_AL_joinOver_67 (by decide) ⟨by omega, by omega⟩ ⟨by omega, by omega⟩ (fun hc1 => ?_) (fun hc1 => ?_)
      · have hz : h = zmp at0 p0 (at0 x) (at0 y) := funext fun z => by rw [hh, show i = p0 from by omega]; rfl
        exact zq_vret hx hb hr hlocks hZ hw ⟨rfl, hz ▸ h_b, hfr⟩ d_AL_joinOver_96
      · refine lv_aload_n hx hb d_AL_joinOver_70 rfl (lv_at hl 0 rfl) ?_
        refine zq_get hx hb hts i_AL hown hK hw h_o rfl 1 (by decide) (hts _ tw_66) rfl d_AL_joinOver_71 ?_
        refine lv_iload hx hb d_AL_joinOver_74 (lv_at hl 3 rfl) ?_
        refine zq_iald hx hb hK hw 0 h_b rfl (by omega) (by omega) (by decide) d_AL_joinOver_76 ?_
        have hhi : h i = at0 i := by rw [hh, if_neg (by omega)]
        refine lv_iload hx hb d_AL_joinOver_77 (lv_at hl 2 rfl) ?_
        refine zq_icmp_ne (tgt := 90) hx hb d_AL_joinOver_79 (by decide) (by rw [hhi]; exact hi2 i) (by have h8 := hi2 x; have h9 := hi2 y; exact ⟨by omega, by omega⟩) (fun hc2 => ?_) (fun hc2 => ?_)
        · refine lv_iinc (v := iI (i + 1)) (lv' := [(5, .int (iI (i + 1))), (0, .ref o), (3, .int (iI (min (at0 x) (at0 y)))), (4, .int (iI (max (at0 x) (at0 y))))]) hx hb d_AL_joinOver_90 hl (k := 3) rfl (iI_add _ _) (by decide) rfl (fun ls hl => ?_)
          refine lv_goto (tgt := 61) hx hb d_AL_joinOver_93 (by decide) ?_
          exact ih_hL (i + 1) h Mq _ _ _ (by omega) (zmk_s1 hh (by omega) (by rw [← hhi]; assumption)) (by omega) hfr h_o h_a h_b h_c hw (lv_sub hl [1, 2, 3, 0] rfl)
        · refine lv_aload_n hx hb d_AL_joinOver_82 rfl (lv_at hl 0 rfl) ?_
          refine zq_get hx hb hts i_AL hown hK hw h_o rfl 1 (by decide) (hts _ tw_66) rfl d_AL_joinOver_83 ?_
          refine lv_iload hx hb d_AL_joinOver_86 (lv_at hl 3 rfl) ?_
          refine lv_iload_n hx hb d_AL_joinOver_88 rfl (lv_at hl 1 rfl) ?_
          refine zq_iast hx hb hK hw 0 h_b rfl (by omega) (by omega) (by decide) d_AL_joinOver_89 (fun M3 H locs hs ho hw => ?_)
          have h_o : M3 o = some (.inr (1, [.ref aA, .ref bA, .ref cA, .int (iI p0), .int (iI c)])) := (ho _ (zq_ne h_o h_b (by simp))).trans h_o
          have h_a : M3 aA = some (cI (K 0) 48 al) := (ho _ hab).trans h_a
          have h_c : M3 cA = some (cI (K 0) 33 ls0) := (ho _ (zq_ne h_c h_b (by simp))).trans h_c
          have h_b : M3 bA = some (cI (K 0) 48 (zu h i (min (at0 x) (at0 y)))) := hs
          have hfr : ∀ q, q ≠ bA → M3 q = M q := fun q g0 => (ho q g0).trans (hfr q g0)
          refine lv_iinc (v := iI (i + 1)) (lv' := [(5, .int (iI (i + 1))), (0, .ref o), (3, .int (iI (min (at0 x) (at0 y)))), (4, .int (iI (max (at0 x) (at0 y))))]) hx hb d_AL_joinOver_90 hl (k := 3) rfl (iI_add _ _) (by decide) rfl (fun ls hl => ?_)
          refine lv_goto (tgt := 61) hx hb d_AL_joinOver_93 (by decide) ?_
          exact ih_hL (i + 1) (zu h i (min (at0 x) (at0 y))) M3 _ _ _ (by omega) (zmk_s2 hh (by omega)) (by omega) hfr h_o h_a h_b h_c hw (lv_sub hl [1, 2, 3, 0] rfl)
  refine lv_iload_n hx hb d_AL_joinOver_0 rfl (lv_at hl 1 rfl) ?_
  refine zq_if_lt (tgt := 24) hx hb d_AL_joinOver_1 (by decide) ⟨by omega, by omega⟩ (fun hc4 => ?_) (fun hc4 => ?_)
  · exact absurd hc4 (by omega)
  · refine lv_iload_n hx hb d_AL_joinOver_4 rfl (lv_at hl 1 rfl) ?_
    refine lv_aload_n hx hb d_AL_joinOver_5 rfl (lv_at hl 0 rfl) ?_
    refine zq_get hx hb hts i_AL hown hK hw h_o rfl 3 (by decide) (hts _ tw_68) rfl d_AL_joinOver_6 ?_
    refine zq_icmp_ge (tgt := 24) hx hb d_AL_joinOver_9 (by decide) ⟨by omega, by omega⟩ ⟨by omega, by omega⟩ (fun hc5 => ?_) (fun hc5 => ?_)
    · exact absurd hc5 (by omega)
    · refine lv_iload_n hx hb d_AL_joinOver_12 rfl (lv_at hl 2 rfl) ?_
      refine zq_if_lt (tgt := 24) hx hb d_AL_joinOver_13 (by decide) ⟨by omega, by omega⟩ (fun hc6 => ?_) (fun hc6 => ?_)
      · exact absurd hc6 (by omega)
      · refine lv_iload_n hx hb d_AL_joinOver_16 rfl (lv_at hl 2 rfl) ?_
        refine lv_aload_n hx hb d_AL_joinOver_17 rfl (lv_at hl 0 rfl) ?_
        refine zq_get hx hb hts i_AL hown hK hw h_o rfl 3 (by decide) (hts _ tw_68) rfl d_AL_joinOver_18 ?_
        refine zq_icmp_lt (tgt := 25) hx hb d_AL_joinOver_21 (by decide) ⟨by omega, by omega⟩ ⟨by omega, by omega⟩ (fun hc7 => ?_) (fun hc7 => ?_)
        · refine lv_aload_n hx hb d_AL_joinOver_25 rfl (lv_at hl 0 rfl) ?_
          refine zq_get hx hb hts i_AL hown hK hw h_o rfl 1 (by decide) (hts _ tw_66) rfl d_AL_joinOver_26 ?_
          refine lv_iload_n hx hb d_AL_joinOver_29 rfl (lv_at hl 1 rfl) ?_
          refine zq_iald hx hb hK hw 0 h_b rfl (by omega) (by omega) (by decide) d_AL_joinOver_30 ?_
          refine lv_aload_n hx hb d_AL_joinOver_31 rfl (lv_at hl 0 rfl) ?_
          refine zq_get hx hb hts i_AL hown hK hw h_o rfl 1 (by decide) (hts _ tw_66) rfl d_AL_joinOver_32 ?_
          refine lv_iload_n hx hb d_AL_joinOver_35 rfl (lv_at hl 2 rfl) ?_
          refine zq_iald hx hb hK hw 0 h_b rfl (by omega) (by omega) (by decide) d_AL_joinOver_36 ?_
          refine zq_min hx hb (hml.trans hl.1.symm) hown (hts _ tw_319) (hts _ tw_241) (hts _ tw_11) (hts _ tw_242) (Nat.le_of_ble_eq_true rfl) (Nat.le_of_ble_eq_true rfl) (Nat.zero_le _) (Nat.zero_le _) (hi2 _) (hi2 _) d_AL_joinOver_37 ?_
          refine lv_istore_n (lv' := [(3, .int (iI (min (at0 x) (at0 y)))), (0, .ref o), (1, .int (iI x)), (2, .int (iI y))]) hx hb d_AL_joinOver_40 rfl hl (by decide) rfl (fun ls hl => ?_)
          refine lv_aload_n hx hb d_AL_joinOver_41 rfl (lv_at hl 1 rfl) ?_
          refine zq_get hx hb hts i_AL hown hK hw h_o rfl 1 (by decide) (hts _ tw_66) rfl d_AL_joinOver_42 ?_
          refine lv_iload_n hx hb d_AL_joinOver_45 rfl (lv_at hl 2 rfl) ?_
          refine zq_iald hx hb hK hw 0 h_b rfl (by omega) (by omega) (by decide) d_AL_joinOver_46 ?_
          refine lv_aload_n hx hb d_AL_joinOver_47 rfl (lv_at hl 1 rfl) ?_
          refine zq_get hx hb hts i_AL hown hK hw h_o rfl 1 (by decide) (hts _ tw_66) rfl d_AL_joinOver_48 ?_
          refine lv_iload_n hx hb d_AL_joinOver_51 rfl (lv_at hl 3 rfl) ?_
          refine zq_iald hx hb hK hw 0 h_b rfl (by omega) (by omega) (by decide) d_AL_joinOver_52 ?_
          refine zq_max hx hb (hml.trans hl.1.symm) hown (hts _ tw_334) (hts _ tw_335) (hts _ tw_11) (hts _ tw_336) (Nat.le_of_ble_eq_true rfl) (Nat.le_of_ble_eq_true rfl) (Nat.zero_le _) (Nat.zero_le _) (hi2 _) (hi2 _) d_AL_joinOver_53 ?_
          refine lv_istore (lv' := [(4, .int (iI (max (at0 x) (at0 y)))), (3, .int (iI (min (at0 x) (at0 y)))), (0, .ref o), (1, .int (iI x)), (2, .int (iI y))]) hx hb d_AL_joinOver_56 hl (by decide) rfl (fun ls hl => ?_)
          refine lv_iconst (v := iI 0) hx hb d_AL_joinOver_58 rfl ?_
          refine lv_istore (lv' := [(5, .int (iI 0)), (4, .int (iI (max (at0 x) (at0 y)))), (3, .int (iI (min (at0 x) (at0 y)))), (0, .ref o), (1, .int (iI x)), (2, .int (iI y))]) hx hb d_AL_joinOver_59 hl (by decide) rfl (fun ls hl => ?_)
          exact hL _ 0 at0 M _ _ _ (by omega) (fun z => by rw [if_neg (by omega)]) (Nat.lt_succ_self _) hfr h_o h_a h_b h_c hw (lv_sub hl [3, 2, 1, 0] rfl)
        · exact absurd hc7 (by omega)
abbrev P_AL_insert (K : Nat → ClassId) (M : zq_M) (o : Nat) (aA : Nat) (bA : Nat) (cA : Nat) (p0 : Int) (c : Int) (al : Int → Int) (at0 : Int → Int) (ls0 : Int → Int) (x : Int) : Option Value → zq_M → Prop := fun v M' => v = none ∧ ∃ c' ls', zIns ls0 c x ls' c' ∧ M' o = some (.inr (1, [.ref aA, .ref bA, .ref cA, .int (iI p0), .int (iI c')])) ∧ M' cA = some (cI (K 0) 33 ls') ∧ ∀ q, q ≠ o → q ≠ cA → M' q = M q
set_option maxHeartbeats 4000000 in
set_option maxRecDepth 100000 in
theorem c_AL_insert (l : Launch) (D : va_G) (K : Nat → ClassId) (M : zq_M) (o : Nat) (aA : Nat) (bA : Nat) (cA : Nat) (p0 : Int) (c : Int) (al : Int → Int) (at0 : Int → Int) (ls0 : Int → Int) (x : Int) (h_o : M o = some (.inr (1, [.ref aA, .ref bA, .ref cA, .int (iI p0), .int (iI c)]))) (h_a : M aA = some (cI (K 0) 48 al)) (h_b : M bA = some (cI (K 0) 48 at0)) (h_c : M cA = some (cI (K 0) 33 ls0)) (hab : aA ≠ bA) (hA0 : zA p0 c al at0 ls0) (hx0 : inI x) (hc : c ≤ 32) (hS : zSr ls0 c) : zq_Met l y_AL_insert (.code y_AL_insert b_AL_insert 5 none :: lw_gd) { frames := 0, cells := 0, slots := 0, locals := 0 } D vwCl (zT K) [.ref o, .int (iI x)] M (P_AL_insert K M o aA bA cA p0 c al at0 ls0 x) 0 0 := by
  refine zq_start (cc := b_AL_insert) (maxL := 5) (ret := none) (by decide) rfl (Nat.le_of_ble_eq_true rfl) ?_
  intro p e s m below meth co A ls hx hb hr hml hts hown hnm hlocks hA hZ hw hl
  have hts : ∀ w ∈ lw_gd, w.before [.ref o, .int (iI x)].toArray s = true := fun w h => hts w (List.mem_cons_of_mem _ h)
  have hown : s.vm.findClass R_AL = some m.cls := hown
  have hK := hZ.1
  have hl : lv_has ls 5 [(0, .ref o), (1, .int (iI x))] := hl
  have hfr : ∀ q, q ≠ o → q ≠ cA → M q = M q := fun q _ _ => rfl
  obtain ⟨hp1, hp2, hq1, hq2, hi1, hi2, hi3⟩ := id hA0
  have hK2 : ∀ (n : Nat) (i : Int) (j0 : Int) (h : Int → Int) (Mq : zq_M) (H : Heap) (locs : List Loc) (ls : Array Slot), (0 ≤ i ∧ i ≤ j0 ∧ j0 ≤ c) → (∀ j, 0 ≤ j → j < i → ls0 j < x) → (i < c → x < ls0 i) → (∀ z, h z = if j0 < z ∧ z ≤ c then ls0 (z - 1) else ls0 z) → (j0 - i).toNat < n → (∀ q, q ≠ o → q ≠ cA → Mq q = M q) → Mq o = some (.inr (1, [.ref aA, .ref bA, .ref cA, .int (iI p0), .int (iI c)])) → Mq aA = some (cI (K 0) 48 al) → Mq bA = some (cI (K 0) 48 at0) → Mq cA = some (cI (K 0) 33 h) → zq_W D vwCl A s.heap Mq H locs → lv_has ls 5 [(0, .ref o), (1, .int (iI x)), (2, .int (iI i)), (4, .int (iI j0))] → W p l e ({ frames := 0, cells := 0, slots := 0, locals := 0 } : Room) s m [.ref o, .int (iI x)].toArray below meth co H locs 0 0 (MQ below (zq_Q D vwCl (zT K) (P_AL_insert K M o aA bA cA p0 c al at0 ls0 x) A) [.ref o, .int (iI x)].toArray s 0 0 A) (F0 m 70 ls []) := by
    intro n
    induction n with
    | zero =>
      intro i j0 h Mq H locs ls hi hlow hup hh hms hfr h_o h_a h_b h_c hw hl
      exact absurd hms (Nat.not_lt_zero _)
    | succ n ih_hK2 =>
      intro i j0 h Mq H locs ls hi hlow hup hh hms hfr h_o h_a h_b h_c hw hl
      refine lv_iload hx hb d_AL_insert_70 (lv_at hl 3 rfl) ?_
      refine lv_iload_n hx hb d_AL_insert_72 rfl (lv_at hl 2 rfl) ?_
      refine zq_icmp_le (tgt := 98) hx hb d_AL_insert_73 (by decide) ⟨by omega, by omega⟩ ⟨by omega, by omega⟩ (fun hc1 => ?_) (fun hc1 => ?_)
      · refine lv_aload_n hx hb d_AL_insert_98 rfl (lv_at hl 0 rfl) ?_
        refine zq_get hx hb hts i_AL hown hK hw h_o rfl 2 (by decide) (hts _ tw_67) rfl d_AL_insert_99 ?_
        refine lv_iload_n hx hb d_AL_insert_102 rfl (lv_at hl 2 rfl) ?_
        refine lv_iload_n hx hb d_AL_insert_103 rfl (lv_at hl 1 rfl) ?_
        refine zq_iast hx hb hK hw 0 h_c rfl (by omega) (by omega) (by decide) d_AL_insert_104 (fun M2 H locs hs ho hw => ?_)
        have h_o : M2 o = some (.inr (1, [.ref aA, .ref bA, .ref cA, .int (iI p0), .int (iI c)])) := (ho _ (zq_ne h_o h_c (by simp))).trans h_o
        have h_a : M2 aA = some (cI (K 0) 48 al) := (ho _ (zq_ne h_a h_c (by simp))).trans h_a
        have h_b : M2 bA = some (cI (K 0) 48 at0) := (ho _ (zq_ne h_b h_c (by simp))).trans h_b
        have h_c : M2 cA = some (cI (K 0) 33 (zu h i x)) := hs
        have hfr : ∀ q, q ≠ o → q ≠ cA → M2 q = M q := fun q g0 g1 => (ho q g1).trans (hfr q g0 g1)
        refine lv_aload_n hx hb d_AL_insert_105 rfl (lv_at hl 0 rfl) ?_
        refine lv_dup hx hb d_AL_insert_106 rfl ?_
        refine zq_get hx hb hts i_AL hown hK hw h_o rfl 4 (by decide) (hts _ tw_69) rfl d_AL_insert_107 ?_
        refine lv_iconst (v := iI 1) hx hb d_AL_insert_110 rfl ?_
        refine zq_iadd hx hb d_AL_insert_111 ?_
        refine zq_put (ci := 1) (v := .int (iI (c + 1))) (ty := .int) hx hb hts i_AL t_AL t_AL_ok n_AL hown hK hw h_o rfl 4 (by decide) (hts _ tw_69) rfl (by decide +kernel) rfl rfl (Nat.le_of_ble_eq_true rfl) d_AL_insert_112 (fun M3 H locs hs ho hw => ?_)
        have h_a : M3 aA = some (cI (K 0) 48 al) := (ho _ (zq_ne h_a h_o (by simp))).trans h_a
        have h_b : M3 bA = some (cI (K 0) 48 at0) := (ho _ (zq_ne h_b h_o (by simp))).trans h_b
        have h_c : M3 cA = some (cI (K 0) 33 (zu h i x)) := (ho _ (zq_ne h_c h_o (by simp))).trans h_c
        have h_o : M3 o = some (.inr (1, [.ref aA, .ref bA, .ref cA, .int (iI p0), .int (iI (c + 1))])) := hs
        have hfr : ∀ q, q ≠ o → q ≠ cA → M3 q = M q := fun q g0 g1 => (ho q g0).trans (hfr q g0 g1)
        exact zq_vret hx hb hr hlocks hZ hw ⟨rfl, _, _, zIns_new (by omega) hS hlow (fun q => hup (by omega)) (by rw [← show j0 = i from by omega]; exact hh) hi3 hx0, h_o, h_c, hfr⟩ d_AL_insert_115
      · refine lv_aload_n hx hb d_AL_insert_76 rfl (lv_at hl 0 rfl) ?_
        refine zq_get hx hb hts i_AL hown hK hw h_o rfl 2 (by decide) (hts _ tw_67) rfl d_AL_insert_77 ?_
        refine lv_iload hx hb d_AL_insert_80 (lv_at hl 3 rfl) ?_
        refine lv_aload_n hx hb d_AL_insert_82 rfl (lv_at hl 0 rfl) ?_
        refine zq_get hx hb hts i_AL hown hK hw h_o rfl 2 (by decide) (hts _ tw_67) rfl d_AL_insert_83 ?_
        refine lv_iload hx hb d_AL_insert_86 (lv_at hl 3 rfl) ?_
        refine lv_iconst (v := iI 1) hx hb d_AL_insert_88 rfl ?_
        refine zq_isub hx hb d_AL_insert_89 ?_
        refine zq_iald hx hb hK hw 0 h_c rfl (by omega) (by omega) (by decide) d_AL_insert_90 ?_
        refine zq_iast hx hb hK hw 0 h_c rfl (by omega) (by omega) (by decide) d_AL_insert_91 (fun M4 H locs hs ho hw => ?_)
        have h_o : M4 o = some (.inr (1, [.ref aA, .ref bA, .ref cA, .int (iI p0), .int (iI c)])) := (ho _ (zq_ne h_o h_c (by simp))).trans h_o
        have h_a : M4 aA = some (cI (K 0) 48 al) := (ho _ (zq_ne h_a h_c (by simp))).trans h_a
        have h_b : M4 bA = some (cI (K 0) 48 at0) := (ho _ (zq_ne h_b h_c (by simp))).trans h_b
        have h_c : M4 cA = some (cI (K 0) 33 (zu h j0 (h (j0 - 1)))) := hs
        have hfr : ∀ q, q ≠ o → q ≠ cA → M4 q = M q := fun q g0 g1 => (ho q g1).trans (hfr q g0 g1)
        refine lv_iinc (v := iI (j0 - 1)) (lv' := [(4, .int (iI (j0 - 1))), (0, .ref o), (1, .int (iI x)), (2, .int (iI i))]) hx hb d_AL_insert_92 hl (k := 3) rfl ((iI_add _ _).trans (congrArg iI (Int.sub_eq_add_neg).symm)) (by decide) rfl (fun ls hl => ?_)
        refine lv_goto (tgt := 70) hx hb d_AL_insert_95 (by decide) ?_
        exact ih_hK2 i (j0 - 1) (zu h j0 (h (j0 - 1))) M4 _ _ _ (by omega) hlow hup (zsf_step hh (by omega)) (by omega) hfr h_o h_a h_b h_c hw (lv_sub hl [1, 2, 3, 0] rfl)
  have hJ : ∀ (i : Int) (Mq : zq_M) (H : Heap) (locs : List Loc) (ls : Array Slot), (0 ≤ i ∧ i ≤ c) → (∀ j, 0 ≤ j → j < i → ls0 j < x) → (i < c → x ≤ ls0 i) → (∀ q, q ≠ o → q ≠ cA → Mq q = M q) → Mq o = some (.inr (1, [.ref aA, .ref bA, .ref cA, .int (iI p0), .int (iI c)])) → Mq aA = some (cI (K 0) 48 al) → Mq bA = some (cI (K 0) 48 at0) → Mq cA = some (cI (K 0) 33 ls0) → zq_W D vwCl A s.heap Mq H locs → lv_has ls 5 [(0, .ref o), (1, .int (iI x)), (2, .int (iI i))] → W p l e ({ frames := 0, cells := 0, slots := 0, locals := 0 } : Room) s m [.ref o, .int (iI x)].toArray below meth co H locs 0 0 (MQ below (zq_Q D vwCl (zT K) (P_AL_insert K M o aA bA cA p0 c al at0 ls0 x) A) [.ref o, .int (iI x)].toArray s 0 0 A) (F0 m 26 ls []) := by
    intro i Mq H locs ls hi hlow hup hfr h_o h_a h_b h_c hw hl
    refine lv_iload_n hx hb d_AL_insert_26 rfl (lv_at hl 2 rfl) ?_
    refine lv_aload_n hx hb d_AL_insert_27 rfl (lv_at hl 0 rfl) ?_
    refine zq_get hx hb hts i_AL hown hK hw h_o rfl 4 (by decide) (hts _ tw_69) rfl d_AL_insert_28 ?_
    refine zq_icmp_ge (tgt := 48) hx hb d_AL_insert_31 (by decide) ⟨by omega, by omega⟩ ⟨by omega, by omega⟩ (fun hc5 => ?_) (fun hc5 => ?_)
    · refine lv_iconst (v := iI 0) hx hb d_AL_insert_48 rfl ?_
      refine lv_istore_n (lv' := [(3, .int (iI 0)), (0, .ref o), (1, .int (iI x)), (2, .int (iI i))]) hx hb d_AL_insert_49 rfl hl (by decide) rfl (fun ls hl => ?_)
      refine lv_iload_n hx hb d_AL_insert_50 rfl (lv_at hl 0 rfl) ?_
      refine zq_if_ne (tgt := 63) hx hb d_AL_insert_51 (by decide) (by decide) (fun hc6 => ?_) (fun hc6 => ?_)
      · exact zq_vret hx hb hr hlocks hZ hw ⟨rfl, c, ls0, zIns_old (i := i) (by omega) (by omega) (by omega) hS, h_o, h_c, hfr⟩ d_AL_insert_63
      · refine lv_aload_n hx hb d_AL_insert_54 rfl (lv_at hl 1 rfl) ?_
        refine zq_get hx hb hts i_AL hown hK hw h_o rfl 4 (by decide) (hts _ tw_69) rfl d_AL_insert_55 ?_
        refine lv_bipush (v := iI 33) hx hb d_AL_insert_58 (by decide) ?_
        refine zq_icmp_lt (tgt := 64) hx hb d_AL_insert_60 (by decide) ⟨by omega, by omega⟩ (by decide) (fun hc7 => ?_) (fun hc7 => ?_)
        · refine lv_aload_n hx hb d_AL_insert_64 rfl (lv_at hl 1 rfl) ?_
          refine zq_get hx hb hts i_AL hown hK hw h_o rfl 4 (by decide) (hts _ tw_69) rfl d_AL_insert_65 ?_
          refine lv_istore (lv' := [(4, .int (iI c)), (3, .int (iI 0)), (0, .ref o), (1, .int (iI x)), (2, .int (iI i))]) hx hb d_AL_insert_68 hl (by decide) rfl (fun ls hl => ?_)
          exact hK2 _ i c ls0 Mq _ _ _ (by omega) hlow (fun q => by have := hup q; omega) (fun z => by rw [if_neg (by omega)]) (Nat.lt_succ_self _) hfr h_o h_a h_b h_c hw (lv_sub hl [2, 3, 4, 0] rfl)
        · exact absurd hc7 (by omega)
    · refine lv_aload_n hx hb d_AL_insert_34 rfl (lv_at hl 0 rfl) ?_
      refine zq_get hx hb hts i_AL hown hK hw h_o rfl 2 (by decide) (hts _ tw_67) rfl d_AL_insert_35 ?_
      refine lv_iload_n hx hb d_AL_insert_38 rfl (lv_at hl 2 rfl) ?_
      refine zq_iald hx hb hK hw 0 h_c rfl (by omega) (by omega) (by decide) d_AL_insert_39 ?_
      refine lv_iload_n hx hb d_AL_insert_40 rfl (lv_at hl 1 rfl) ?_
      refine zq_icmp_ne (tgt := 48) hx hb d_AL_insert_41 (by decide) (hi3 _) hx0 (fun hc8 => ?_) (fun hc8 => ?_)
      · refine lv_iconst (v := iI 0) hx hb d_AL_insert_48 rfl ?_
        refine lv_istore_n (lv' := [(3, .int (iI 0)), (0, .ref o), (1, .int (iI x)), (2, .int (iI i))]) hx hb d_AL_insert_49 rfl hl (by decide) rfl (fun ls hl => ?_)
        refine lv_iload_n hx hb d_AL_insert_50 rfl (lv_at hl 0 rfl) ?_
        refine zq_if_ne (tgt := 63) hx hb d_AL_insert_51 (by decide) (by decide) (fun hc9 => ?_) (fun hc9 => ?_)
        · exact zq_vret hx hb hr hlocks hZ hw ⟨rfl, c, ls0, zIns_old (i := i) (by omega) (by omega) (by omega) hS, h_o, h_c, hfr⟩ d_AL_insert_63
        · refine lv_aload_n hx hb d_AL_insert_54 rfl (lv_at hl 1 rfl) ?_
          refine zq_get hx hb hts i_AL hown hK hw h_o rfl 4 (by decide) (hts _ tw_69) rfl d_AL_insert_55 ?_
          refine lv_bipush (v := iI 33) hx hb d_AL_insert_58 (by decide) ?_
          refine zq_icmp_lt (tgt := 64) hx hb d_AL_insert_60 (by decide) ⟨by omega, by omega⟩ (by decide) (fun hc10 => ?_) (fun hc10 => ?_)
          · refine lv_aload_n hx hb d_AL_insert_64 rfl (lv_at hl 1 rfl) ?_
            refine zq_get hx hb hts i_AL hown hK hw h_o rfl 4 (by decide) (hts _ tw_69) rfl d_AL_insert_65 ?_
            refine lv_istore (lv' := [(4, .int (iI c)), (3, .int (iI 0)), (0, .ref o), (1, .int (iI x)), (2, .int (iI i))]) hx hb d_AL_insert_68 hl (by decide) rfl (fun ls hl => ?_)
            exact hK2 _ i c ls0 Mq _ _ _ (by omega) hlow (fun q => by have := hup q; omega) (fun z => by rw [if_neg (by omega)]) (Nat.lt_succ_self _) hfr h_o h_a h_b h_c hw (lv_sub hl [2, 3, 4, 0] rfl)
          · exact absurd hc10 (by omega)
      · refine lv_iconst (v := iI 1) hx hb d_AL_insert_44 rfl ?_
        refine lv_goto (tgt := 49) hx hb d_AL_insert_45 (by decide) ?_
        refine lv_istore_n (lv' := [(3, .int (iI 1)), (0, .ref o), (1, .int (iI x)), (2, .int (iI i))]) hx hb d_AL_insert_49 rfl hl (by decide) rfl (fun ls hl => ?_)
        refine lv_iload_n hx hb d_AL_insert_50 rfl (lv_at hl 0 rfl) ?_
        refine zq_if_ne (tgt := 63) hx hb d_AL_insert_51 (by decide) (by decide) (fun hc11 => ?_) (fun hc11 => ?_)
        · exact zq_vret hx hb hr hlocks hZ hw ⟨rfl, c, ls0, zIns_old (i := i) (by omega) (by omega) (by omega) hS, h_o, h_c, hfr⟩ d_AL_insert_63
        · refine lv_aload_n hx hb d_AL_insert_54 rfl (lv_at hl 1 rfl) ?_
          refine zq_get hx hb hts i_AL hown hK hw h_o rfl 4 (by decide) (hts _ tw_69) rfl d_AL_insert_55 ?_
          refine lv_bipush (v := iI 33) hx hb d_AL_insert_58 (by decide) ?_
          refine zq_icmp_lt (tgt := 64) hx hb d_AL_insert_60 (by decide) ⟨by omega, by omega⟩ (by decide) (fun hc12 => ?_) (fun hc12 => ?_)
          · refine lv_aload_n hx hb d_AL_insert_64 rfl (lv_at hl 1 rfl) ?_
            refine zq_get hx hb hts i_AL hown hK hw h_o rfl 4 (by decide) (hts _ tw_69) rfl d_AL_insert_65 ?_
            refine lv_istore (lv' := [(4, .int (iI c)), (3, .int (iI 1)), (0, .ref o), (1, .int (iI x)), (2, .int (iI i))]) hx hb d_AL_insert_68 hl (by decide) rfl (fun ls hl => ?_)
            exact hK2 _ i c ls0 Mq _ _ _ (by omega) hlow (fun q => by have := hup q; omega) (fun z => by rw [if_neg (by omega)]) (Nat.lt_succ_self _) hfr h_o h_a h_b h_c hw (lv_sub hl [2, 3, 4, 0] rfl)
          · exact absurd hc12 (by omega)
  have hL : ∀ (n : Nat) (i : Int) (Mq : zq_M) (H : Heap) (locs : List Loc) (ls : Array Slot), (0 ≤ i ∧ i ≤ c) → (∀ j, 0 ≤ j → j < i → ls0 j < x) → (c - i).toNat < n → (∀ q, q ≠ o → q ≠ cA → Mq q = M q) → Mq o = some (.inr (1, [.ref aA, .ref bA, .ref cA, .int (iI p0), .int (iI c)])) → Mq aA = some (cI (K 0) 48 al) → Mq bA = some (cI (K 0) 48 at0) → Mq cA = some (cI (K 0) 33 ls0) → zq_W D vwCl A s.heap Mq H locs → lv_has ls 5 [(0, .ref o), (1, .int (iI x)), (2, .int (iI i))] → W p l e ({ frames := 0, cells := 0, slots := 0, locals := 0 } : Room) s m [.ref o, .int (iI x)].toArray below meth co H locs 0 0 (MQ below (zq_Q D vwCl (zT K) (P_AL_insert K M o aA bA cA p0 c al at0 ls0 x) A) [.ref o, .int (iI x)].toArray s 0 0 A) (F0 m 2 ls []) := by
    intro n
    induction n with
    | zero =>
      intro i Mq H locs ls hi hlow hms hfr h_o h_a h_b h_c hw hl
      exact absurd hms (Nat.not_lt_zero _)
    | succ n ih_hL =>
      intro i Mq H locs ls hi hlow hms hfr h_o h_a h_b h_c hw hl
      refine lv_iload_n hx hb d_AL_insert_2 rfl (lv_at hl 2 rfl) ?_
      refine lv_aload_n hx hb d_AL_insert_3 rfl (lv_at hl 0 rfl) ?_
      refine zq_get hx hb hts i_AL hown hK hw h_o rfl 4 (by decide) (hts _ tw_69) rfl d_AL_insert_4 ?_
      refine zq_icmp_ge (tgt := 26) hx hb d_AL_insert_7 (by decide) ⟨by omega, by omega⟩ ⟨by omega, by omega⟩ (fun hc13 => ?_) (fun hc13 => ?_)
      · exact hJ i Mq _ _ _ (by omega) hlow (fun q => by omega) hfr h_o h_a h_b h_c hw (lv_sub hl [0, 1, 2] rfl)
      · refine lv_aload_n hx hb d_AL_insert_10 rfl (lv_at hl 0 rfl) ?_
        refine zq_get hx hb hts i_AL hown hK hw h_o rfl 2 (by decide) (hts _ tw_67) rfl d_AL_insert_11 ?_
        refine lv_iload_n hx hb d_AL_insert_14 rfl (lv_at hl 2 rfl) ?_
        refine zq_iald hx hb hK hw 0 h_c rfl (by omega) (by omega) (by decide) d_AL_insert_15 ?_
        refine lv_iload_n hx hb d_AL_insert_16 rfl (lv_at hl 1 rfl) ?_
        refine zq_icmp_ge (tgt := 26) hx hb d_AL_insert_17 (by decide) (hi3 _) hx0 (fun hc14 => ?_) (fun hc14 => ?_)
        · exact hJ i Mq _ _ _ (by omega) hlow (fun q => by omega) hfr h_o h_a h_b h_c hw (lv_sub hl [0, 1, 2] rfl)
        · refine lv_iinc (v := iI (i + 1)) (lv' := [(2, .int (iI (i + 1))), (0, .ref o), (1, .int (iI x))]) hx hb d_AL_insert_20 hl (k := 2) rfl (iI_add _ _) (by decide) rfl (fun ls hl => ?_)
          refine lv_goto (tgt := 2) hx hb d_AL_insert_23 (by decide) ?_
          exact ih_hL (i + 1) Mq _ _ _ (by omega) (fun j h1 h2 => by by_cases q : j = i; rw [q]; omega; exact hlow j h1 (by omega)) (by omega) hfr h_o h_a h_b h_c hw (lv_sub hl [1, 2, 0] rfl)
  refine lv_iconst (v := iI 0) hx hb d_AL_insert_0 rfl ?_
  refine lv_istore_n (lv' := [(2, .int (iI 0)), (0, .ref o), (1, .int (iI x))]) hx hb d_AL_insert_1 rfl hl (by decide) rfl (fun ls hl => ?_)
  exact hL _ 0 M _ _ _ (by omega) (fun j h1 h2 => by omega) (Nat.lt_succ_self _) hfr h_o h_a h_b h_c hw (lv_sub hl [1, 2, 0] rfl)
