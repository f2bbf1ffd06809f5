abbrev P_DT_isInside (K : Nat → ClassId) (M : zq_M) (i : Int) : Option Value → zq_M → Prop := fun v M' => v = some (.int (iI (if 0 ≤ i ∧ i < 12 then 1 else 0))) ∧ M' = M
set_option maxHeartbeats 4000000 in
set_option maxRecDepth 100000 in
theorem c_DT_isInside (l : Launch) (D : va_G) (K : Nat → ClassId) (M : zq_M) (i : Int) (hi : inI i) : zq_Met l y_DT_isInside (.code y_DT_isInside b_DT_isInside 1 (some .boolean) :: lw_gd) { frames := 0, cells := 0, slots := 0, locals := 0 } D vwCl (zT K) [.int (iI i)] M (P_DT_isInside K M i) 0 0 := by
  refine zq_start (cc := b_DT_isInside) (maxL := 1) (ret := (some .boolean)) (by decide) rfl (Nat.le_of_ble_eq_true rfl) ?_
  intro p e s m below meth co A ls hx hb hr hml hts hown hnm hlocks hA hZ hw hl
  have hts : ∀ w ∈ lw_gd, w.before [.int (iI i)].toArray s = true := fun w h => hts w (List.mem_cons_of_mem _ h)
  have hown : s.vm.findClass R_DT = some m.cls := hown
  have hK := hZ.1
  have hl : lv_has ls 1 [(0, .int (iI i))] := hl
  refine lv_iload_n hx hb d_DT_isInside_0 rfl (lv_at hl 0 rfl) ?_
  refine zq_if_lt (tgt := 14) hx hb d_DT_isInside_1 (by decide) hi (fun hc1 => ?_) (fun hc1 => ?_)
  · refine lv_iconst (v := iI 0) hx hb d_DT_isInside_14 rfl ?_
    exact zq_zret hx hb hr rfl hlocks hZ hw ⟨zq_ri (by rw [if_neg (by omega)]), rfl⟩ d_DT_isInside_15
  · refine lv_iload_n hx hb d_DT_isInside_4 rfl (lv_at hl 0 rfl) ?_
    refine lv_bipush (v := iI 12) hx hb d_DT_isInside_5 (by decide) ?_
    refine zq_icmp_ge (tgt := 14) hx hb d_DT_isInside_7 (by decide) hi (by decide) (fun hc2 => ?_) (fun hc2 => ?_)
    · refine lv_iconst (v := iI 0) hx hb d_DT_isInside_14 rfl ?_
      exact zq_zret hx hb hr rfl hlocks hZ hw ⟨zq_ri (by rw [if_neg (by omega)]), rfl⟩ d_DT_isInside_15
    · refine lv_iconst (v := iI 1) hx hb d_DT_isInside_10 rfl ?_
      refine lv_goto (tgt := 15) hx hb d_DT_isInside_11 (by decide) ?_
      exact zq_zret hx hb hr rfl hlocks hZ hw ⟨zq_ri (by rw [if_pos (by omega)]), rfl⟩ d_DT_isInside_15
abbrev P_DT_cell (K : Nat → ClassId) (M : zq_M) (o : Nat) (cA : Nat) (pr : Nat) (on : Nat) (pa : Int → Nat) (r : Int) (q0 : Int) : Option Value → zq_M → Prop := fun v M' => v = some (.ref (pa (r * 12 + q0))) ∧ M' = M
set_option maxHeartbeats 4000000 in
set_option maxRecDepth 100000 in
theorem c_DT_cell (l : Launch) (D : va_G) (K : Nat → ClassId) (M : zq_M) (o : Nat) (cA : Nat) (pr : Nat) (on : Nat) (pa : Int → Nat) (r : Int) (q0 : Int) (h_o : M o = some (.inr (3, [.ref cA, .ref pr, .ref on]))) (h_c : M cA = some (cQ (K 3) 144 (fun i => some (pa i)))) (hr0 : 0 ≤ r ∧ r < 12) (hq0 : 0 ≤ q0 ∧ q0 < 12) : zq_Met l y_DT_cell (.code y_DT_cell b_DT_cell 3 (some (.object "AlexanderMatrix$Polynomial")) :: lw_gd) { frames := 1, cells := 0, slots := 0, locals := 20 } D vwCl (zT K) [.ref o, .int (iI r), .int (iI q0)] M (P_DT_cell K M o cA pr on pa r q0) 0 0 := by
  refine zq_start (cc := b_DT_cell) (maxL := 3) (ret := (some (.object "AlexanderMatrix$Polynomial"))) (by decide) rfl (Nat.le_of_ble_eq_true rfl) ?_
  intro p e s m below meth co A ls hx hb hr hml hts hown hnm hlocks hA hZ hw hl
  have hts : ∀ w ∈ lw_gd, w.before [.ref o, .int (iI r), .int (iI q0)].toArray s = true := fun w h => hts w (List.mem_cons_of_mem _ h)
  have hown : s.vm.findClass R_DT = some m.cls := hown
  have hK := hZ.1
  have hl : lv_has ls 3 [(0, .ref o), (1, .int (iI r)), (2, .int (iI q0))] := hl
  refine lv_iload_n hx hb d_DT_cell_0 rfl (lv_at hl 1 rfl) ?_
  refine zq_callS (b := 0) (C := "") (As := [.int (iI r)]) (rest := []) ⟨hx, hb, hml, hown, hts⟩ (c_DT_isInside l D K M r ⟨by omega, by omega⟩) (va_cwS 1 hts (zg_T tw_420 tw_421 tw_7 tw_422) rfl rfl rfl (by decide +kernel) ⟨Nat.le_of_ble_eq_true rfl, Nat.le_of_ble_eq_true rfl⟩) hZ hw hA rfl rfl hl.1 (Nat.le_of_ble_eq_true rfl) d_DT_cell_1 ⟨Nat.le_of_ble_eq_true rfl, Nat.le_of_ble_eq_true rfl⟩ (fun v M1 H locs hp hw => ?_)
  obtain ⟨rfl, hMe⟩ := hp
  rw [hMe] at hw
  refine W.eq (g2 := F0 m 4 ls [.int (iI (if 0 ≤ r ∧ r < 12 then 1 else 0))]) rfl ?_
  refine zq_if_eq (tgt := 28) hx hb d_DT_cell_4 (by decide) (by split <;> decide) (fun hc2 => ?_) (fun hc2 => ?_)
  · exact absurd hc2 (by rw [if_pos (by omega)]; decide)
  · refine lv_iload_n hx hb d_DT_cell_7 rfl (lv_at hl 2 rfl) ?_
    refine zq_callS (b := 0) (C := "") (As := [.int (iI q0)]) (rest := []) ⟨hx, hb, hml, hown, hts⟩ (c_DT_isInside l D K M q0 ⟨by omega, by omega⟩) (va_cwS 1 hts (zg_T tw_420 tw_421 tw_7 tw_422) rfl rfl rfl (by decide +kernel) ⟨Nat.le_of_ble_eq_true rfl, Nat.le_of_ble_eq_true rfl⟩) hZ hw hA rfl rfl hl.1 (Nat.le_of_ble_eq_true rfl) d_DT_cell_8 ⟨Nat.le_of_ble_eq_true rfl, Nat.le_of_ble_eq_true rfl⟩ (fun v M3 H locs hp hw => ?_)
    obtain ⟨rfl, hMe⟩ := hp
    rw [hMe] at hw
    refine W.eq (g2 := F0 m 11 ls [.int (iI (if 0 ≤ q0 ∧ q0 < 12 then 1 else 0))]) rfl ?_
    refine zq_if_eq (tgt := 28) hx hb d_DT_cell_11 (by decide) (by split <;> decide) (fun hc4 => ?_) (fun hc4 => ?_)
    · exact absurd hc4 (by rw [if_pos (by omega)]; decide)
    · refine lv_aload_n hx hb d_DT_cell_14 rfl (lv_at hl 0 rfl) ?_
      refine zq_get hx hb hts i_DT hown hK hw h_o rfl 0 (by decide) (hts _ tw_141) rfl d_DT_cell_15 ?_
      refine lv_iload_n hx hb d_DT_cell_18 rfl (lv_at hl 1 rfl) ?_
      refine lv_bipush (v := iI 12) hx hb d_DT_cell_19 (by decide) ?_
      refine zq_imul hx hb d_DT_cell_21 ?_
      refine lv_iload_n hx hb d_DT_cell_22 rfl (lv_at hl 2 rfl) ?_
      refine zq_iadd hx hb d_DT_cell_23 ?_
      refine zq_aald hx hb hK hw 3 rfl h_c rfl (by omega) (by omega) (by decide) rfl d_DT_cell_24 ?_
      refine lv_goto (tgt := 32) hx hb d_DT_cell_25 (by decide) ?_
      exact zq_aret hx hb hr (Or.inl ⟨_, rfl⟩) hlocks hZ hw ⟨rfl, rfl⟩ d_DT_cell_32
abbrev P_DT_put (K : Nat → ClassId) (M : zq_M) (o : Nat) (cA : Nat) (pr : Nat) (on : Nat) (pa : Int → Nat) (r : Int) (q0 : Int) (c0 : Int) (s0 : Int) (qk : Nat) (d : Int) (f : Int → Int) : Option Value → zq_M → Prop := fun v M' => v = none ∧ ∃ d', zD (zu (zu (fun _ => 0) 0 c0) 1 s0) d' ∧ M' (pa (r * 12 + q0)) = some (.inr (8, [.ref qk, .int (iI d')])) ∧ M' qk = some (cJ (K 1) 25 (zu (zu (fun _ => 0) 0 c0) 1 s0)) ∧ ∀ q, q ≠ (pa (r * 12 + q0)) → q ≠ qk → M' q = M q
set_option maxHeartbeats 4000000 in
set_option maxRecDepth 100000 in
theorem c_DT_put (l : Launch) (D : va_G) (K : Nat → ClassId) (M : zq_M) (o : Nat) (cA : Nat) (pr : Nat) (on : Nat) (pa : Int → Nat) (r : Int) (q0 : Int) (c0 : Int) (s0 : Int) (qk : Nat) (d : Int) (f : Int → Int) (h_o : M o = some (.inr (3, [.ref cA, .ref pr, .ref on]))) (h_c : M cA = some (cQ (K 3) 144 (fun i => some (pa i)))) (h_p : M (pa (r * 12 + q0)) = some (.inr (8, [.ref qk, .int (iI d)]))) (h_q : M qk = some (cJ (K 1) 25 f)) (hU : zU f d) (hr0 : 0 ≤ r ∧ r < 12) (hq0 : 0 ≤ q0 ∧ q0 < 12) (hc0 : inI c0) (hs0 : inI s0) : zq_Met l y_DT_put (.code y_DT_put b_DT_put 5 none :: lw_gd) { frames := 2, cells := 0, slots := 0, locals := 46 } D vwCl (zT K) [.ref o, .int (iI r), .int (iI q0), .int (iI c0), .int (iI s0)] M (P_DT_put K M o cA pr on pa r q0 c0 s0 qk d f) 0 0 := by
  refine zq_start (cc := b_DT_put) (maxL := 5) (ret := none) (by decide) rfl (Nat.le_of_ble_eq_true rfl) ?_
  intro p e s m below meth co A ls hx hb hr hml hts hown hnm hlocks hA hZ hw hl
  have hts : ∀ w ∈ lw_gd, w.before [.ref o, .int (iI r), .int (iI q0), .int (iI c0), .int (iI s0)].toArray s = true := fun w h => hts w (List.mem_cons_of_mem _ h)
  have hown : s.vm.findClass R_DT = some m.cls := hown
  have hK := hZ.1
  have hl : lv_has ls 5 [(0, .ref o), (1, .int (iI r)), (2, .int (iI q0)), (3, .int (iI c0)), (4, .int (iI s0))] := hl
  have hfr : ∀ q, q ≠ (pa (r * 12 + q0)) → q ≠ qk → M q = M q := fun q _ _ => rfl
  refine lv_iload_n hx hb d_DT_put_0 rfl (lv_at hl 1 rfl) ?_
  refine zq_callS (b := 0) (C := "") (As := [.int (iI r)]) (rest := []) ⟨hx, hb, hml, hown, hts⟩ (c_DT_isInside l D K M r ⟨by omega, by omega⟩) (va_cwS 1 hts (zg_T tw_420 tw_421 tw_7 tw_422) rfl rfl rfl (by decide +kernel) ⟨Nat.le_of_ble_eq_true rfl, Nat.le_of_ble_eq_true rfl⟩) hZ hw hA rfl rfl hl.1 (Nat.le_of_ble_eq_true rfl) d_DT_put_1 ⟨Nat.le_of_ble_eq_true rfl, Nat.le_of_ble_eq_true rfl⟩ (fun v M1 H locs hp hw => ?_)
  obtain ⟨rfl, hMe⟩ := hp
  rw [hMe] at hw
  refine W.eq (g2 := F0 m 4 ls [.int (iI (if 0 ≤ r ∧ r < 12 then 1 else 0))]) rfl ?_
  refine zq_if_eq (tgt := 28) hx hb d_DT_put_4 (by decide) (by split <;> decide) (fun hc2 => ?_) (fun hc2 => ?_)
  · exact absurd hc2 (by rw [if_pos (by omega)]; decide)
  · refine lv_iload_n hx hb d_DT_put_7 rfl (lv_at hl 2 rfl) ?_
    refine zq_callS (b := 0) (C := "") (As := [.int (iI q0)]) (rest := []) ⟨hx, hb, hml, hown, hts⟩ (c_DT_isInside l D K M q0 ⟨by omega, by omega⟩) (va_cwS 1 hts (zg_T tw_420 tw_421 tw_7 tw_422) rfl rfl rfl (by decide +kernel) ⟨Nat.le_of_ble_eq_true rfl, Nat.le_of_ble_eq_true rfl⟩) hZ hw hA rfl rfl hl.1 (Nat.le_of_ble_eq_true rfl) d_DT_put_8 ⟨Nat.le_of_ble_eq_true rfl, Nat.le_of_ble_eq_true rfl⟩ (fun v M3 H locs hp hw => ?_)
    obtain ⟨rfl, hMe⟩ := hp
    rw [hMe] at hw
    refine W.eq (g2 := F0 m 11 ls [.int (iI (if 0 ≤ q0 ∧ q0 < 12 then 1 else 0))]) rfl ?_
    refine zq_if_eq (tgt := 28) hx hb d_DT_put_11 (by decide) (by split <;> decide) (fun hc4 => ?_) (fun hc4 => ?_)
    · exact absurd hc4 (by rw [if_pos (by omega)]; decide)
    · refine lv_aload_n hx hb d_DT_put_14 rfl (lv_at hl 0 rfl) ?_
      refine lv_iload_n hx hb d_DT_put_15 rfl (lv_at hl 1 rfl) ?_
      refine lv_iload_n hx hb d_DT_put_16 rfl (lv_at hl 2 rfl) ?_
      refine zq_callV (As := [.int (iI r), .int (iI q0)]) (rest := []) ⟨hx, hb, hml, hown, hts⟩ (c_DT_cell l D K M o cA pr on pa r q0 h_o h_c ⟨by omega, by omega⟩ ⟨by omega, by omega⟩) (cwV 2 hts (zg_V tw_423 tw_425 ts_16 tw_7 tw_426) rfl rfl rfl (by decide +kernel) ⟨Nat.le_of_ble_eq_true rfl, Nat.le_of_ble_eq_true rfl⟩) hZ hw hA h_o rfl rfl rfl rfl hl.1 (Nat.le_of_ble_eq_true rfl) d_DT_put_17 ⟨Nat.le_of_ble_eq_true rfl, Nat.le_of_ble_eq_true rfl⟩ (fun v M5 H locs hp hw => ?_)
      obtain ⟨rfl, hMe⟩ := hp
      rw [hMe] at hw
      refine W.eq (g2 := F0 m 20 ls [.ref (pa (r * 12 + q0))]) rfl ?_
      refine lv_iload_n hx hb d_DT_put_20 rfl (lv_at hl 3 rfl) ?_
      refine zq_i2l hx hb hc0 d_DT_put_21 ?_
      refine lv_iload hx hb d_DT_put_22 (lv_at hl 4 rfl) ?_
      refine zq_i2l hx hb hs0 d_DT_put_24 ?_
      refine zq_callV (As := [.long (iL c0), .long (iL s0)]) (rest := []) ⟨hx, hb, hml, hown, hts⟩ (c_PO_setLinear l D K M (pa (r * 12 + q0)) qk d f c0 s0 h_p h_q hU ⟨by omega, by omega⟩ ⟨by omega, by omega⟩) (cwV 2 hts (zg_V tw_129 tw_130 tw_131 tw_8 tw_132) rfl rfl rfl (by decide +kernel) ⟨Nat.le_of_ble_eq_true rfl, Nat.le_of_ble_eq_true rfl⟩) hZ hw hA h_p rfl rfl rfl rfl hl.1 (Nat.le_of_ble_eq_true rfl) d_DT_put_25 ⟨Nat.le_of_ble_eq_true rfl, Nat.le_of_ble_eq_true rfl⟩ (fun v M7 H locs hp hw => ?_)
      obtain ⟨rfl, dd6, hDdd6, hs1, hs2, ho⟩ := hp
      have h_o : M7 o = some (.inr (3, [.ref cA, .ref pr, .ref on])) := (ho _ (zq_ne h_o h_p (by simp)) (zq_ne h_o h_q (by simp))).trans h_o
      have h_c : M7 cA = some (cQ (K 3) 144 (fun i => some (pa i))) := (ho _ (zq_ne h_c h_p (by simp)) (zq_ne h_c h_q (by simp))).trans h_c
      have h_p : M7 (pa (r * 12 + q0)) = some (.inr (8, [.ref qk, .int (iI dd6)])) := hs1
      have h_q : M7 qk = some (cJ (K 1) 25 (zu (zu (fun _ => 0) 0 c0) 1 s0)) := hs2
      have hfr : ∀ q, q ≠ (pa (r * 12 + q0)) → q ≠ qk → M7 q = M q := fun q g0 g1 => (ho q g0 g1).trans (hfr q g0 g1)
      refine W.eq (g2 := F0 m 28 ls []) rfl ?_
      exact zq_vret hx hb hr hlocks hZ hw ⟨rfl, _, hDdd6, h_p, h_q, hfr⟩ d_DT_put_28
abbrev P_DT_findPivot (K : Nat → ClassId) (M : zq_M) (o : Nat) (cA : Nat) (pr : Nat) (on : Nat) (pa : Int → Nat) (qa : Int → Nat) (dg : Int → Int) (fc : Int → Int → Int) (st0 : Int) (od : Int) : Option Value → zq_M → Prop := fun v M' => ∃ r, v = some (.int (iI r)) ∧ zFd dg st0 od r ∧ M' = M
set_option maxHeartbeats 4000000 in
set_option maxRecDepth 100000 in
theorem c_DT_findPivot (l : Launch) (D : va_G) (K : Nat → ClassId) (M : zq_M) (o : Nat) (cA : Nat) (pr : Nat) (on : Nat) (pa : Int → Nat) (qa : Int → Nat) (dg : Int → Int) (fc : Int → Int → Int) (st0 : Int) (od : Int) (h_o : M o = some (.inr (3, [.ref cA, .ref pr, .ref on]))) (hPG : zPG K M cA pa qa dg fc) (hdg : ∀ i, 0 ≤ i → i < 144 → zD (fc i) (dg i)) (hk : 0 ≤ st0 ∧ st0 < od ∧ od ≤ 12) : zq_Met l y_DT_findPivot (.code y_DT_findPivot b_DT_findPivot 4 (some .int) :: lw_gd) { frames := 2, cells := 0, slots := 0, locals := 42 } D vwCl (zT K) [.ref o, .int (iI st0), .int (iI od)] M (P_DT_findPivot K M o cA pr on pa qa dg fc st0 od) 0 0 := by
  refine zq_start (cc := b_DT_findPivot) (maxL := 4) (ret := (some .int)) (by decide) rfl (Nat.le_of_ble_eq_true rfl) ?_
  intro p e s m below meth co A ls hx hb hr hml hts hown hnm hlocks hA hZ hw hl
  have hts : ∀ w ∈ lw_gd, w.before [.ref o, .int (iI st0), .int (iI od)].toArray s = true := fun w h => hts w (List.mem_cons_of_mem _ h)
  have hown : s.vm.findClass R_DT = some m.cls := hown
  have hK := hZ.1
  have hl : lv_has ls 4 [(0, .ref o), (1, .int (iI st0)), (2, .int (iI od))] := hl
  have h_c := hPG.1
  have hL : ∀ (n : Nat) (i : Int) (H : Heap) (locs : List Loc) (ls : Array Slot), (st0 ≤ i ∧ i ≤ od) → (∀ k, st0 ≤ k → k < i → dg (k * 12 + st0) < 0) → (od - i).toNat < n → zq_W D vwCl A s.heap M H locs → lv_has ls 4 [(0, .ref o), (1, .int (iI st0)), (2, .int (iI od)), (3, .int (iI i))] → W p l e ({ frames := 2, cells := 0, slots := 0, locals := 42 } : Room) s m [.ref o, .int (iI st0), .int (iI od)].toArray below meth co H locs 0 0 (MQ below (zq_Q D vwCl (zT K) (P_DT_findPivot K M o cA pr on pa qa dg fc st0 od) A) [.ref o, .int (iI st0), .int (iI od)].toArray s 0 0 A) (F0 m 2 ls []) := by
    intro n
    induction n with
    | zero =>
      intro i H locs ls hi hz hms hw hl
      exact absurd hms (Nat.not_lt_zero _)
    | succ n ih_hL =>
      intro i H locs ls hi hz hms hw hl
      refine lv_iload_n hx hb d_DT_findPivot_2 rfl (lv_at hl 3 rfl) ?_
      refine lv_iload_n hx hb d_DT_findPivot_3 rfl (lv_at hl 2 rfl) ?_
      refine zq_icmp_ge (tgt := 27) hx hb d_DT_findPivot_4 (by decide) ⟨by omega, by omega⟩ ⟨by omega, by omega⟩ (fun hc1 => ?_) (fun hc1 => ?_)
      · refine lv_iconst (v := iI (-1)) hx hb d_DT_findPivot_27 rfl ?_
        exact zq_iret hx hb hr hlocks hZ hw ⟨_, rfl, Or.inr ⟨rfl, fun k h1 h2 => hz k h1 (by omega)⟩, rfl⟩ d_DT_findPivot_28
      · refine lv_aload_n hx hb d_DT_findPivot_7 rfl (lv_at hl 0 rfl) ?_
        refine lv_iload_n hx hb d_DT_findPivot_8 rfl (lv_at hl 3 rfl) ?_
        refine lv_iload_n hx hb d_DT_findPivot_9 rfl (lv_at hl 1 rfl) ?_
        refine zq_callV (As := [.int (iI i), .int (iI st0)]) (rest := []) ⟨hx, hb, hml, hown, hts⟩ (c_DT_cell l D K M o cA pr on pa i st0 h_o h_c ⟨by omega, by omega⟩ ⟨by omega, by omega⟩) (cwV 2 hts (zg_V tw_423 tw_425 ts_16 tw_7 tw_426) rfl rfl rfl (by decide +kernel) ⟨Nat.le_of_ble_eq_true rfl, Nat.le_of_ble_eq_true rfl⟩) hZ hw hA h_o rfl rfl rfl rfl hl.1 (Nat.le_of_ble_eq_true rfl) d_DT_findPivot_10 ⟨Nat.le_of_ble_eq_true rfl, Nat.le_of_ble_eq_true rfl⟩ (fun v M2 H locs hp hw => ?_)
        obtain ⟨rfl, hMe⟩ := hp
        rw [hMe] at hw
        refine W.eq (g2 := F0 m 13 ls [.ref (pa (i * 12 + st0))]) rfl ?_
        have h_p := (hPG.2.1 (i * 12 + st0) (by omega) (by omega)).1
        obtain ⟨hdl, hdu⟩ := zD_le (hdg (i * 12 + st0) (by omega) (by omega))
        refine zq_callV (As := []) (rest := []) ⟨hx, hb, hml, hown, hts⟩ (c_PO_isZero l D K M (pa (i * 12 + st0)) (qa (i * 12 + st0)) (dg (i * 12 + st0)) h_p ⟨by omega, by omega⟩) (cwV 0 hts (zg_V tw_436 tw_437 tw_438 tw_8 tw_439) rfl rfl rfl (by decide +kernel) ⟨Nat.le_of_ble_eq_true rfl, Nat.le_of_ble_eq_true rfl⟩) hZ hw hA h_p rfl rfl rfl rfl hl.1 (Nat.le_of_ble_eq_true rfl) d_DT_findPivot_13 ⟨Nat.le_of_ble_eq_true rfl, Nat.le_of_ble_eq_true rfl⟩ (fun v M3 H locs hp hw => ?_)
        obtain ⟨rfl, hMe⟩ := hp
        rw [hMe] at hw
        refine W.eq (g2 := F0 m 16 ls [.int (iI (if (dg (i * 12 + st0)) < 0 then 1 else 0))]) rfl ?_
        refine zq_if_ne (tgt := 21) hx hb d_DT_findPivot_16 (by decide) (by split <;> decide) (fun hc4 => ?_) (fun hc4 => ?_)
        · have hlt : dg (i * 12 + st0) < 0 := Decidable.byContradiction fun z => by rw [if_neg z] at hc4; exact hc4 rfl
          refine lv_iinc (v := iI (i + 1)) (lv' := [(3, .int (iI (i + 1))), (0, .ref o), (1, .int (iI st0)), (2, .int (iI od))]) hx hb d_DT_findPivot_21 hl (k := 3) rfl (iI_add _ _) (by decide) rfl (fun ls hl => ?_)
          refine lv_goto (tgt := 2) hx hb d_DT_findPivot_24 (by decide) ?_
          exact ih_hL (i + 1) _ _ _ (by omega) (fun k h1 h2 => by by_cases q : k = i; rw [q]; omega; exact hz k h1 (by omega)) (by omega) hw (lv_sub hl [1, 2, 3, 0] rfl)
        · have hge : 0 ≤ dg (i * 12 + st0) := Decidable.byContradiction fun z => by rw [if_pos (by omega)] at hc4; omega
          refine lv_iload_n hx hb d_DT_findPivot_19 rfl (lv_at hl 3 rfl) ?_
          exact zq_iret hx hb hr hlocks hZ hw ⟨_, rfl, Or.inl ⟨by omega, by omega, hge, hz⟩, rfl⟩ d_DT_findPivot_20
  refine lv_iload_n hx hb d_DT_findPivot_0 rfl (lv_at hl 1 rfl) ?_
  refine lv_istore_n (lv' := [(3, .int (iI st0)), (0, .ref o), (1, .int (iI st0)), (2, .int (iI od))]) hx hb d_DT_findPivot_1 rfl hl (by decide) rfl (fun ls hl => ?_)
  exact hL _ st0 _ _ _ (by omega) (fun k h1 h2 => by omega) (Nat.lt_succ_self _) hw (lv_sub hl [1, 2, 3, 0] rfl)
abbrev P_DT_exchangeRows (K : Nat → ClassId) (M : zq_M) (o : Nat) (cA : Nat) (pr : Nat) (on : Nat) (pa : Int → Nat) (qa : Int → Nat) (dg : Int → Int) (fc : Int → Int → Int) (x : Int) (y : Int) : Option Value → zq_M → Prop := fun v M' => v = none ∧ zPG K M' cA (fun i => pa (zri x y i)) (fun i => qa (zri x y i)) (fun i => dg (zri x y i)) (fun i => fc (zri x y i)) ∧ ∀ q, q ≠ cA → M' q = M q
set_option maxHeartbeats 4000000 in
set_option maxRecDepth 100000 in
theorem c_DT_exchangeRows (l : Launch) (D : va_G) (K : Nat → ClassId) (M : zq_M) (o : Nat) (cA : Nat) (pr : Nat) (on : Nat) (pa : Int → Nat) (qa : Int → Nat) (dg : Int → Int) (fc : Int → Int → Int) (x : Int) (y : Int) (h_o : M o = some (.inr (3, [.ref cA, .ref pr, .ref on]))) (hPG : zPG K M cA pa qa dg fc) (hdg : ∀ i, 0 ≤ i → i < 144 → zD (fc i) (dg i)) (hx0 : 0 ≤ x ∧ x < 12) (hy0 : 0 ≤ y ∧ y < 12) : zq_Met l y_DT_exchangeRows (.code y_DT_exchangeRows b_DT_exchangeRows 7 none :: lw_gd) { frames := 1, cells := 0, slots := 0, locals := 20 } D vwCl (zT K) [.ref o, .int (iI x), .int (iI y)] M (P_DT_exchangeRows K M o cA pr on pa qa dg fc x y) 0 0 := by
  refine zq_start (cc := b_DT_exchangeRows) (maxL := 7) (ret := none) (by decide) rfl (Nat.le_of_ble_eq_true rfl) ?_
  intro p e s m below meth co A ls hx hb hr hml hts hown hnm hlocks hA hZ hw hl
  have hts : ∀ w ∈ lw_gd, w.before [.ref o, .int (iI x), .int (iI y)].toArray s = true := fun w h => hts w (List.mem_cons_of_mem _ h)
  have hown : s.vm.findClass R_DT = some m.cls := hown
  have hK := hZ.1
  have hl : lv_has ls 7 [(0, .ref o), (1, .int (iI x)), (2, .int (iI y))] := hl
  have hfr : ∀ q, q ≠ cA → M q = M q := fun q _ => rfl
  have h_c := hPG.1
  have hL : ∀ (n : Nat) (i : Int) (g : Int → Option Nat) (Mq : zq_M) (H : Heap) (locs : List Loc) (ls : Array Slot), (0 ≤ i ∧ i ≤ 12) → (∀ k, g k = if k % 12 < i then some (pa (zri x y k)) else some (pa k)) → (12 - i).toNat < n → (∀ q, q ≠ cA → Mq q = M q) → Mq o = some (.inr (3, [.ref cA, .ref pr, .ref on])) → Mq cA = some (cQ (K 3) 144 g) → zq_W D vwCl A s.heap Mq H locs → lv_has ls 7 [(0, .ref o), (1, .int (iI x)), (2, .int (iI y)), (3, .int (iI i))] → W p l e ({ frames := 1, cells := 0, slots := 0, locals := 20 } : Room) s m [.ref o, .int (iI x), .int (iI y)].toArray below meth co H locs 0 0 (MQ below (zq_Q D vwCl (zT K) (P_DT_exchangeRows K M o cA pr on pa qa dg fc x y) A) [.ref o, .int (iI x), .int (iI y)].toArray s 0 0 A) (F0 m 17 ls []) := by
    intro n
    induction n with
    | zero =>
      intro i g Mq H locs ls hi hg hms hfr h_o h_c hw hl
      exact absurd hms (Nat.not_lt_zero _)
    | succ n ih_hL =>
      intro i g Mq H locs ls hi hg hms hfr h_o h_c hw hl
      refine lv_iload_n hx hb d_DT_exchangeRows_17 rfl (lv_at hl 3 rfl) ?_
      refine lv_bipush (v := iI 12) hx hb d_DT_exchangeRows_18 (by decide) ?_
      refine zq_icmp_ge (tgt := 77) hx hb d_DT_exchangeRows_20 (by decide) ⟨by omega, by omega⟩ (by decide) (fun hc1 => ?_) (fun hc1 => ?_)
      · exact zq_vret hx hb hr hlocks hZ hw ⟨rfl, zPG_swp hPG hx0 hy0 (by rw [h_c]; congr 1; show cQ _ _ _ = cQ _ _ _; rw [show g = fun k => some (pa (zri x y k)) from funext fun k => by rw [hg, if_pos (by omega)]]) hfr, hfr⟩ d_DT_exchangeRows_77
      · have h_x : Mq (pa (x * 12 + i)) = some (.inr (8, [.ref (qa (x * 12 + i)), .int (iI (dg (x * 12 + i)))])) := (hfr _ (zq_ne (hPG.2.1 (x * 12 + i) (by omega) (by omega)).1 hPG.1 (by simp))).trans (hPG.2.1 (x * 12 + i) (by omega) (by omega)).1
        have h_y : Mq (pa (y * 12 + i)) = some (.inr (8, [.ref (qa (y * 12 + i)), .int (iI (dg (y * 12 + i)))])) := (hfr _ (zq_ne (hPG.2.1 (y * 12 + i) (by omega) (by omega)).1 hPG.1 (by simp))).trans (hPG.2.1 (y * 12 + i) (by omega) (by omega)).1
        refine lv_iload_n hx hb d_DT_exchangeRows_23 rfl (lv_at hl 1 rfl) ?_
        refine lv_bipush (v := iI 12) hx hb d_DT_exchangeRows_24 (by decide) ?_
        refine zq_imul hx hb d_DT_exchangeRows_26 ?_
        refine lv_iload_n hx hb d_DT_exchangeRows_27 rfl (lv_at hl 3 rfl) ?_
        refine zq_iadd hx hb d_DT_exchangeRows_28 ?_
        refine lv_istore (lv' := [(4, .int (iI ((x * 12) + i))), (0, .ref o), (1, .int (iI x)), (2, .int (iI y)), (3, .int (iI i))]) hx hb d_DT_exchangeRows_29 hl (by decide) rfl (fun ls hl => ?_)
        refine lv_iload_n hx hb d_DT_exchangeRows_31 rfl (lv_at hl 3 rfl) ?_
        refine lv_bipush (v := iI 12) hx hb d_DT_exchangeRows_32 (by decide) ?_
        refine zq_imul hx hb d_DT_exchangeRows_34 ?_
        refine lv_iload_n hx hb d_DT_exchangeRows_35 rfl (lv_at hl 4 rfl) ?_
        refine zq_iadd hx hb d_DT_exchangeRows_36 ?_
        refine lv_istore (lv' := [(5, .int (iI ((y * 12) + i))), (4, .int (iI ((x * 12) + i))), (0, .ref o), (1, .int (iI x)), (2, .int (iI y)), (3, .int (iI i))]) hx hb d_DT_exchangeRows_37 hl (by decide) rfl (fun ls hl => ?_)
        refine lv_aload_n hx hb d_DT_exchangeRows_39 rfl (lv_at hl 2 rfl) ?_
        refine zq_get hx hb hts i_DT hown hK hw h_o rfl 0 (by decide) (hts _ tw_141) rfl d_DT_exchangeRows_40 ?_
        refine lv_iload hx hb d_DT_exchangeRows_43 (lv_at hl 1 rfl) ?_
        refine zq_aald hx hb hK hw 3 rfl h_c rfl (by omega) (by omega) (by decide) (by rw [hg, if_neg (by omega)]) d_DT_exchangeRows_45 ?_
        refine lv_astore (lv' := [(6, .ref (pa (x * 12 + i))), (5, .int (iI ((y * 12) + i))), (4, .int (iI ((x * 12) + i))), (0, .ref o), (1, .int (iI x)), (2, .int (iI y)), (3, .int (iI i))]) hx hb d_DT_exchangeRows_46 hl (by decide) rfl (fun ls hl => ?_)
        refine lv_aload_n hx hb d_DT_exchangeRows_48 rfl (lv_at hl 3 rfl) ?_
        refine zq_get hx hb hts i_DT hown hK hw h_o rfl 0 (by decide) (hts _ tw_141) rfl d_DT_exchangeRows_49 ?_
        refine lv_iload hx hb d_DT_exchangeRows_52 (lv_at hl 2 rfl) ?_
        refine lv_aload_n hx hb d_DT_exchangeRows_54 rfl (lv_at hl 3 rfl) ?_
        refine zq_get hx hb hts i_DT hown hK hw h_o rfl 0 (by decide) (hts _ tw_141) rfl d_DT_exchangeRows_55 ?_
        refine lv_iload hx hb d_DT_exchangeRows_58 (lv_at hl 1 rfl) ?_
        refine zq_aald hx hb hK hw 3 rfl h_c rfl (by omega) (by omega) (by decide) (by rw [hg, if_neg (by omega)]) d_DT_exchangeRows_60 ?_
        refine zq_aast hx hb hK hw 3 8 h_c rfl h_y rfl (by omega) (by omega) (by decide) d_DT_exchangeRows_61 (fun M2 H locs hs ho hw => ?_)
        have h_o : M2 o = some (.inr (3, [.ref cA, .ref pr, .ref on])) := (ho _ (zq_ne h_o h_c (by simp))).trans h_o
        have h_x : M2 (pa (x * 12 + i)) = some (.inr (8, [.ref (qa (x * 12 + i)), .int (iI (dg (x * 12 + i)))])) := (ho _ (zq_ne h_x h_c (by simp))).trans h_x
        have h_y : M2 (pa (y * 12 + i)) = some (.inr (8, [.ref (qa (y * 12 + i)), .int (iI (dg (y * 12 + i)))])) := (ho _ (zq_ne h_y h_c (by simp))).trans h_y
        have h_c : M2 cA = some (cQ (K 3) 144 (zu g ((x * 12) + i) (some (pa (y * 12 + i))))) := hs
        have hfr : ∀ q, q ≠ cA → M2 q = M q := fun q g0 => (ho q g0).trans (hfr q g0)
        refine lv_aload_n hx hb d_DT_exchangeRows_62 rfl (lv_at hl 3 rfl) ?_
        refine zq_get hx hb hts i_DT hown hK hw h_o rfl 0 (by decide) (hts _ tw_141) rfl d_DT_exchangeRows_63 ?_
        refine lv_iload hx hb d_DT_exchangeRows_66 (lv_at hl 1 rfl) ?_
        refine lv_aload hx hb d_DT_exchangeRows_68 (lv_at hl 0 rfl) ?_
        refine zq_aast hx hb hK hw 3 8 h_c rfl h_x rfl (by omega) (by omega) (by decide) d_DT_exchangeRows_70 (fun M3 H locs hs ho hw => ?_)
        have h_o : M3 o = some (.inr (3, [.ref cA, .ref pr, .ref on])) := (ho _ (zq_ne h_o h_c (by simp))).trans h_o
        have h_x : M3 (pa (x * 12 + i)) = some (.inr (8, [.ref (qa (x * 12 + i)), .int (iI (dg (x * 12 + i)))])) := (ho _ (zq_ne h_x h_c (by simp))).trans h_x
        have h_y : M3 (pa (y * 12 + i)) = some (.inr (8, [.ref (qa (y * 12 + i)), .int (iI (dg (y * 12 + i)))])) := (ho _ (zq_ne h_y h_c (by simp))).trans h_y
        have h_c : M3 cA = some (cQ (K 3) 144 (zu (zu g ((x * 12) + i) (some (pa (y * 12 + i)))) ((y * 12) + i) (some (pa (x * 12 + i))))) := hs
        have hfr : ∀ q, q ≠ cA → M3 q = M q := fun q g0 => (ho q g0).trans (hfr q g0)
        refine lv_iinc (v := iI (i + 1)) (lv' := [(3, .int (iI (i + 1))), (6, .ref (pa (x * 12 + i))), (5, .int (iI ((y * 12) + i))), (4, .int (iI ((x * 12) + i))), (0, .ref o), (1, .int (iI x)), (2, .int (iI y))]) hx hb d_DT_exchangeRows_71 hl (k := 6) rfl (iI_add _ _) (by decide) rfl (fun ls hl => ?_)
        refine lv_goto (tgt := 17) hx hb d_DT_exchangeRows_74 (by decide) ?_
        exact ih_hL (i + 1) (zu (zu g ((x * 12) + i) (some (pa (y * 12 + i)))) ((y * 12) + i) (some (pa (x * 12 + i)))) M3 _ _ _ (by omega) (zri_step hx0 hy0 (by omega) hg) (by omega) hfr h_o h_c hw (lv_sub hl [4, 5, 6, 0] rfl)
  refine lv_iload_n hx hb d_DT_exchangeRows_0 rfl (lv_at hl 1 rfl) ?_
  refine zq_callS (b := 0) (C := "") (As := [.int (iI x)]) (rest := []) ⟨hx, hb, hml, hown, hts⟩ (c_DT_isInside l D K M x ⟨by omega, by omega⟩) (va_cwS 1 hts (zg_T tw_420 tw_421 tw_7 tw_422) rfl rfl rfl (by decide +kernel) ⟨Nat.le_of_ble_eq_true rfl, Nat.le_of_ble_eq_true rfl⟩) hZ hw hA rfl rfl hl.1 (Nat.le_of_ble_eq_true rfl) d_DT_exchangeRows_1 ⟨Nat.le_of_ble_eq_true rfl, Nat.le_of_ble_eq_true rfl⟩ (fun v M4 H locs hp hw => ?_)
  obtain ⟨rfl, hMe⟩ := hp
  rw [hMe] at hw
  refine W.eq (g2 := F0 m 4 ls [.int (iI (if 0 ≤ x ∧ x < 12 then 1 else 0))]) rfl ?_
  refine zq_if_eq (tgt := 14) hx hb d_DT_exchangeRows_4 (by decide) (by split <;> decide) (fun hc5 => ?_) (fun hc5 => ?_)
  · exact absurd hc5 (by rw [if_pos (by omega)]; decide)
  · refine lv_iload_n hx hb d_DT_exchangeRows_7 rfl (lv_at hl 2 rfl) ?_
    refine zq_callS (b := 0) (C := "") (As := [.int (iI y)]) (rest := []) ⟨hx, hb, hml, hown, hts⟩ (c_DT_isInside l D K M y ⟨by omega, by omega⟩) (va_cwS 1 hts (zg_T tw_420 tw_421 tw_7 tw_422) rfl rfl rfl (by decide +kernel) ⟨Nat.le_of_ble_eq_true rfl, Nat.le_of_ble_eq_true rfl⟩) hZ hw hA rfl rfl hl.1 (Nat.le_of_ble_eq_true rfl) d_DT_exchangeRows_8 ⟨Nat.le_of_ble_eq_true rfl, Nat.le_of_ble_eq_true rfl⟩ (fun v M6 H locs hp hw => ?_)
    obtain ⟨rfl, hMe⟩ := hp
    rw [hMe] at hw
    refine W.eq (g2 := F0 m 11 ls [.int (iI (if 0 ≤ y ∧ y < 12 then 1 else 0))]) rfl ?_
    refine zq_if_ne (tgt := 15) hx hb d_DT_exchangeRows_11 (by decide) (by split <;> decide) (fun hc7 => ?_) (fun hc7 => ?_)
    · refine lv_iconst (v := iI 0) hx hb d_DT_exchangeRows_15 rfl ?_
      refine lv_istore_n (lv' := [(3, .int (iI 0)), (0, .ref o), (1, .int (iI x)), (2, .int (iI y))]) hx hb d_DT_exchangeRows_16 rfl hl (by decide) rfl (fun ls hl => ?_)
      exact hL _ 0 (fun i => some (pa i)) M _ _ _ (by omega) (fun k => by rw [if_neg (by omega)]) (Nat.lt_succ_self _) hfr h_o h_c hw (lv_sub hl [1, 2, 3, 0] rfl)
    · exact absurd hc7 (by rw [if_pos (by omega)]; decide)
