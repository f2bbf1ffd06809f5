abbrev P_MR_findPivot (K : Nat → ClassId) (M : zq_M) (o : Nat) (gA : Nat) (ra : Int → Nat) (F : Int → Int → Int) (fr : Int) (rows : Int) (col : Int) : Option Value → zq_M → Prop := fun v M' => ∃ r, v = some (.int (iI r)) ∧ zFp F fr rows col r ∧ M' = M
set_option maxHeartbeats 4000000 in
set_option maxRecDepth 100000 in
theorem c_MR_findPivot (l : Launch) (D : va_G) (K : Nat → ClassId) (M : zq_M) (o : Nat) (gA : Nat) (ra : Int → Nat) (F : Int → Int → Int) (fr : Int) (rows : Int) (col : Int) (h_o : M o = some (.inr (7, [.ref gA]))) (hG1 : zG K M gA ra F) (hR : ∀ i j, 0 ≤ F i j ∧ F i j ≤ 96) (hk : 0 ≤ fr ∧ fr ≤ rows ∧ rows ≤ 12 ∧ 0 ≤ col ∧ col < 33) : zq_Met l y_MR_findPivot (.code y_MR_findPivot b_MR_findPivot 5 (some .int) :: lw_gd) { frames := 0, cells := 0, slots := 0, locals := 0 } D vwCl (zT K) [.ref o, .int (iI fr), .int (iI rows), .int (iI col)] M (P_MR_findPivot K M o gA ra F fr rows col) 0 0 := by
  refine zq_start (cc := b_MR_findPivot) (maxL := 5) (ret := (some .int)) (by decide) rfl (Nat.le_of_ble_eq_true rfl) ?_
  intro p e s m below meth co A ls hx hb hr hml hts hown hnm hlocks hA hZ hw hl
  have hts : ∀ w ∈ lw_gd, w.before [.ref o, .int (iI fr), .int (iI rows), .int (iI col)].toArray s = true := fun w h => hts w (List.mem_cons_of_mem _ h)
  have hown : s.vm.findClass R_MR = some m.cls := hown
  have hK := hZ.1
  have hl : lv_has ls 5 [(0, .ref o), (1, .int (iI fr)), (2, .int (iI rows)), (3, .int (iI col))] := hl
  have h_g := hG1.1
  have hL : ∀ (n : Nat) (i : Int) (H : Heap) (locs : List Loc) (ls : Array Slot), (fr ≤ i ∧ i ≤ rows) → (∀ k, fr ≤ k → k < i → F k col = 0) → (rows - i).toNat < n → zq_W D vwCl A s.heap M H locs → lv_has ls 5 [(0, .ref o), (1, .int (iI fr)), (2, .int (iI rows)), (3, .int (iI col)), (4, .int (iI i))] → W p l e ({ frames := 0, cells := 0, slots := 0, locals := 0 } : Room) s m [.ref o, .int (iI fr), .int (iI rows), .int (iI col)].toArray below meth co H locs 0 0 (MQ below (zq_Q D vwCl (zT K) (P_MR_findPivot K M o gA ra F fr rows col) A) [.ref o, .int (iI fr), .int (iI rows), .int (iI col)].toArray s 0 0 A) (F0 m 3 ls []) := by
    intro n
    induction n with
    | zero =>
      intro i H locs ls hi hz hms hw hl
      exact absurd hms (Nat.not_lt_zero _)
    | succ n ih_hL =>
      intro i H locs ls hi hz hms hw hl
      refine lv_iload hx hb d_MR_findPivot_3 (lv_at hl 4 rfl) ?_
      refine lv_iload_n hx hb d_MR_findPivot_5 rfl (lv_at hl 2 rfl) ?_
      refine zq_icmp_ge (tgt := 30) hx hb d_MR_findPivot_6 (by decide) ⟨by omega, by omega⟩ ⟨by omega, by omega⟩ (fun hc1 => ?_) (fun hc1 => ?_)
      · refine lv_iconst (v := iI (-1)) hx hb d_MR_findPivot_30 rfl ?_
        exact zq_iret hx hb hr hlocks hZ hw ⟨_, rfl, Or.inr ⟨rfl, fun k h1 h2 => hz k h1 (by omega)⟩, rfl⟩ d_MR_findPivot_31
      · have h_r : M (ra i) = some (cI (K 0) 33 (F i)) := hG1.2.1 i (by omega) (by omega)
        refine lv_aload_n hx hb d_MR_findPivot_9 rfl (lv_at hl 0 rfl) ?_
        refine zq_get hx hb hts i_MR hown hK hw h_o rfl 0 (by decide) (hts _ tw_176) rfl d_MR_findPivot_10 ?_
        refine lv_iload hx hb d_MR_findPivot_13 (lv_at hl 4 rfl) ?_
        refine zq_aald hx hb hK hw 4 rfl h_g rfl (by omega) (by omega) (by decide) rfl d_MR_findPivot_15 ?_
        refine lv_iload_n hx hb d_MR_findPivot_16 rfl (lv_at hl 3 rfl) ?_
        refine zq_iald hx hb hK hw 0 h_r rfl (by omega) (by omega) (by decide) d_MR_findPivot_17 ?_
        have hRi := hR i col
        refine zq_if_eq (tgt := 24) hx hb d_MR_findPivot_18 (by decide) ⟨by omega, by omega⟩ (fun hc2 => ?_) (fun hc2 => ?_)
        · refine lv_iinc (v := iI (i + 1)) (lv' := [(4, .int (iI (i + 1))), (0, .ref o), (1, .int (iI fr)), (2, .int (iI rows)), (3, .int (iI col))]) hx hb d_MR_findPivot_24 hl (k := 4) rfl (iI_add _ _) (by decide) rfl (fun ls hl => ?_)
          refine lv_goto (tgt := 3) hx hb d_MR_findPivot_27 (by decide) ?_
          exact ih_hL (i + 1) _ _ _ (by omega) (fun k h1 h2 => by by_cases q : k = i; rw [q]; assumption; exact hz k h1 (by omega)) (by omega) hw (lv_sub hl [1, 2, 3, 4, 0] rfl)
        · refine lv_iload hx hb d_MR_findPivot_21 (lv_at hl 4 rfl) ?_
          exact zq_iret hx hb hr hlocks hZ hw ⟨_, rfl, Or.inl ⟨by omega, by omega, by assumption, hz⟩, rfl⟩ d_MR_findPivot_23
  refine lv_iload_n hx hb d_MR_findPivot_0 rfl (lv_at hl 1 rfl) ?_
  refine lv_istore (lv' := [(4, .int (iI fr)), (0, .ref o), (1, .int (iI fr)), (2, .int (iI rows)), (3, .int (iI col))]) hx hb d_MR_findPivot_1 hl (by decide) rfl (fun ls hl => ?_)
  exact hL _ fr _ _ _ (by omega) (fun k h1 h2 => by omega) (Nat.lt_succ_self _) hw (lv_sub hl [1, 2, 3, 4, 0] rfl)
abbrev P_MR_exchangeRows (K : Nat → ClassId) (M : zq_M) (o : Nat) (gA : Nat) (ra : Int → Nat) (F : Int → Int → Int) (x : Int) (y : Int) : Option Value → zq_M → Prop := fun v M' => v = none ∧ zG K M' gA (zswp ra x y) (zswp F x y) ∧ ∀ q, q ≠ gA → M' q = M q
set_option maxHeartbeats 4000000 in
set_option maxRecDepth 100000 in
theorem c_MR_exchangeRows (l : Launch) (D : va_G) (K : Nat → ClassId) (M : zq_M) (o : Nat) (gA : Nat) (ra : Int → Nat) (F : Int → Int → Int) (x : Int) (y : Int) (h_o : M o = some (.inr (7, [.ref gA]))) (hG1 : zG K M gA ra F) (hR : ∀ i j, 0 ≤ F i j ∧ F i j ≤ 96) (hx0 : 0 ≤ x ∧ x < 12) (hy0 : 0 ≤ y ∧ y < 12) : zq_Met l y_MR_exchangeRows (.code y_MR_exchangeRows b_MR_exchangeRows 4 none :: lw_gd) { frames := 0, cells := 0, slots := 0, locals := 0 } D vwCl (zT K) [.ref o, .int (iI x), .int (iI y)] M (P_MR_exchangeRows K M o gA ra F x y) 0 0 := by
  refine zq_start (cc := b_MR_exchangeRows) (maxL := 4) (ret := none) (by decide) rfl (Nat.le_of_ble_eq_true rfl) ?_
  intro p e s m below meth co A ls hx hb hr hml hts hown hnm hlocks hA hZ hw hl
  have hts : ∀ w ∈ lw_gd, w.before [.ref o, .int (iI x), .int (iI y)].toArray s = true := fun w h => hts w (List.mem_cons_of_mem _ h)
  have hown : s.vm.findClass R_MR = some m.cls := hown
  have hK := hZ.1
  have hl : lv_has ls 4 [(0, .ref o), (1, .int (iI x)), (2, .int (iI y))] := hl
  have hfr : ∀ q, q ≠ gA → M q = M q := fun q _ => rfl
  have h_g := hG1.1
  have h_x : M (ra x) = some (cI (K 0) 33 (F x)) := hG1.2.1 x (by omega) (by omega)
  have h_y : M (ra y) = some (cI (K 0) 33 (F y)) := hG1.2.1 y (by omega) (by omega)
  refine lv_aload_n hx hb d_MR_exchangeRows_0 rfl (lv_at hl 0 rfl) ?_
  refine zq_get hx hb hts i_MR hown hK hw h_o rfl 0 (by decide) (hts _ tw_176) rfl d_MR_exchangeRows_1 ?_
  refine lv_iload_n hx hb d_MR_exchangeRows_4 rfl (lv_at hl 1 rfl) ?_
  refine zq_aald hx hb hK hw 4 rfl h_g rfl (by omega) (by omega) (by decide) rfl d_MR_exchangeRows_5 ?_
  refine lv_astore_n (lv' := [(3, .ref (ra x)), (0, .ref o), (1, .int (iI x)), (2, .int (iI y))]) hx hb d_MR_exchangeRows_6 rfl hl (by decide) rfl (fun ls hl => ?_)
  refine lv_aload_n hx hb d_MR_exchangeRows_7 rfl (lv_at hl 1 rfl) ?_
  refine zq_get hx hb hts i_MR hown hK hw h_o rfl 0 (by decide) (hts _ tw_176) rfl d_MR_exchangeRows_8 ?_
  refine lv_iload_n hx hb d_MR_exchangeRows_11 rfl (lv_at hl 2 rfl) ?_
  refine lv_aload_n hx hb d_MR_exchangeRows_12 rfl (lv_at hl 1 rfl) ?_
  refine zq_get hx hb hts i_MR hown hK hw h_o rfl 0 (by decide) (hts _ tw_176) rfl d_MR_exchangeRows_13 ?_
  refine lv_iload_n hx hb d_MR_exchangeRows_16 rfl (lv_at hl 3 rfl) ?_
  refine zq_aald hx hb hK hw 4 rfl h_g rfl (by omega) (by omega) (by decide) rfl d_MR_exchangeRows_17 ?_
  refine zq_aastA hx hb hZ hw 4 0 h_g rfl h_y rfl (by omega) (by omega) (by decide) d_MR_exchangeRows_18 (fun M1 H locs hs ho hw => ?_)
  have h_o : M1 o = some (.inr (7, [.ref gA])) := (ho _ (zq_ne h_o h_g (by simp))).trans h_o
  have h_x : M1 (ra x) = some (cI (K 0) 33 (F x)) := (ho _ (zq_ne h_x h_g (by simp))).trans h_x
  have h_y : M1 (ra y) = some (cI (K 0) 33 (F y)) := (ho _ (zq_ne h_y h_g (by simp))).trans h_y
  have h_g : M1 gA = some (cQ (K 4) 12 (zu (fun i => some (ra i)) x (some (ra y)))) := hs
  have hfr : ∀ q, q ≠ gA → M1 q = M q := fun q g0 => (ho q g0).trans (hfr q g0)
  refine lv_aload_n hx hb d_MR_exchangeRows_19 rfl (lv_at hl 1 rfl) ?_
  refine zq_get hx hb hts i_MR hown hK hw h_o rfl 0 (by decide) (hts _ tw_176) rfl d_MR_exchangeRows_20 ?_
  refine lv_iload_n hx hb d_MR_exchangeRows_23 rfl (lv_at hl 3 rfl) ?_
  refine lv_aload_n hx hb d_MR_exchangeRows_24 rfl (lv_at hl 0 rfl) ?_
  refine zq_aastA hx hb hZ hw 4 0 h_g rfl h_x rfl (by omega) (by omega) (by decide) d_MR_exchangeRows_25 (fun M2 H locs hs ho hw => ?_)
  have h_o : M2 o = some (.inr (7, [.ref gA])) := (ho _ (zq_ne h_o h_g (by simp))).trans h_o
  have h_x : M2 (ra x) = some (cI (K 0) 33 (F x)) := (ho _ (zq_ne h_x h_g (by simp))).trans h_x
  have h_y : M2 (ra y) = some (cI (K 0) 33 (F y)) := (ho _ (zq_ne h_y h_g (by simp))).trans h_y
  have h_g : M2 gA = some (cQ (K 4) 12 (zu (zu (fun i => some (ra i)) x (some (ra y))) y (some (ra x)))) := hs
  have hfr : ∀ q, q ≠ gA → M2 q = M q := fun q g0 => (ho q g0).trans (hfr q g0)
  exact zq_vret hx hb hr hlocks hZ hw ⟨rfl, zG_swp hG1 hx0 hy0 (by rw [h_g, zswp_some]) hfr, hfr⟩ d_MR_exchangeRows_26
