abbrev P_MR_findPivot (K : Nat → ClassId) (M : zq_M) (o : Nat) (gA : Nat) (ra : Int → Nat) (F : Int → Int → Int) (fr : Int) (rows : Int) (col : Int) : Option Value → zq_M → Prop := fun v M' => ∃ r, v = some (.int (iI r)) ∧ zFp F fr rows col r ∧ M' = M
set_option maxHeartbeats 4000000 in
set_option maxRecDepth 100000 in
theorem c_MR_findPivot (l : Launch) (D : va_G) (K : Nat → ClassId) (M : zq_M) (o : Nat) (gA : Nat) (ra : Int → Nat) (F : Int → Int → Int) (fr : Int) (rows : Int) (col : Int) (h_o : M o = some (.inr (7, [.ref gA]))) (hG1 : zG K M gA ra F) (hR : ∀ i j, 0 ≤ F i j ∧ F i j ≤ 96) (hk : 0 ≤ fr ∧ fr ≤ rows ∧ rows ≤ 12 ∧ 0 ≤ col ∧ col < 33) : zq_Met l y_MR_findPivot (.code y_MR_findPivot b_MR_findPivot 5 (some .int) :: lw_gd) { frames := 0, cells := 0, slots := 0, locals := 0 } D vwCl (zT K) [.ref o, .int (iI fr), .int (iI rows), .int (iI col)] M (P_MR_findPivot K M o gA ra F fr rows col) 0 0 := by
  refine zq_start (cc := b_MR_findPivot) (maxL := 5) (ret := (some .int)) (by decide) rfl (Nat.le_of_ble_eq_true rfl) ?_
  intro p e s m below meth co A ls hx hb hr hml hts hown hnm hlocks hA hZ hw hl
  have hts : ∀ w ∈ lw_gd, w.before [.ref o, .int (iI fr), .int (iI rows), .int (iI col)].toArray s = true := fun w h => hts w (List.mem_cons_of_mem _ h)
  have hown : s.vm.findClass R_MR = some m.cls := hown
  have hK := hZ.1
  have hl : lv_has ls 5 [(0, .ref o), (1, .int (iI fr)), (2, .int (iI rows)), (3, .int (iI col))] := hl
  have h_g := hG1.1
  have hL : ∀ (n : Nat) (i : Int) (H : Heap) (locs : List Loc) (ls : Array Slot), (fr ≤ i ∧ i ≤ rows) → (∀ k, fr ≤ k → k < i → F k col = 0) → (rows - i).toNat < n → zq_W D vwCl A s.heap M H locs → lv_has ls 5 [(0, .ref o), (1, .int (iI fr)), (2, .int (iI rows)), (3, .int (iI col)), (4, .int (iI i))] → W p l e ({ frames := 0, cells := 0, slots := 0, locals := 0 } : Room) s m [.ref o, .int (iI fr), .int (iI rows), .int (iI col)].toArray below meth co H locs 0 0 (MQ below (zq_Q D vwCl (zT K) (P_MR_findPivot K M o gA ra F fr rows col) A) [.ref o, .int (iI fr), .int (iI rows), .int (iI col)].toArray s 0 0 A) (F0 m 3 ls []) := by
    intro n
    induction n with
    | zero =>
      intro i H locs ls hi hz hms hw hl
      exact absurd hms (Nat.not_lt_zero _)
    | succ n ih_hL =>
      intro i H locs ls hi hz hms hw hl
      refine lv_iload hx hb d_MR_findPivot_3 (lv_at hl 4 rfl) ?_
      refine lv_iload_n hx hb d_MR_findPivot_5 rfl (lv_at hl 2 rfl) ?_
      refine zq_icmp_ge (tgt := 30) hx hb d_MR_findPivot_6 (by decide) ⟨by omega, by omega⟩ ⟨by omega, by omega⟩ (fun hc1 => ?_) (fun hc1 => ?_)
      · refine lv_iconst (v := iI (-1)) hx hb d_MR_findPivot_30 rfl ?_
        exact zq_iret hx hb hr hlocks hZ hw ⟨_, rfl, Or.inr ⟨rfl, fun k h1 h2 => hz k h1 (by omega)⟩, rfl⟩ d_MR_findPivot_31
      · have h_r : M (ra i) = some (cI (K 0) 33 (F i)) := hG1.2.1 i (by omega) (by omega)
        refine lv_aload_n hx hb d_MR_findPivot_9 rfl (lv_at hl 0 rfl) ?_
        refine zq_get hx hb hts i_MR hown hK hw h_o rfl 0 (by decide) (hts _ tw_176) rfl d_MR_findPivot_10 ?_
        refine lv_iload hx hb d_MR_findPivot_13 (lv_at hl 4 rfl) ?_
        refine zq_aald hx hb hK hw 4 rfl h_g rfl (by omega) (by omega) (by decide) rfl d_MR_findPivot_15 ?_
        refine lv_iload_n hx hb d_MR_findPivot_16 rfl (lv_at hl 3 rfl) ?_
        refine zq_iald hx hb hK hw 0 h_r rfl (by omega) (by omega) (by decide) d_MR_findPivot_17 ?_
        have hRi := hR i col
        refine zq_if_eq (tgt := 24) hx hb d_MR_findPivot_18 (by decide) ⟨by omega, by omega⟩ (fun hc2 => ?_) (fun hc2 => ?_)
        · refine lv_iinc (v := iI (i + 1)) (lv' := [(4, .int (iI (i + 1))), (0, .ref o), (1, .int (iI fr)), (2, .int (iI rows)), (3, .int (iI col))]) hx hb d_MR_findPivot_24 hl (k := 4) rfl (iI_add _ _) (by decide) rfl (fun ls hl => ?_)
          refine lv_goto (tgt := 3) hx hb d_MR_findPivot_27 (by decide) ?_
          exact ih_hL (i + 1) _ _ _ (by omega) (fun k h1 h2 => by by_cases q : k = i; rw [q]; assumption; exact hz k h1 (by omega)) (by omega) hw (lv_sub hl [1, 2, 3, 4, 0] rfl)
        · refine lv_iload hx hb d_MR_findPivot_21 (lv_at hl 4 rfl) ?_
          exact zq_iret hx hb hr hlocks hZ hw ⟨_, rfl, Or.inl ⟨by omega, by omega, by assumption, hz⟩, rfl⟩ d_MR_findPivot_23
  refine lv_iload_n hx hb d_MR_findPivot_0 rfl (lv_at hl 1 rfl) ?_
  refine lv_istore (lv' := [(4, .int (iI fr)), (0, .ref o), (1, .int (iI fr)), (2, .int (iI rows)), (3, .int (iI col))]) hx hb d_MR_findPivot_1 hl (by decide) rfl (fun ls hl => ?_)
  exact hL _ fr _ _ _ (by omega) (fun k h1 h2 => by omega) (Nat.lt_succ_self _) hw (lv_sub hl [1, 2, 3, 4, 0] rfl)
abbrev P_MR_exchangeRows (K : Nat → ClassId) (M : zq_M) (o : Nat) (gA : Nat) (ra : Int → Nat) (F : Int → Int → Int) (x : Int) (y : Int) : Option Value → zq_M → Prop := fun v M' => v = none ∧ zG K M' gA (zswp ra x y) (zswp F x y) ∧ ∀ q, q ≠ gA → M' q = M q
set_option maxHeartbeats 4000000 in
set_option maxRecDepth 100000 in
theorem c_MR_exchangeRows (l : Launch) (D : va_G) (K : Nat → ClassId) (M : zq_M) (o : Nat) (gA : Nat) (ra : Int → Nat) (F : Int → Int → Int) (x : Int) (y : Int) (h_o : M o = some (.inr (7, [.ref gA]))) (hG1 : zG K M gA ra F) (hR : ∀ i j, 0 ≤ F i j ∧ F i j ≤ 96) (hx0 : 0 ≤ x ∧ x < 12) (hy0 : 0 ≤ y ∧ y < 12) : zq_Met l y_MR_exchangeRows (.code y_MR_exchangeRows b_MR_exchangeRows 4 none :: lw_gd) { frames := 0, cells := 0, slots := 0, locals := 0 } D vwCl (zT K) [.ref o, .int (iI x), .int (iI y)] M (P_MR_exchangeRows K M o gA ra F x y) 0 0 := by
  refine zq_start (cc := b_MR_exchangeRows) (maxL := 4) (ret := none) (by decide) rfl (Nat.le_of_ble_eq_true rfl) ?_
  intro p e s m below meth co A ls hx hb hr hml hts hown hnm hlocks hA hZ hw hl
  have hts : ∀ w ∈ lw_gd, w.before [.ref o, .int (iI x), .int (iI y)].toArray s = true := fun w h => hts w (List.mem_cons_of_mem _ h)
  have hown : s.vm.findClass R_MR = some m.cls := hown
  have hK := hZ.1
  have hl : lv_has ls 4 [(0, .ref o), (1, .int (iI x)), (2, .int (iI y))] := hl
  have hfr : ∀ q, q ≠ gA → M q = M q := fun q _ => rfl
  have h_g := hG1.1
  have h_x : M (ra x) = some (cI (K 0) 33 (F x)) := hG1.2.1 x (by omega) (by omega)
  have h_y : M (ra y) = some (cI (K 0) 33 (F y)) := hG1.2.1 y (by omega) (by omega)
  refine lv_aload_n hx hb d_MR_exchangeRows_0 rfl (lv_at hl 0 rfl) ?_
  refine zq_get hx hb hts i_MR hown hK hw h_o rfl 0 (by decide) (hts _ tw_176) rfl d_MR_exchangeRows_1 ?_
  refine lv_iload_n hx hb d_MR_exchangeRows_4 rfl (lv_at hl 1 rfl) ?_
  refine zq_aald hx hb hK hw 4 rfl h_g rfl (by omega) (by omega) (by decide) rfl d_MR_exchangeRows_5 ?_
  refine lv_astore_n (lv' := [(3, .ref (ra x)), (0, .ref o), (1, .int (iI x)), (2, .int (iI y))]) hx hb d_MR_exchangeRows_6 rfl hl (by decide) rfl (fun ls hl => ?_)
  refine lv_aload_n hx hb d_MR_exchangeRows_7 rfl (lv_at hl 1 rfl) ?_
  refine zq_get hx hb hts i_MR hown hK hw h_o rfl 0 (by decide) (hts _ tw_176) rfl d_MR_exchangeRows_8 ?_
  refine lv_iload_n hx hb d_MR_exchangeRows_11 rfl (lv_at hl 2 rfl) ?_
  refine lv_aload_n hx hb d_MR_exchangeRows_12 rfl (lv_at hl 1 rfl) ?_
  refine zq_get hx hb hts i_MR hown hK hw h_o rfl 0 (by decide) (hts _ tw_176) rfl d_MR_exchangeRows_13 ?_
  refine lv_iload_n hx hb d_MR_exchangeRows_16 rfl (lv_at hl 3 rfl) ?_
  refine zq_aald hx hb hK hw 4 rfl h_g rfl (by omega) (by omega) (by decide) rfl d_MR_exchangeRows_17 ?_
  refine zq_aastA hx hb hZ hw 4 0 h_g rfl h_y rfl (by omega) (by omega) (by decide) d_MR_exchangeRows_18 (fun M1 H locs hs ho hw => ?_)
  have h_o : M1 o = some (.inr (7, [.ref gA])) := (ho _ (zq_ne h_o h_g (by simp))).trans h_o
  have h_x : M1 (ra x) = some (cI (K 0) 33 (F x)) := (ho _ (zq_ne h_x h_g (by simp))).trans h_x
  have h_y : M1 (ra y) = some (cI (K 0) 33 (F y)) := (ho _ (zq_ne h_y h_g (by simp))).trans h_y
  have h_g : M1 gA = some (cQ (K 4) 12 (zu (fun i => some (ra i)) x (some (ra y)))) := hs
  have hfr : ∀ q, q ≠ gA → M1 q = M q := fun q g0 => (ho q g0).trans (hfr q g0)
  refine lv_aload_n hx hb d_MR_exchangeRows_19 rfl (lv_at hl 1 rfl) ?_
  refine zq_get hx hb hts i_MR hown hK hw h_o rfl 0 (by decide) (hts _ tw_176) rfl d_MR_exchangeRows_20 ?_
  refine lv_iload_n hx hb d_MR_exchangeRows_23 rfl (lv_at hl 3 rfl) ?_
  refine lv_aload_n hx hb d_MR_exchangeRows_24 rfl (lv_at hl 0 rfl) ?_
  refine zq_aastA hx hb hZ hw 4 0 h_g rfl h_x rfl (by omega) (by omega) (by decide) d_MR_exchangeRows_25 (fun M2 H locs hs ho hw => ?_)
  have h_o : M2 o = some (.inr (7, [.ref gA])) := (ho _ (zq_ne h_o h_g (by simp))).trans h_o
  have h_x : M2 (ra x) = some (cI (K 0) 33 (F x)) := (ho _ (zq_ne h_x h_g (by simp))).trans h_x
  have h_y : M2 (ra y) = some (cI (K 0) 33 (F y)) := (ho _ (zq_ne h_y h_g (by simp))).trans h_y
  have h_g : M2 gA = some (cQ (K 4) 12 (zu (zu (fun i => some (ra i)) x (some (ra y))) y (some (ra x)))) := hs
  have hfr : ∀ q, q ≠ gA → M2 q = M q := fun q g0 => (ho q g0).trans (hfr q g0)
  exact zq_vret hx hb hr hlocks hZ hw ⟨rfl, zG_swp hG1 hx0 hy0 (by rw [h_g, zswp_some]) hfr, hfr⟩ d_MR_exchangeRows_26
abbrev P_MR_clearBelow (K : Nat → ClassId) (M : zq_M) (o : Nat) (gA : Nat) (ra : Int → Nat) (F : Int → Int → Int) (st0 : Int) (rows : Int) (col : Int) (pp : Int) : Option Value → zq_M → Prop := fun v M' => v = none ∧ zG K M' gA ra (zclr F st0 rows col pp) ∧ ∀ q, (∀ i, 0 ≤ i → i < 12 → q ≠ ra i) → M' q = M q
set_option maxHeartbeats 4000000 in
set_option maxRecDepth 100000 in
theorem c_MR_clearBelow (l : Launch) (D : va_G) (K : Nat → ClassId) (M : zq_M) (o : Nat) (gA : Nat) (ra : Int → Nat) (F : Int → Int → Int) (st0 : Int) (rows : Int) (col : Int) (pp : Int) (h_o : M o = some (.inr (7, [.ref gA]))) (hG1 : zG K M gA ra F) (hR : ∀ i j, 0 ≤ F i j ∧ F i j ≤ 96) (hk : 0 ≤ st0 ∧ st0 < 12 ∧ 0 ≤ rows ∧ rows ≤ 12 ∧ 0 ≤ col ∧ col < 33) (hpp : 2 ≤ pp ∧ pp ≤ 97) : zq_Met l y_MR_clearBelow (.code y_MR_clearBelow b_MR_clearBelow 10 none :: lw_gd) { frames := 1, cells := 0, slots := 0, locals := 22 } D vwCl (zT K) [.ref o, .int (iI st0), .int (iI rows), .int (iI col), .int (iI pp)] M (P_MR_clearBelow K M o gA ra F st0 rows col pp) 0 0 := by
  refine zq_start (cc := b_MR_clearBelow) (maxL := 10) (ret := none) (by decide) rfl (Nat.le_of_ble_eq_true rfl) ?_
  intro p e s m below meth co A ls hx hb hr hml hts hown hnm hlocks hA hZ hw hl
  have hts : ∀ w ∈ lw_gd, w.before [.ref o, .int (iI st0), .int (iI rows), .int (iI col), .int (iI pp)].toArray s = true := fun w h => hts w (List.mem_cons_of_mem _ h)
  have hown : s.vm.findClass R_MR = some m.cls := hown
  have hK := hZ.1
  have hl : lv_has ls 10 [(0, .ref o), (1, .int (iI st0)), (2, .int (iI rows)), (3, .int (iI col)), (4, .int (iI pp))] := hl
  have hfr : ∀ q, (∀ i, 0 ≤ i → i < 12 → q ≠ ra i) → M q = M q := fun q _ => rfl
  have h_g := hG1.1
  have hL : ∀ (n : Nat) (i : Int) (F1 : Int → Int → Int) (Mz : zq_M) (H : Heap) (locs : List Loc) (ls : Array Slot), (st0 < i ∧ (i ≤ rows ∨ i = st0 + 1)) → (zG K Mz gA ra F1) → (∀ k, F1 k = if st0 < k ∧ k < i then zcr F st0 col pp k else F k) → (rows - i).toNat < n → (∀ q, (∀ i, 0 ≤ i → i < 12 → q ≠ ra i) → Mz q = M q) → Mz o = some (.inr (7, [.ref gA])) → Mz gA = some (cQ (K 4) 12 (fun i => some (ra i))) → zq_W D vwCl A s.heap Mz H locs → lv_has ls 10 [(0, .ref o), (1, .int (iI st0)), (2, .int (iI rows)), (3, .int (iI col)), (4, .int (iI pp)), (5, .ref (ra st0)), (6, .int (iI i))] → W p l e ({ frames := 1, cells := 0, slots := 0, locals := 22 } : Room) s m [.ref o, .int (iI st0), .int (iI rows), .int (iI col), .int (iI pp)].toArray below meth co H locs 0 0 (MQ below (zq_Q D vwCl (zT K) (P_MR_clearBelow K M o gA ra F st0 rows col pp) A) [.ref o, .int (iI st0), .int (iI rows), .int (iI col), .int (iI pp)].toArray s 0 0 A) (F0 m 13 ls []) := by
    intro n
    induction n with
    | zero =>
      intro i F1 Mz H locs ls hi hF hF1 hms hfr h_o h_g hw hl
      exact absurd hms (Nat.not_lt_zero _)
    | succ n ih_hL =>
      intro i F1 Mz H locs ls hi hF hF1 hms hfr h_o h_g hw hl
      have hI : ∀ (n : Nat) (j : Int) (h : Int → Int) (Mq : zq_M) (H : Heap) (locs : List Loc) (ls : Array Slot), (col ≤ j ∧ j ≤ 33 ∧ i < rows) → (∀ z, h z = if ¬ F i col = 0 ∧ col ≤ z ∧ z < j then (F i z * F st0 col - F st0 z * F i col) % pp else F i z) → (∀ q, q ≠ ra i → Mq q = Mz q) → (33 - j).toNat < n → (∀ q, (∀ i, 0 ≤ i → i < 12 → q ≠ ra i) → Mq q = M q) → Mq o = some (.inr (7, [.ref gA])) → Mq gA = some (cQ (K 4) 12 (fun i => some (ra i))) → Mq (ra st0) = some (cI (K 0) 33 (F st0)) → Mq (ra i) = some (cI (K 0) 33 h) → zq_W D vwCl A s.heap Mq H locs → lv_has ls 10 [(0, .ref o), (1, .int (iI st0)), (2, .int (iI rows)), (3, .int (iI col)), (4, .int (iI pp)), (5, .ref (ra st0)), (6, .int (iI i)), (7, .ref (ra i)), (8, .int (iI (F i col))), (9, .int (iI j))] → W p l e ({ frames := 1, cells := 0, slots := 0, locals := 22 } : Room) s m [.ref o, .int (iI st0), .int (iI rows), .int (iI col), .int (iI pp)].toArray below meth co H locs 0 0 (MQ below (zq_Q D vwCl (zT K) (P_MR_clearBelow K M o gA ra F st0 rows col pp) A) [.ref o, .int (iI st0), .int (iI rows), .int (iI col), .int (iI pp)].toArray s 0 0 A) (F0 m 37 ls []) := by
        intro n
        induction n with
        | zero =>
          intro j h Mq H locs ls hj hh hfb hms hfr h_o h_g h_u h_r hw hl
          exact absurd hms (Nat.not_lt_zero _)
        | succ n ih_hI =>
          intro j h Mq H locs ls hj hh hfb hms hfr h_o h_g h_u h_r hw hl
          refine lv_iload hx hb d_MR_clearBelow_37 (lv_at hl 8 rfl) ?_
          refine zq_if_eq (tgt := 84) hx hb d_MR_clearBelow_39 (by decide) (by have := hR i col; exact ⟨by omega, by omega⟩) (fun hc1 => ?_) (fun hc1 => ?_)
          · have hrow : h = zcr F st0 col pp i := zcr_end hh (by omega) (by omega)
            refine lv_iinc (v := iI (i + 1)) (lv' := [(6, .int (iI (i + 1))), (0, .ref o), (1, .int (iI st0)), (2, .int (iI rows)), (3, .int (iI col)), (4, .int (iI pp)), (5, .ref (ra st0)), (7, .ref (ra i)), (8, .int (iI (F i col))), (9, .int (iI j))]) hx hb d_MR_clearBelow_84 hl (k := 6) rfl (iI_add _ _) (by decide) rfl (fun ls hl => ?_)
            refine lv_goto (tgt := 13) hx hb d_MR_clearBelow_87 (by decide) ?_
            exact ih_hL (i + 1) (zu F1 i h) Mq _ _ _ (by omega) (zG_one hF h_r hfb (by omega) (by omega)) (zclr_step hF1 (by omega) hrow) (by omega) hfr h_o h_g hw (lv_sub hl [1, 2, 3, 4, 5, 6, 0] rfl)
          · refine lv_iload hx hb d_MR_clearBelow_42 (lv_at hl 9 rfl) ?_
            refine lv_bipush (v := iI 33) hx hb d_MR_clearBelow_44 (by decide) ?_
            refine zq_icmp_ge (tgt := 84) hx hb d_MR_clearBelow_46 (by decide) ⟨by omega, by omega⟩ (by decide) (fun hc2 => ?_) (fun hc2 => ?_)
            · have hrow : h = zcr F st0 col pp i := zcr_end hh (by omega) (by omega)
              refine lv_iinc (v := iI (i + 1)) (lv' := [(6, .int (iI (i + 1))), (0, .ref o), (1, .int (iI st0)), (2, .int (iI rows)), (3, .int (iI col)), (4, .int (iI pp)), (5, .ref (ra st0)), (7, .ref (ra i)), (8, .int (iI (F i col))), (9, .int (iI j))]) hx hb d_MR_clearBelow_84 hl (k := 6) rfl (iI_add _ _) (by decide) rfl (fun ls hl => ?_)
              refine lv_goto (tgt := 13) hx hb d_MR_clearBelow_87 (by decide) ?_
              exact ih_hL (i + 1) (zu F1 i h) Mq _ _ _ (by omega) (zG_one hF h_r hfb (by omega) (by omega)) (zclr_step hF1 (by omega) hrow) (by omega) hfr h_o h_g hw (lv_sub hl [1, 2, 3, 4, 5, 6, 0] rfl)
            · have hhj : F i j = h j := by rw [hh, if_neg (by omega)]
              refine lv_aload hx hb d_MR_clearBelow_49 (lv_at hl 7 rfl) ?_
              refine lv_iload hx hb d_MR_clearBelow_51 (lv_at hl 9 rfl) ?_
              refine lv_aload hx hb d_MR_clearBelow_53 (lv_at hl 7 rfl) ?_
              refine lv_iload hx hb d_MR_clearBelow_55 (lv_at hl 9 rfl) ?_
              refine zq_iald hx hb hK hw 0 h_r rfl (by omega) (by omega) (by decide) d_MR_clearBelow_57 ?_
              refine lv_aload hx hb d_MR_clearBelow_58 (lv_at hl 5 rfl) ?_
              refine lv_iload_n hx hb d_MR_clearBelow_60 rfl (lv_at hl 3 rfl) ?_
              refine zq_iald hx hb hK hw 0 h_u rfl (by omega) (by omega) (by decide) d_MR_clearBelow_61 ?_
              refine zq_imul hx hb d_MR_clearBelow_62 ?_
              refine lv_aload hx hb d_MR_clearBelow_63 (lv_at hl 5 rfl) ?_
              refine lv_iload hx hb d_MR_clearBelow_65 (lv_at hl 9 rfl) ?_
              refine zq_iald hx hb hK hw 0 h_u rfl (by omega) (by omega) (by decide) d_MR_clearBelow_67 ?_
              refine lv_iload hx hb d_MR_clearBelow_68 (lv_at hl 8 rfl) ?_
              refine zq_imul hx hb d_MR_clearBelow_70 ?_
              refine zq_isub hx hb d_MR_clearBelow_71 ?_
              refine lv_iload hx hb d_MR_clearBelow_72 (lv_at hl 4 rfl) ?_
              refine zq_callS (b := 0) (C := "") (As := [.int (iI (((h j) * (F st0 col)) - ((F st0 j) * (F i col)))), .int (iI pp)]) (rest := [.int (iI j), .ref (ra i)]) ⟨hx, hb, hml, hown, hts⟩ (c_JM_floorMod l D K Mq (((h j) * (F st0 col)) - ((F st0 j) * (F i col))) pp (by have := zmul_in (hhj ▸ hR i j) (hR st0 col) (hR st0 j) (hR i col); exact ⟨by omega, by omega⟩) ⟨by omega, by omega⟩) (va_cwS 2 hts (zg_T tw_529 tw_530 tw_11 tw_531) rfl rfl rfl (by decide +kernel) ⟨Nat.le_of_ble_eq_true rfl, Nat.le_of_ble_eq_true rfl⟩) hZ hw hA rfl rfl hl.1 (Nat.le_of_ble_eq_true rfl) d_MR_clearBelow_74 ⟨Nat.le_of_ble_eq_true rfl, Nat.le_of_ble_eq_true rfl⟩ (fun v M3 H locs hp hw => ?_)
              obtain ⟨rfl, hMe⟩ := hp
              rw [hMe] at hw
              refine W.eq (g2 := F0 m 77 ls [.int (iI ((((h j) * (F st0 col)) - ((F st0 j) * (F i col))) % pp)), .int (iI j), .ref (ra i)]) rfl ?_
              refine zq_iast hx hb hK hw 0 h_r rfl (by omega) (by omega) (by decide) d_MR_clearBelow_77 (fun M4 H locs hs ho hw => ?_)
              have h_o : M4 o = some (.inr (7, [.ref gA])) := (ho _ (zq_ne h_o h_r (by simp))).trans h_o
              have h_g : M4 gA = some (cQ (K 4) 12 (fun i => some (ra i))) := (ho _ (zq_ne h_g h_r (by simp))).trans h_g
              have h_u : M4 (ra st0) = some (cI (K 0) 33 (F st0)) := (ho _ (fun z => by have := hG1.2.2 st0 i (by omega) (by omega) (by omega) (by omega) z; omega)).trans h_u
              have h_r : M4 (ra i) = some (cI (K 0) 33 (zu h j ((((h j) * (F st0 col)) - ((F st0 j) * (F i col))) % pp))) := hs
              have hfr : ∀ q, (∀ i, 0 ≤ i → i < 12 → q ≠ ra i) → M4 q = M q := fun q g0 => (ho q (g0 i (by omega) (by omega))).trans (hfr q g0)
              refine lv_iinc (v := iI (j + 1)) (lv' := [(9, .int (iI (j + 1))), (0, .ref o), (1, .int (iI st0)), (2, .int (iI rows)), (3, .int (iI col)), (4, .int (iI pp)), (5, .ref (ra st0)), (6, .int (iI i)), (7, .ref (ra i)), (8, .int (iI (F i col)))]) hx hb d_MR_clearBelow_78 hl (k := 9) rfl (iI_add _ _) (by decide) rfl (fun ls hl => ?_)
              refine lv_goto (tgt := 37) hx hb d_MR_clearBelow_81 (by decide) ?_
              exact ih_hI (j + 1) (zu h j ((((h j) * (F st0 col)) - ((F st0 j) * (F i col))) % pp)) M4 _ _ _ (by omega) (zcr_step hh (by omega) (by assumption)) (fun q g0 => (ho q g0).trans (hfb q g0)) (by omega) hfr h_o h_g h_u h_r hw (lv_sub hl [1, 2, 3, 4, 5, 6, 7, 8, 9, 0] rfl)
      refine lv_iload hx hb d_MR_clearBelow_13 (lv_at hl 6 rfl) ?_
      refine lv_iload_n hx hb d_MR_clearBelow_15 rfl (lv_at hl 2 rfl) ?_
      refine zq_icmp_ge (tgt := 90) hx hb d_MR_clearBelow_16 (by decide) ⟨by omega, by omega⟩ ⟨by omega, by omega⟩ (fun hc5 => ?_) (fun hc5 => ?_)
      · exact zq_vret hx hb hr hlocks hZ hw ⟨rfl, by rw [show zclr F st0 rows col pp = F1 from funext fun k => by rw [hF1]; unfold zclr; by_cases q : st0 < k ∧ k < rows; rw [if_pos q, if_pos (by omega)]; rw [if_neg q, if_neg (by omega)]]; exact hF, hfr⟩ d_MR_clearBelow_90
      · have h_u : Mz (ra st0) = some (cI (K 0) 33 (F st0)) := by have h9 := hF.2.1 st0 (by omega) (by omega); rw [hF1, if_neg (by omega)] at h9; exact h9
        have h_r : Mz (ra i) = some (cI (K 0) 33 (F i)) := by have h9 := hF.2.1 i (by omega) (by omega); rw [hF1, if_neg (by omega)] at h9; exact h9
        refine lv_aload_n hx hb d_MR_clearBelow_19 rfl (lv_at hl 0 rfl) ?_
        refine zq_get hx hb hts i_MR hown hK hw h_o rfl 0 (by decide) (hts _ tw_176) rfl d_MR_clearBelow_20 ?_
        refine lv_iload hx hb d_MR_clearBelow_23 (lv_at hl 6 rfl) ?_
        refine zq_aald hx hb hK hw 4 rfl h_g rfl (by omega) (by omega) (by decide) rfl d_MR_clearBelow_25 ?_
        refine lv_astore (lv' := [(7, .ref (ra i)), (0, .ref o), (1, .int (iI st0)), (2, .int (iI rows)), (3, .int (iI col)), (4, .int (iI pp)), (5, .ref (ra st0)), (6, .int (iI i))]) hx hb d_MR_clearBelow_26 hl (by decide) rfl (fun ls hl => ?_)
        refine lv_aload hx hb d_MR_clearBelow_28 (lv_at hl 0 rfl) ?_
        refine lv_iload_n hx hb d_MR_clearBelow_30 rfl (lv_at hl 4 rfl) ?_
        refine zq_iald hx hb hK hw 0 h_r rfl (by omega) (by omega) (by decide) d_MR_clearBelow_31 ?_
        refine lv_istore (lv' := [(8, .int (iI (F i col))), (7, .ref (ra i)), (0, .ref o), (1, .int (iI st0)), (2, .int (iI rows)), (3, .int (iI col)), (4, .int (iI pp)), (5, .ref (ra st0)), (6, .int (iI i))]) hx hb d_MR_clearBelow_32 hl (by decide) rfl (fun ls hl => ?_)
        refine lv_iload_n hx hb d_MR_clearBelow_34 rfl (lv_at hl 5 rfl) ?_
        refine lv_istore (lv' := [(9, .int (iI col)), (8, .int (iI (F i col))), (7, .ref (ra i)), (0, .ref o), (1, .int (iI st0)), (2, .int (iI rows)), (3, .int (iI col)), (4, .int (iI pp)), (5, .ref (ra st0)), (6, .int (iI i))]) hx hb d_MR_clearBelow_35 hl (by decide) rfl (fun ls hl => ?_)
        exact hI _ col (F i) Mz _ _ _ (by omega) (fun z => by rw [if_neg (by omega)]) (fun q _ => rfl) (Nat.lt_succ_self _) hfr h_o h_g h_u h_r hw (lv_sub hl [3, 4, 5, 6, 7, 8, 9, 2, 1, 0] rfl)
  refine lv_aload_n hx hb d_MR_clearBelow_0 rfl (lv_at hl 0 rfl) ?_
  refine zq_get hx hb hts i_MR hown hK hw h_o rfl 0 (by decide) (hts _ tw_176) rfl d_MR_clearBelow_1 ?_
  refine lv_iload_n hx hb d_MR_clearBelow_4 rfl (lv_at hl 1 rfl) ?_
  refine zq_aald hx hb hK hw 4 rfl h_g rfl (by omega) (by omega) (by decide) rfl d_MR_clearBelow_5 ?_
  refine lv_astore (lv' := [(5, .ref (ra st0)), (0, .ref o), (1, .int (iI st0)), (2, .int (iI rows)), (3, .int (iI col)), (4, .int (iI pp))]) hx hb d_MR_clearBelow_6 hl (by decide) rfl (fun ls hl => ?_)
  refine lv_iload_n hx hb d_MR_clearBelow_8 rfl (lv_at hl 2 rfl) ?_
  refine lv_iconst (v := iI 1) hx hb d_MR_clearBelow_9 rfl ?_
  refine zq_iadd hx hb d_MR_clearBelow_10 ?_
  refine lv_istore (lv' := [(6, .int (iI (st0 + 1))), (5, .ref (ra st0)), (0, .ref o), (1, .int (iI st0)), (2, .int (iI rows)), (3, .int (iI col)), (4, .int (iI pp))]) hx hb d_MR_clearBelow_11 hl (by decide) rfl (fun ls hl => ?_)
  exact hL _ (st0 + 1) F M _ _ _ (by omega) hG1 (fun k => by rw [if_neg (by omega)]) (Nat.lt_succ_self _) hfr h_o h_g hw (lv_sub hl [2, 3, 4, 5, 6, 1, 0] rfl)
