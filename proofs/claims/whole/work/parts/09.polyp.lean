abbrev P_PO_setLinear (K : Nat → ClassId) (M : zq_M) (o : Nat) (b : Nat) (d : Int) (f : Int → Int) (c0 : Int) (s0 : Int) : Option Value → zq_M → Prop := fun v M' => v = none ∧ ∃ d', zD (zu (zu (fun _ => 0) 0 c0) 1 s0) d' ∧ M' o = some (.inr (8, [.ref b, .int (iI d')])) ∧ M' b = some (cJ (K 1) 25 (zu (zu (fun _ => 0) 0 c0) 1 s0)) ∧ ∀ q, q ≠ o → q ≠ b → M' q = M q
set_option maxHeartbeats 4000000 in
set_option maxRecDepth 100000 in
theorem c_PO_setLinear (l : Launch) (D : va_G) (K : Nat → ClassId) (M : zq_M) (o : Nat) (b : Nat) (d : Int) (f : Int → Int) (c0 : Int) (s0 : Int) (h_o : M o = some (.inr (8, [.ref b, .int (iI d)]))) (h_b : M b = some (cJ (K 1) 25 f)) (hU : zU f d) (hc0 : inL c0) (hs0 : inL s0) : zq_Met l y_PO_setLinear (.code y_PO_setLinear b_PO_setLinear 5 none :: lw_gd) { frames := 1, cells := 0, slots := 0, locals := 22 } D vwCl (zT K) [.ref o, .long (iL c0), .long (iL s0)] M (P_PO_setLinear K M o b d f c0 s0) 0 0 := by
  refine zq_start (cc := b_PO_setLinear) (maxL := 5) (ret := none) (by decide) rfl (Nat.le_of_ble_eq_true rfl) ?_
  intro p e s m below meth c A ls hx hb hr hml hts hown hnm hlocks hA hZ hw hl
  have hts : ∀ w ∈ lw_gd, w.before [.ref o, .long (iL c0), .long (iL s0)].toArray s = true := fun w h => hts w (List.mem_cons_of_mem _ h)
  have hown : s.vm.findClass R_PO = some m.cls := hown
  have hK := hZ.1
  have hl : lv_has ls 5 [(0, .ref o), (1, .long (iL c0)), (3, .long (iL s0))] := hl
  have hfr : ∀ q, q ≠ o → q ≠ b → M q = M q := fun q _ _ => rfl
  refine lv_aload_n hx hb d_PO_setLinear_0 rfl (lv_at hl 0 rfl) ?_
  refine zq_callV (As := []) (rest := []) ⟨hx, hb, hml, hown, hts⟩ (c_PO_setZero l D K M o b d f h_o h_b hU) (cwV 0 hts (zg_V tw_133 tw_134 tw_135 tw_8 tw_136) rfl rfl rfl (by decide +kernel) ⟨Nat.le_of_ble_eq_true rfl, Nat.le_of_ble_eq_true rfl⟩) hZ hw hA h_o rfl rfl rfl rfl hl.1 (Nat.le_of_ble_eq_true rfl) d_PO_setLinear_1 ⟨Nat.le_of_ble_eq_true rfl, Nat.le_of_ble_eq_true rfl⟩ (fun v M1 H locs hp hw => ?_)
  obtain ⟨rfl, hs1, hs2, ho⟩ := hp
  have h_o : M1 o = some (.inr (8, [.ref b, .int (iI (-1))])) := hs1
  have h_b : M1 b = some (cJ (K 1) 25 (fun _ => 0)) := hs2
  have hfr : ∀ q, q ≠ o → q ≠ b → M1 q = M q := fun q g0 g1 => (ho q g0 g1).trans (hfr q g0 g1)
  refine W.eq (g2 := F0 m 4 ls []) rfl ?_
  refine lv_aload_n hx hb d_PO_setLinear_4 rfl (lv_at hl 0 rfl) ?_
  refine zq_get hx hb hts i_PO hown hK hw h_o rfl 0 (by decide) (hts _ tw_121) rfl d_PO_setLinear_5 ?_
  refine lv_iconst (v := iI 0) hx hb d_PO_setLinear_8 rfl ?_
  refine lv_lload_n hx hb d_PO_setLinear_9 rfl (lv_at hl 1 rfl) ?_
  refine zq_last hx hb hK hw 1 h_b rfl (by omega) (by omega) (by decide) d_PO_setLinear_10 (fun M2 H locs hs ho hw => ?_)
  have h_o : M2 o = some (.inr (8, [.ref b, .int (iI (-1))])) := (ho _ (zq_ne h_o h_b (by simp))).trans h_o
  have h_b : M2 b = some (cJ (K 1) 25 (zu (fun _ => 0) 0 c0)) := hs
  have hfr : ∀ q, q ≠ o → q ≠ b → M2 q = M q := fun q g0 g1 => (ho q g1).trans (hfr q g0 g1)
  refine lv_aload_n hx hb d_PO_setLinear_11 rfl (lv_at hl 0 rfl) ?_
  refine zq_get hx hb hts i_PO hown hK hw h_o rfl 0 (by decide) (hts _ tw_121) rfl d_PO_setLinear_12 ?_
  refine lv_iconst (v := iI 1) hx hb d_PO_setLinear_15 rfl ?_
  refine lv_lload_n hx hb d_PO_setLinear_16 rfl (lv_at hl 2 rfl) ?_
  refine zq_last hx hb hK hw 1 h_b rfl (by omega) (by omega) (by decide) d_PO_setLinear_17 (fun M3 H locs hs ho hw => ?_)
  have h_o : M3 o = some (.inr (8, [.ref b, .int (iI (-1))])) := (ho _ (zq_ne h_o h_b (by simp))).trans h_o
  have h_b : M3 b = some (cJ (K 1) 25 (zu (zu (fun _ => 0) 0 c0) 1 s0)) := hs
  have hfr : ∀ q, q ≠ o → q ≠ b → M3 q = M q := fun q g0 g1 => (ho q g1).trans (hfr q g0 g1)
  refine lv_aload_n hx hb d_PO_setLinear_18 rfl (lv_at hl 0 rfl) ?_
  refine lv_iconst (v := iI 1) hx hb d_PO_setLinear_19 rfl ?_
  refine zq_callV (As := [.int (iI 1)]) (rest := []) ⟨hx, hb, hml, hown, hts⟩ (c_PO_lowerDegree l D K M3 o b (-1) (zu (zu (fun _ => 0) 0 c0) 1 s0) 1 h_o h_b (by decide) (fun j hj => zlin_out (by omega)) (fun j hj => zlin_neg hj) (fun j => zlin_in hc0 hs0 j)) (cwV 1 hts (zg_V tw_137 tw_139 ts_0 tw_8 tw_140) rfl rfl rfl (by decide +kernel) ⟨Nat.le_of_ble_eq_true rfl, Nat.le_of_ble_eq_true rfl⟩) hZ hw hA h_o rfl rfl rfl rfl hl.1 (Nat.le_of_ble_eq_true rfl) d_PO_setLinear_20 ⟨Nat.le_of_ble_eq_true rfl, Nat.le_of_ble_eq_true rfl⟩ (fun v M5 H locs hp hw => ?_)
  obtain ⟨rfl, dd4, hDdd4, hs1, ho⟩ := hp
  have h_b : M5 b = some (cJ (K 1) 25 (zu (zu (fun _ => 0) 0 c0) 1 s0)) := (ho _ (zq_ne h_b h_o (by simp))).trans h_b
  have h_o : M5 o = some (.inr (8, [.ref b, .int (iI dd4)])) := hs1
  have hfr : ∀ q, q ≠ o → q ≠ b → M5 q = M q := fun q g0 g1 => (ho q g0).trans (hfr q g0 g1)
  refine W.eq (g2 := F0 m 23 ls []) rfl ?_
  exact zq_vret hx hb hr hlocks hZ hw ⟨rfl, _, hDdd4, h_o, h_b, hfr⟩ d_PO_setLinear_23
abbrev P_PO_setMultiple (K : Nat → ClassId) (M : zq_M) (o : Nat) (b : Nat) (o2 : Nat) (b2 : Nat) (d : Int) (f : Int → Int) (d2 : Int) (g : Int → Int) (fc : Int) : Option Value → zq_M → Prop := fun v M' => v = none ∧ ∃ d', zD (fun j => fc * g j) d' ∧ M' o = some (.inr (8, [.ref b, .int (iI d')])) ∧ M' b = some (cJ (K 1) 25 (fun j => fc * g j)) ∧ ∀ q, q ≠ o → q ≠ b → M' q = M q
set_option maxHeartbeats 4000000 in
set_option maxRecDepth 100000 in
theorem c_PO_setMultiple (l : Launch) (D : va_G) (K : Nat → ClassId) (M : zq_M) (o : Nat) (b : Nat) (o2 : Nat) (b2 : Nat) (d : Int) (f : Int → Int) (d2 : Int) (g : Int → Int) (fc : Int) (h_o : M o = some (.inr (8, [.ref b, .int (iI d)]))) (h_b : M b = some (cJ (K 1) 25 f)) (h_o2 : M o2 = some (.inr (8, [.ref b2, .int (iI d2)]))) (h_b2 : M b2 = some (cJ (K 1) 25 g)) (hoo : o ≠ o2) (hbb : b ≠ b2) (hU : zU f d) (hU2 : zU g d2) (hfc : inL fc) (hin : ∀ j, inL (fc * g j)) : zq_Met l y_PO_setMultiple (.code y_PO_setMultiple b_PO_setMultiple 4 none :: lw_gd) { frames := 1, cells := 0, slots := 0, locals := 28 } D vwCl (zT K) [.ref o, .ref o2, .long (iL fc)] M (P_PO_setMultiple K M o b o2 b2 d f d2 g fc) 0 0 := by
  refine zq_start (cc := b_PO_setMultiple) (maxL := 4) (ret := none) (by decide) rfl (Nat.le_of_ble_eq_true rfl) ?_
  intro p e s m below meth c A ls hx hb hr hml hts hown hnm hlocks hA hZ hw hl
  have hts : ∀ w ∈ lw_gd, w.before [.ref o, .ref o2, .long (iL fc)].toArray s = true := fun w h => hts w (List.mem_cons_of_mem _ h)
  have hown : s.vm.findClass R_PO = some m.cls := hown
  have hK := hZ.1
  have hl : lv_has ls 4 [(0, .ref o), (1, .ref o2), (2, .long (iL fc))] := hl
  have hfr : ∀ q, q ≠ o → q ≠ b → M q = M q := fun q _ _ => rfl
  obtain ⟨he1, he2⟩ := zU_le hU2
  have hz : (fun j => (fun _ => 0) j + fc * g (j - 0)) = fun j => fc * g j := funext fun j => by simp
  have hzd := zad_le (sh := 0) (fc := fc) (d := -1) (d2 := d2) (by omega) (by omega)
  refine lv_aload_n hx hb d_PO_setMultiple_0 rfl (lv_at hl 0 rfl) ?_
  refine zq_callV (As := []) (rest := []) ⟨hx, hb, hml, hown, hts⟩ (c_PO_setZero l D K M o b d f h_o h_b hU) (cwV 0 hts (zg_V tw_133 tw_134 tw_135 tw_8 tw_136) rfl rfl rfl (by decide +kernel) ⟨Nat.le_of_ble_eq_true rfl, Nat.le_of_ble_eq_true rfl⟩) hZ hw hA h_o rfl rfl rfl rfl hl.1 (Nat.le_of_ble_eq_true rfl) d_PO_setMultiple_1 ⟨Nat.le_of_ble_eq_true rfl, Nat.le_of_ble_eq_true rfl⟩ (fun v M1 H locs hp hw => ?_)
  obtain ⟨rfl, hs1, hs2, ho⟩ := hp
  have h_o2 : M1 o2 = some (.inr (8, [.ref b2, .int (iI d2)])) := (ho _ (Ne.symm hoo) (zq_ne h_o2 h_b (by simp))).trans h_o2
  have h_b2 : M1 b2 = some (cJ (K 1) 25 g) := (ho _ (zq_ne h_b2 h_o (by simp)) (Ne.symm hbb)).trans h_b2
  have h_o : M1 o = some (.inr (8, [.ref b, .int (iI (-1))])) := hs1
  have h_b : M1 b = some (cJ (K 1) 25 (fun _ => 0)) := hs2
  have hfr : ∀ q, q ≠ o → q ≠ b → M1 q = M q := fun q g0 g1 => (ho q g0 g1).trans (hfr q g0 g1)
  refine W.eq (g2 := F0 m 4 ls []) rfl ?_
  refine lv_aload_n hx hb d_PO_setMultiple_4 rfl (lv_at hl 0 rfl) ?_
  refine lv_aload_n hx hb d_PO_setMultiple_5 rfl (lv_at hl 1 rfl) ?_
  refine lv_iconst (v := iI 0) hx hb d_PO_setMultiple_6 rfl ?_
  refine lv_lload_n hx hb d_PO_setMultiple_7 rfl (lv_at hl 2 rfl) ?_
  refine zq_callV (As := [.ref o2, .int (iI 0), .long (iL fc)]) (rest := []) ⟨hx, hb, hml, hown, hts⟩ (c_PO_addShifted l D K M1 o b o2 b2 (-1) (fun _ => 0) d2 g 0 fc h_o h_b h_o2 h_b2 hoo hbb (by omega) (by omega) (by omega) (by omega) hU2.2.2.1 (fun j q => hU2.2.2.2 j (by omega)) hfc) (cwV 3 hts (zg_V tw_456 tw_458 ts_20 tw_8 tw_459) rfl rfl rfl (by decide +kernel) ⟨Nat.le_of_ble_eq_true rfl, Nat.le_of_ble_eq_true rfl⟩) hZ hw hA h_o rfl rfl rfl rfl hl.1 (Nat.le_of_ble_eq_true rfl) d_PO_setMultiple_8 ⟨Nat.le_of_ble_eq_true rfl, Nat.le_of_ble_eq_true rfl⟩ (fun v M2 H locs hp hw => ?_)
  obtain ⟨rfl, hs1, hs2, ho⟩ := hp
  have h_o2 : M2 o2 = some (.inr (8, [.ref b2, .int (iI d2)])) := (ho _ (Ne.symm hoo) (zq_ne h_o2 h_b (by simp))).trans h_o2
  have h_b2 : M2 b2 = some (cJ (K 1) 25 g) := (ho _ (zq_ne h_b2 h_o (by simp)) (Ne.symm hbb)).trans h_b2
  have h_o : M2 o = some (.inr (8, [.ref b, .int (iI (zad (-1) d2 0 fc))])) := hs1
  have h_b : M2 b = some (cJ (K 1) 25 (fun j => (fun _ => 0) j + fc * g (j - 0))) := hs2
  have hfr : ∀ q, q ≠ o → q ≠ b → M2 q = M q := fun q g0 g1 => (ho q g0 g1).trans (hfr q g0 g1)
  refine W.eq (g2 := F0 m 11 ls []) rfl ?_
  refine lv_aload_n hx hb d_PO_setMultiple_11 rfl (lv_at hl 0 rfl) ?_
  refine lv_aload_n hx hb d_PO_setMultiple_12 rfl (lv_at hl 0 rfl) ?_
  refine zq_get hx hb hts i_PO hown hK hw h_o rfl 1 (by decide) (hts _ tw_122) rfl d_PO_setMultiple_13 ?_
  refine zq_callV (As := [.int (iI (zad (-1) d2 0 fc))]) (rest := []) ⟨hx, hb, hml, hown, hts⟩ (c_PO_lowerDegree l D K M2 o b (zad (-1) d2 0 fc) (fun j => (fun _ => 0) j + fc * g (j - 0)) (zad (-1) d2 0 fc) h_o h_b ⟨by omega, by omega⟩ (fun j hj => zsh_out (d := -1) (fun _ _ => rfl) hU2.2.2.1 hU2.2.2.2 (by omega)) (fun j hj => by show (0 : Int) + fc * g (j - 0) = 0; rw [hU2.2.2.2 _ (by omega)]; simp) (fun j => by have := hin j; simpa using this)) (cwV 1 hts (zg_V tw_137 tw_139 ts_0 tw_8 tw_140) rfl rfl rfl (by decide +kernel) ⟨Nat.le_of_ble_eq_true rfl, Nat.le_of_ble_eq_true rfl⟩) hZ hw hA h_o rfl rfl rfl rfl hl.1 (Nat.le_of_ble_eq_true rfl) d_PO_setMultiple_16 ⟨Nat.le_of_ble_eq_true rfl, Nat.le_of_ble_eq_true rfl⟩ (fun v M4 H locs hp hw => ?_)
  obtain ⟨rfl, dd3, hDdd3, hs1, ho⟩ := hp
  have h_b : M4 b = some (cJ (K 1) 25 (fun j => (fun _ => 0) j + fc * g (j - 0))) := (ho _ (zq_ne h_b h_o (by simp))).trans h_b
  have h_o2 : M4 o2 = some (.inr (8, [.ref b2, .int (iI d2)])) := (ho _ (Ne.symm hoo)).trans h_o2
  have h_b2 : M4 b2 = some (cJ (K 1) 25 g) := (ho _ (zq_ne h_b2 h_o (by simp))).trans h_b2
  have h_o : M4 o = some (.inr (8, [.ref b, .int (iI dd3)])) := hs1
  have hfr : ∀ q, q ≠ o → q ≠ b → M4 q = M q := fun q g0 g1 => (ho q g0).trans (hfr q g0 g1)
  refine W.eq (g2 := F0 m 19 ls []) rfl ?_
  exact zq_vret hx hb hr hlocks hZ hw ⟨rfl, _, hz ▸ hDdd3, h_o, hz ▸ h_b, hfr⟩ d_PO_setMultiple_19
abbrev P_PO_addProduct (K : Nat → ClassId) (M : zq_M) (o : Nat) (b : Nat) (o1 : Nat) (b1 : Nat) (o2 : Nat) (b2 : Nat) (d : Int) (f : Int → Int) (d1 : Int) (f1 : Int → Int) (d2 : Int) (f2 : Int → Int) (fc : Int) : Option Value → zq_M → Prop := fun v M' => v = none ∧ ∃ d', zD (fun j => f j + fc * zcv f1 f2 j (d1 + 1).toNat) d' ∧ M' o = some (.inr (8, [.ref b, .int (iI d')])) ∧ M' b = some (cJ (K 1) 25 (fun j => f j + fc * zcv f1 f2 j (d1 + 1).toNat)) ∧ ∀ q, q ≠ o → q ≠ b → M' q = M q
set_option maxHeartbeats 4000000 in
set_option maxRecDepth 100000 in
theorem c_PO_addProduct (l : Launch) (D : va_G) (K : Nat → ClassId) (M : zq_M) (o : Nat) (b : Nat) (o1 : Nat) (b1 : Nat) (o2 : Nat) (b2 : Nat) (d : Int) (f : Int → Int) (d1 : Int) (f1 : Int → Int) (d2 : Int) (f2 : Int → Int) (fc : Int) (h_o : M o = some (.inr (8, [.ref b, .int (iI d)]))) (h_b : M b = some (cJ (K 1) 25 f)) (h_o1 : M o1 = some (.inr (8, [.ref b1, .int (iI d1)]))) (h_b1 : M b1 = some (cJ (K 1) 25 f1)) (h_o2 : M o2 = some (.inr (8, [.ref b2, .int (iI d2)]))) (h_b2 : M b2 = some (cJ (K 1) 25 f2)) (hoo1 : o ≠ o1) (hbb1 : b ≠ b1) (hoo : o ≠ o2) (hbb : b ≠ b2) (hU : zU f d) (hU1 : zU f1 d1) (hU2 : zU f2 d2) (hdd : d1 + d2 ≤ 24) (hfc : ∀ j, inL (fc * f1 j)) (hin : ∀ j, inL (f j + fc * zcv f1 f2 j (d1 + 1).toNat)) : zq_Met l y_PO_addProduct (.code y_PO_addProduct b_PO_addProduct 6 none :: lw_gd) { frames := 1, cells := 0, slots := 0, locals := 28 } D vwCl (zT K) [.ref o, .ref o1, .ref o2, .long (iL fc)] M (P_PO_addProduct K M o b o1 b1 o2 b2 d f d1 f1 d2 f2 fc) 0 0 := by
  refine zq_start (cc := b_PO_addProduct) (maxL := 6) (ret := none) (by decide) rfl (Nat.le_of_ble_eq_true rfl) ?_
  intro p e s m below meth c A ls hx hb hr hml hts hown hnm hlocks hA hZ hw hl
  have hts : ∀ w ∈ lw_gd, w.before [.ref o, .ref o1, .ref o2, .long (iL fc)].toArray s = true := fun w h => hts w (List.mem_cons_of_mem _ h)
  have hown : s.vm.findClass R_PO = some m.cls := hown
  have hK := hZ.1
  have hl : lv_has ls 6 [(0, .ref o), (1, .ref o1), (2, .ref o2), (3, .long (iL fc))] := hl
  have hfr : ∀ q, q ≠ o → q ≠ b → M q = M q := fun q _ _ => rfl
  obtain ⟨he1, he2⟩ := zU_le hU1
  obtain ⟨he3, he4⟩ := zU_le hU2
  obtain ⟨he5, he6⟩ := zU_le hU
  have hL : ∀ (n : Nat) (i : Int) (x : Int) (h : Int → Int) (Mq : zq_M) (H : Heap) (locs : List Loc) (ls : Array Slot), (0 ≤ i ∧ i ≤ 25 ∧ i ≤ d1 + 1) → (-1 ≤ x ∧ x ≤ 24) → (∀ j, x < j → h j = 0) → (∀ j, h j = f j + fc * zcv f1 f2 j i.toNat) → (d1 + 1 - i).toNat < n → (∀ q, q ≠ o → q ≠ b → Mq q = M q) → Mq o = some (.inr (8, [.ref b, .int (iI x)])) → Mq b = some (cJ (K 1) 25 h) → Mq o1 = some (.inr (8, [.ref b1, .int (iI d1)])) → Mq b1 = some (cJ (K 1) 25 f1) → Mq o2 = some (.inr (8, [.ref b2, .int (iI d2)])) → Mq b2 = some (cJ (K 1) 25 f2) → zq_W D vwCl A s.heap Mq H locs → lv_has ls 6 [(0, .ref o), (1, .ref o1), (2, .ref o2), (3, .long (iL fc)), (5, .int (iI i))] → W p l e ({ frames := 1, cells := 0, slots := 0, locals := 28 } : Room) s m [.ref o, .ref o1, .ref o2, .long (iL fc)].toArray below meth c H locs 0 0 (MQ below (zq_Q D vwCl (zT K) (P_PO_addProduct K M o b o1 b1 o2 b2 d f d1 f1 d2 f2 fc) A) [.ref o, .ref o1, .ref o2, .long (iL fc)].toArray s 0 0 A) (F0 m 3 ls []) := by
    intro n
    induction n with
    | zero =>
      intro i x h Mq H locs ls hi hx1 hx2 hh hms hfr h_o h_b h_o1 h_b1 h_o2 h_b2 hw hl
      exact absurd hms (Nat.not_lt_zero _)
    | succ n ih_hL =>
      intro i x h Mq H locs ls hi hx1 hx2 hh hms hfr h_o h_b h_o1 h_b1 h_o2 h_b2 hw hl
      refine lv_iload hx hb d_PO_addProduct_3 (lv_at hl 4 rfl) ?_
      refine lv_aload_n hx hb d_PO_addProduct_5 rfl (lv_at hl 1 rfl) ?_
      refine zq_get hx hb hts i_PO hown hK hw h_o1 rfl 1 (by decide) (hts _ tw_122) rfl d_PO_addProduct_6 ?_
      refine zq_icmp_gt (tgt := 33) hx hb d_PO_addProduct_9 (by decide) ⟨by omega, by omega⟩ ⟨by omega, by omega⟩ (fun hc1 => ?_) (fun hc1 => ?_)
      · have hz : h = fun j => f j + fc * zcv f1 f2 j (d1 + 1).toNat := funext fun j => by rw [hh, show i = d1 + 1 from by omega]
        refine lv_aload_n hx hb d_PO_addProduct_33 rfl (lv_at hl 0 rfl) ?_
        refine lv_aload_n hx hb d_PO_addProduct_34 rfl (lv_at hl 0 rfl) ?_
        refine zq_get hx hb hts i_PO hown hK hw h_o rfl 1 (by decide) (hts _ tw_122) rfl d_PO_addProduct_35 ?_
        refine zq_callV (As := [.int (iI x)]) (rest := []) ⟨hx, hb, hml, hown, hts⟩ (c_PO_lowerDegree l D K Mq o b x h x h_o h_b ⟨by omega, by omega⟩ (fun j hj => hx2 j (by omega)) (fun j hj => by rw [hz]; exact zcv_neg hU.2.2.2 hU2.2.2.2 hj) (fun j => by rw [hz]; exact hin j)) (cwV 1 hts (zg_V tw_137 tw_139 ts_0 tw_8 tw_140) rfl rfl rfl (by decide +kernel) ⟨Nat.le_of_ble_eq_true rfl, Nat.le_of_ble_eq_true rfl⟩) hZ hw hA h_o rfl rfl rfl rfl hl.1 (Nat.le_of_ble_eq_true rfl) d_PO_addProduct_38 ⟨Nat.le_of_ble_eq_true rfl, Nat.le_of_ble_eq_true rfl⟩ (fun v M3 H locs hp hw => ?_)
        obtain ⟨rfl, dd2, hDdd2, hs1, ho⟩ := hp
        have h_b : M3 b = some (cJ (K 1) 25 h) := (ho _ (zq_ne h_b h_o (by simp))).trans h_b
        have h_o1 : M3 o1 = some (.inr (8, [.ref b1, .int (iI d1)])) := (ho _ (Ne.symm hoo1)).trans h_o1
        have h_b1 : M3 b1 = some (cJ (K 1) 25 f1) := (ho _ (zq_ne h_b1 h_o (by simp))).trans h_b1
        have h_o2 : M3 o2 = some (.inr (8, [.ref b2, .int (iI d2)])) := (ho _ (Ne.symm hoo)).trans h_o2
        have h_b2 : M3 b2 = some (cJ (K 1) 25 f2) := (ho _ (zq_ne h_b2 h_o (by simp))).trans h_b2
        have h_o : M3 o = some (.inr (8, [.ref b, .int (iI dd2)])) := hs1
        have hfr : ∀ q, q ≠ o → q ≠ b → M3 q = M q := fun q g0 g1 => (ho q g0).trans (hfr q g0 g1)
        refine W.eq (g2 := F0 m 41 ls []) rfl ?_
        exact zq_vret hx hb hr hlocks hZ hw ⟨rfl, _, hz ▸ hDdd2, h_o, hz ▸ h_b, hfr⟩ d_PO_addProduct_41
      · refine lv_aload_n hx hb d_PO_addProduct_12 rfl (lv_at hl 0 rfl) ?_
        refine lv_aload_n hx hb d_PO_addProduct_13 rfl (lv_at hl 2 rfl) ?_
        refine lv_iload hx hb d_PO_addProduct_14 (lv_at hl 4 rfl) ?_
        refine lv_lload_n hx hb d_PO_addProduct_16 rfl (lv_at hl 3 rfl) ?_
        refine lv_aload_n hx hb d_PO_addProduct_17 rfl (lv_at hl 1 rfl) ?_
        refine lv_iload hx hb d_PO_addProduct_18 (lv_at hl 4 rfl) ?_
        refine zq_callV (As := [.int (iI i)]) (rest := [.long (iL fc), .int (iI i), .ref o2, .ref o]) ⟨hx, hb, hml, hown, hts⟩ (c_PO_coefficient l D K Mq o1 b1 d1 f1 i h_o1 h_b1 (fun j hj => zU_out hU1 hj) ⟨by omega, by omega⟩) (cwV 1 hts (zg_V tw_452 tw_453 tw_454 tw_8 tw_455) rfl rfl rfl (by decide +kernel) ⟨Nat.le_of_ble_eq_true rfl, Nat.le_of_ble_eq_true rfl⟩) hZ hw hA h_o1 rfl rfl rfl rfl hl.1 (Nat.le_of_ble_eq_true rfl) d_PO_addProduct_20 ⟨Nat.le_of_ble_eq_true rfl, Nat.le_of_ble_eq_true rfl⟩ (fun v M4 H locs hp hw => ?_)
        obtain ⟨rfl, hMe⟩ := hp
        rw [hMe] at hw
        refine W.eq (g2 := F0 m 23 ls [.long (iL (f1 i)), .long (iL fc), .int (iI i), .ref o2, .ref o]) rfl ?_
        refine zq_lmul hx hb d_PO_addProduct_23 ?_
        refine zq_callV (As := [.ref o2, .int (iI i), .long (iL (fc * (f1 i)))]) (rest := []) ⟨hx, hb, hml, hown, hts⟩ (c_PO_addShifted l D K Mq o b o2 b2 x h d2 f2 i (fc * (f1 i)) h_o h_b h_o2 h_b2 hoo hbb (by omega) (by omega) (by omega) (by omega) hU2.2.2.1 (fun j q => hU2.2.2.2 j (by omega)) (hfc _)) (cwV 3 hts (zg_V tw_456 tw_458 ts_20 tw_8 tw_459) rfl rfl rfl (by decide +kernel) ⟨Nat.le_of_ble_eq_true rfl, Nat.le_of_ble_eq_true rfl⟩) hZ hw hA h_o rfl rfl rfl rfl hl.1 (Nat.le_of_ble_eq_true rfl) d_PO_addProduct_24 ⟨Nat.le_of_ble_eq_true rfl, Nat.le_of_ble_eq_true rfl⟩ (fun v M5 H locs hp hw => ?_)
        obtain ⟨rfl, hs1, hs2, ho⟩ := hp
        have h_o1 : M5 o1 = some (.inr (8, [.ref b1, .int (iI d1)])) := (ho _ (Ne.symm hoo1) (zq_ne h_o1 h_b (by simp))).trans h_o1
        have h_b1 : M5 b1 = some (cJ (K 1) 25 f1) := (ho _ (zq_ne h_b1 h_o (by simp)) (Ne.symm hbb1)).trans h_b1
        have h_o2 : M5 o2 = some (.inr (8, [.ref b2, .int (iI d2)])) := (ho _ (Ne.symm hoo) (zq_ne h_o2 h_b (by simp))).trans h_o2
        have h_b2 : M5 b2 = some (cJ (K 1) 25 f2) := (ho _ (zq_ne h_b2 h_o (by simp)) (Ne.symm hbb)).trans h_b2
        have h_o : M5 o = some (.inr (8, [.ref b, .int (iI (zad x d2 i (fc * (f1 i))))])) := hs1
        have h_b : M5 b = some (cJ (K 1) 25 (fun j => h j + (fc * (f1 i)) * f2 (j - i))) := hs2
        have hfr : ∀ q, q ≠ o → q ≠ b → M5 q = M q := fun q g0 g1 => (ho q g0 g1).trans (hfr q g0 g1)
        refine W.eq (g2 := F0 m 27 ls []) rfl ?_
        refine lv_iinc (v := iI (i + 1)) (lv' := [(5, .int (iI (i + 1))), (0, .ref o), (1, .ref o1), (2, .ref o2), (3, .long (iL fc))]) hx hb d_PO_addProduct_27 hl (k := 4) rfl (iI_add _ _) (by decide) rfl (fun ls hl => ?_)
        refine lv_goto (tgt := 3) hx hb d_PO_addProduct_30 (by decide) ?_
        exact ih_hL (i + 1) (zad x d2 i (fc * (f1 i))) (fun j => h j + (fc * (f1 i)) * f2 (j - i)) M5 _ _ _ (by omega) (zad_le (by omega) (by omega)) (fun j hj => zsh_out hx2 hU2.2.2.1 hU2.2.2.2 hj) (fun j => zcv_step hh (by omega) j) (by omega) hfr h_o h_b h_o1 h_b1 h_o2 h_b2 hw (lv_sub hl [1, 2, 3, 4, 0] rfl)
  refine lv_iconst (v := iI 0) hx hb d_PO_addProduct_0 rfl ?_
  refine lv_istore (lv' := [(5, .int (iI 0)), (0, .ref o), (1, .ref o1), (2, .ref o2), (3, .long (iL fc))]) hx hb d_PO_addProduct_1 hl (by decide) rfl (fun ls hl => ?_)
  exact hL _ 0 d f M _ _ _ (by omega) (by omega) hU.2.2.1 (fun j => by show f j = f j + fc * 0; omega) (Nat.lt_succ_self _) hfr h_o h_b h_o1 h_b1 h_o2 h_b2 hw (lv_sub hl [1, 2, 3, 4, 0] rfl)
