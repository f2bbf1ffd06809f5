abbrev P_MM_init (K : Nat → ClassId) (M : zq_M) (o : Nat) : Option Value → zq_M → Prop := fun v M' => v = none ∧ ∃ bd, zMK K M' o bd 0 (fun _ => 0) (fun _ => 0) 0 0 (fun _ => 0) (fun _ => 0) 0 0 (fun _ => 0) (fun _ => 0) (fun _ => 0) 0 (fun _ => 0) (fun _ => 0) ∧ (∀ i, i < 18 → M (bd i) = none) ∧ ∀ q, M q ≠ none → q ≠ o → M' q = M q
set_option maxHeartbeats 4000000 in
set_option maxRecDepth 100000 in
theorem c_MM_init (l : Launch) (D : va_G) (K : Nat → ClassId) (M : zq_M) (o : Nat) (h_o : M o = some (.inr (9, [.int (iI 0), .int (iI 0), .int (iI 0), .null, .null, .int (iI 0), .int (iI 0), .int (iI 0), .int (iI 0), .null, .null, .null, .null, .int (iI 0), .null, .null, .null, .int (iI 0), .null, .int (iI 0), .null, .null, .null, .null, .int (iI 0), .null, .null, .null, .int (iI 0), .null]))) : zq_Met l y_MM_init (.code y_MM_init b_MM_init 1 none :: lw_gd) { frames := 1, cells := 18, slots := 118358, locals := 12 } D vwCl (zT K) [.ref o] M (P_MM_init K M o) 18 118358 := by
  refine zq_start (cc := b_MM_init) (maxL := 1) (ret := none) (by decide) rfl (Nat.le_of_ble_eq_true rfl) ?_
  intro p e s m below meth co A ls hx hb hr hml hts hown hnm hlocks hA hZ hw hl
  have hts : ∀ w ∈ lw_gd, w.before [.ref o].toArray s = true := fun w h => hts w (List.mem_cons_of_mem _ h)
  have hown : s.vm.findClass R_MM = some m.cls := hown
  have hK := hZ.1
  have hnm : meth.name = "<init>" := hnm
  have hl : lv_has ls 1 [(0, .ref o)] := hl
  have hfr : ∀ q, M q ≠ none → q ≠ o → M q = M q := fun q _ _ => rfl
  refine lv_aload_n hx hb d_MM_init_0 rfl (lv_at hl 0 rfl) ?_
  refine W.objInit hx hb hown (hts _ tw_585) (hts _ tw_20) (hts _ tw_21) rfl (by rw [hml]; exact hl.1) rfl d_MM_init_1 (Nat.le_of_ble_eq_true rfl) (Nat.le_of_ble_eq_true rfl) ?_
  refine W.eq (g2 := F0 m 4 ls []) rfl ?_
  refine lv_aload_n hx hb d_MM_init_4 rfl (lv_at hl 0 rfl) ?_
  refine lv_iconst (v := iI (-1)) hx hb d_MM_init_5 rfl ?_
  refine zq_put (ci := 9) (v := .int (iI (-1))) (ty := .int) hx hb hts i_MM t_MM t_MM_ok n_MM hown hK hw h_o rfl 2 (by decide) (hts _ tw_588) rfl (by decide +kernel) rfl rfl (Nat.le_of_ble_eq_true rfl) d_MM_init_6 (fun M1 H locs hs ho hw => ?_)
  have h_o : M1 o = some (.inr (9, [.int (iI 0), .int (iI 0), .int (iI (-1)), .null, .null, .int (iI 0), .int (iI 0), .int (iI 0), .int (iI 0), .null, .null, .null, .null, .int (iI 0), .null, .null, .null, .int (iI 0), .null, .int (iI 0), .null, .null, .null, .null, .int (iI 0), .null, .null, .null, .int (iI 0), .null])) := hs
  have hfr : ∀ q, M q ≠ none → q ≠ o → M1 q = M q := fun q g0 g1 => (ho q g1).trans (hfr q g0 g1)
  refine lv_aload_n hx hb d_MM_init_9 rfl (lv_at hl 0 rfl) ?_
  refine lv_bipush (v := iI 12) hx hb d_MM_init_10 (by decide) ?_
  refine zq_newI hx hb (hts _ tw_38) hK hw hA 0 rfl (N' := 12) rfl (by decide) (Nat.le_of_ble_eq_true rfl) (Nat.le_of_ble_eq_true rfl) d_MM_init_12 (fun q0 M2 H hqq0 hs ho hw => ?_)
  have hmq0 : M q0 = none := Classical.byContradiction fun z => z ((hfr q0 z (zq_nn hqq0 h_o).symm).symm.trans hqq0)
  have dd_q0_o : o ≠ q0 := zq_nn hqq0 h_o
  have h_o : M2 o = some (.inr (9, [.int (iI 0), .int (iI 0), .int (iI (-1)), .null, .null, .int (iI 0), .int (iI 0), .int (iI 0), .int (iI 0), .null, .null, .null, .null, .int (iI 0), .null, .null, .null, .int (iI 0), .null, .int (iI 0), .null, .null, .null, .null, .int (iI 0), .null, .null, .null, .int (iI 0), .null])) := (ho _ (zq_nn hqq0 h_o)).trans h_o
  have h_q0 : M2 q0 = some (cI (K 0) 12 (fun _ => 0)) := hs
  have hfr : ∀ q, M q ≠ none → q ≠ o → M2 q = M q := fun q g0 g1 => (ho q (fun z9 => g0 (by rw [z9]; exact hmq0))).trans (hfr q g0 g1)
  refine zq_putF (ci := 9) (v := .ref q0) (ty := .array .int) hx hb hts i_MM t_MM t_MM_ok n_MM hown hK hw h_o rfl 3 (by decide) (hts _ tw_589) rfl hnm rfl (by decide +kernel) rfl rfl (Nat.le_of_ble_eq_true rfl) d_MM_init_14 (fun M3 H locs hs ho hw => ?_)
  have h_q0 : M3 q0 = some (cI (K 0) 12 (fun _ => 0)) := (ho _ (zq_ne h_q0 h_o (by simp))).trans h_q0
  have h_o : M3 o = some (.inr (9, [.int (iI 0), .int (iI 0), .int (iI (-1)), .ref q0, .null, .int (iI 0), .int (iI 0), .int (iI 0), .int (iI 0), .null, .null, .null, .null, .int (iI 0), .null, .null, .null, .int (iI 0), .null, .int (iI 0), .null, .null, .null, .null, .int (iI 0), .null, .null, .null, .int (iI 0), .null])) := hs
  have hfr : ∀ q, M q ≠ none → q ≠ o → M3 q = M q := fun q g0 g1 => (ho q g1).trans (hfr q g0 g1)
  refine lv_aload_n hx hb d_MM_init_17 rfl (lv_at hl 0 rfl) ?_
  refine lv_bipush (v := iI 48) hx hb d_MM_init_18 (by decide) ?_
  refine zq_newI hx hb (hts _ tw_38) hK hw hA 0 rfl (N' := 48) rfl (by decide) (Nat.le_of_ble_eq_true rfl) (Nat.le_of_ble_eq_true rfl) d_MM_init_20 (fun q1 M4 H hqq1 hs ho hw => ?_)
  have hmq1 : M q1 = none := Classical.byContradiction fun z => z ((hfr q1 z (zq_nn hqq1 h_o).symm).symm.trans hqq1)
  have dd_q1_o : o ≠ q1 := zq_nn hqq1 h_o
  have dd_q1_q0 : q0 ≠ q1 := zq_nn hqq1 h_q0
  have h_o : M4 o = some (.inr (9, [.int (iI 0), .int (iI 0), .int (iI (-1)), .ref q0, .null, .int (iI 0), .int (iI 0), .int (iI 0), .int (iI 0), .null, .null, .null, .null, .int (iI 0), .null, .null, .null, .int (iI 0), .null, .int (iI 0), .null, .null, .null, .null, .int (iI 0), .null, .null, .null, .int (iI 0), .null])) := (ho _ (zq_nn hqq1 h_o)).trans h_o
  have h_q0 : M4 q0 = some (cI (K 0) 12 (fun _ => 0)) := (ho _ (zq_nn hqq1 h_q0)).trans h_q0
  have h_q1 : M4 q1 = some (cI (K 0) 48 (fun _ => 0)) := hs
  have hfr : ∀ q, M q ≠ none → q ≠ o → M4 q = M q := fun q g0 g1 => (ho q (fun z9 => g0 (by rw [z9]; exact hmq1))).trans (hfr q g0 g1)
  refine zq_putF (ci := 9) (v := .ref q1) (ty := .array .int) hx hb hts i_MM t_MM t_MM_ok n_MM hown hK hw h_o rfl 4 (by decide) (hts _ tw_590) rfl hnm rfl (by decide +kernel) rfl rfl (Nat.le_of_ble_eq_true rfl) d_MM_init_22 (fun M5 H locs hs ho hw => ?_)
  have h_q0 : M5 q0 = some (cI (K 0) 12 (fun _ => 0)) := (ho _ (zq_ne h_q0 h_o (by simp))).trans h_q0
  have h_q1 : M5 q1 = some (cI (K 0) 48 (fun _ => 0)) := (ho _ (zq_ne h_q1 h_o (by simp))).trans h_q1
  have h_o : M5 o = some (.inr (9, [.int (iI 0), .int (iI 0), .int (iI (-1)), .ref q0, .ref q1, .int (iI 0), .int (iI 0), .int (iI 0), .int (iI 0), .null, .null, .null, .null, .int (iI 0), .null, .null, .null, .int (iI 0), .null, .int (iI 0), .null, .null, .null, .null, .int (iI 0), .null, .null, .null, .int (iI 0), .null])) := hs
  have hfr : ∀ q, M q ≠ none → q ≠ o → M5 q = M q := fun q g0 g1 => (ho q g1).trans (hfr q g0 g1)
  refine lv_aload_n hx hb d_MM_init_25 rfl (lv_at hl 0 rfl) ?_
  refine lv_bipush (v := iI 12) hx hb d_MM_init_26 (by decide) ?_
  refine zq_newI hx hb (hts _ tw_38) hK hw hA 0 rfl (N' := 12) rfl (by decide) (Nat.le_of_ble_eq_true rfl) (Nat.le_of_ble_eq_true rfl) d_MM_init_28 (fun q2 M6 H hqq2 hs ho hw => ?_)
  have hmq2 : M q2 = none := Classical.byContradiction fun z => z ((hfr q2 z (zq_nn hqq2 h_o).symm).symm.trans hqq2)
  have dd_q2_o : o ≠ q2 := zq_nn hqq2 h_o
  have dd_q2_q0 : q0 ≠ q2 := zq_nn hqq2 h_q0
  have dd_q2_q1 : q1 ≠ q2 := zq_nn hqq2 h_q1
  have h_o : M6 o = some (.inr (9, [.int (iI 0), .int (iI 0), .int (iI (-1)), .ref q0, .ref q1, .int (iI 0), .int (iI 0), .int (iI 0), .int (iI 0), .null, .null, .null, .null, .int (iI 0), .null, .null, .null, .int (iI 0), .null, .int (iI 0), .null, .null, .null, .null, .int (iI 0), .null, .null, .null, .int (iI 0), .null])) := (ho _ (zq_nn hqq2 h_o)).trans h_o
  have h_q0 : M6 q0 = some (cI (K 0) 12 (fun _ => 0)) := (ho _ (zq_nn hqq2 h_q0)).trans h_q0
  have h_q1 : M6 q1 = some (cI (K 0) 48 (fun _ => 0)) := (ho _ (zq_nn hqq2 h_q1)).trans h_q1
  have h_q2 : M6 q2 = some (cI (K 0) 12 (fun _ => 0)) := hs
  have hfr : ∀ q, M q ≠ none → q ≠ o → M6 q = M q := fun q g0 g1 => (ho q (fun z9 => g0 (by rw [z9]; exact hmq2))).trans (hfr q g0 g1)
  refine zq_putF (ci := 9) (v := .ref q2) (ty := .array .int) hx hb hts i_MM t_MM t_MM_ok n_MM hown hK hw h_o rfl 9 (by decide) (hts _ tw_595) rfl hnm rfl (by decide +kernel) rfl rfl (Nat.le_of_ble_eq_true rfl) d_MM_init_30 (fun M7 H locs hs ho hw => ?_)
  have h_q0 : M7 q0 = some (cI (K 0) 12 (fun _ => 0)) := (ho _ (zq_ne h_q0 h_o (by simp))).trans h_q0
  have h_q1 : M7 q1 = some (cI (K 0) 48 (fun _ => 0)) := (ho _ (zq_ne h_q1 h_o (by simp))).trans h_q1
  have h_q2 : M7 q2 = some (cI (K 0) 12 (fun _ => 0)) := (ho _ (zq_ne h_q2 h_o (by simp))).trans h_q2
  have h_o : M7 o = some (.inr (9, [.int (iI 0), .int (iI 0), .int (iI (-1)), .ref q0, .ref q1, .int (iI 0), .int (iI 0), .int (iI 0), .int (iI 0), .ref q2, .null, .null, .null, .int (iI 0), .null, .null, .null, .int (iI 0), .null, .int (iI 0), .null, .null, .null, .null, .int (iI 0), .null, .null, .null, .int (iI 0), .null])) := hs
  have hfr : ∀ q, M q ≠ none → q ≠ o → M7 q = M q := fun q g0 g1 => (ho q g1).trans (hfr q g0 g1)
  refine lv_aload_n hx hb d_MM_init_33 rfl (lv_at hl 0 rfl) ?_
  refine lv_bipush (v := iI 48) hx hb d_MM_init_34 (by decide) ?_
  refine zq_newI hx hb (hts _ tw_38) hK hw hA 0 rfl (N' := 48) rfl (by decide) (Nat.le_of_ble_eq_true rfl) (Nat.le_of_ble_eq_true rfl) d_MM_init_36 (fun q3 M8 H hqq3 hs ho hw => ?_)
  have hmq3 : M q3 = none := Classical.byContradiction fun z => z ((hfr q3 z (zq_nn hqq3 h_o).symm).symm.trans hqq3)
  have dd_q3_o : o ≠ q3 := zq_nn hqq3 h_o
  have dd_q3_q0 : q0 ≠ q3 := zq_nn hqq3 h_q0
  have dd_q3_q1 : q1 ≠ q3 := zq_nn hqq3 h_q1
  have dd_q3_q2 : q2 ≠ q3 := zq_nn hqq3 h_q2
  have h_o : M8 o = some (.inr (9, [.int (iI 0), .int (iI 0), .int (iI (-1)), .ref q0, .ref q1, .int (iI 0), .int (iI 0), .int (iI 0), .int (iI 0), .ref q2, .null, .null, .null, .int (iI 0), .null, .null, .null, .int (iI 0), .null, .int (iI 0), .null, .null, .null, .null, .int (iI 0), .null, .null, .null, .int (iI 0), .null])) := (ho _ (zq_nn hqq3 h_o)).trans h_o
  have h_q0 : M8 q0 = some (cI (K 0) 12 (fun _ => 0)) := (ho _ (zq_nn hqq3 h_q0)).trans h_q0
  have h_q1 : M8 q1 = some (cI (K 0) 48 (fun _ => 0)) := (ho _ (zq_nn hqq3 h_q1)).trans h_q1
  have h_q2 : M8 q2 = some (cI (K 0) 12 (fun _ => 0)) := (ho _ (zq_nn hqq3 h_q2)).trans h_q2
  have h_q3 : M8 q3 = some (cI (K 0) 48 (fun _ => 0)) := hs
  have hfr : ∀ q, M q ≠ none → q ≠ o → M8 q = M q := fun q g0 g1 => (ho q (fun z9 => g0 (by rw [z9]; exact hmq3))).trans (hfr q g0 g1)
  refine zq_putF (ci := 9) (v := .ref q3) (ty := .array .int) hx hb hts i_MM t_MM t_MM_ok n_MM hown hK hw h_o rfl 10 (by decide) (hts _ tw_596) rfl hnm rfl (by decide +kernel) rfl rfl (Nat.le_of_ble_eq_true rfl) d_MM_init_38 (fun M9 H locs hs ho hw => ?_)
  have h_q0 : M9 q0 = some (cI (K 0) 12 (fun _ => 0)) := (ho _ (zq_ne h_q0 h_o (by simp))).trans h_q0
  have h_q1 : M9 q1 = some (cI (K 0) 48 (fun _ => 0)) := (ho _ (zq_ne h_q1 h_o (by simp))).trans h_q1
  have h_q2 : M9 q2 = some (cI (K 0) 12 (fun _ => 0)) := (ho _ (zq_ne h_q2 h_o (by simp))).trans h_q2
  have h_q3 : M9 q3 = some (cI (K 0) 48 (fun _ => 0)) := (ho _ (zq_ne h_q3 h_o (by simp))).trans h_q3
  have h_o : M9 o = some (.inr (9, [.int (iI 0), .int (iI 0), .int (iI (-1)), .ref q0, .ref q1, .int (iI 0), .int (iI 0), .int (iI 0), .int (iI 0), .ref q2, .ref q3, .null, .null, .int (iI 0), .null, .null, .null, .int (iI 0), .null, .int (iI 0), .null, .null, .null, .null, .int (iI 0), .null, .null, .null, .int (iI 0), .null])) := hs
  have hfr : ∀ q, M q ≠ none → q ≠ o → M9 q = M q := fun q g0 g1 => (ho q g1).trans (hfr q g0 g1)
  refine lv_aload_n hx hb d_MM_init_41 rfl (lv_at hl 0 rfl) ?_
  refine lv_bipush (v := iI 12) hx hb d_MM_init_42 (by decide) ?_
  refine zq_newI hx hb (hts _ tw_38) hK hw hA 0 rfl (N' := 12) rfl (by decide) (Nat.le_of_ble_eq_true rfl) (Nat.le_of_ble_eq_true rfl) d_MM_init_44 (fun q4 M10 H hqq4 hs ho hw => ?_)
  have hmq4 : M q4 = none := Classical.byContradiction fun z => z ((hfr q4 z (zq_nn hqq4 h_o).symm).symm.trans hqq4)
  have dd_q4_o : o ≠ q4 := zq_nn hqq4 h_o
  have dd_q4_q0 : q0 ≠ q4 := zq_nn hqq4 h_q0
  have dd_q4_q1 : q1 ≠ q4 := zq_nn hqq4 h_q1
  have dd_q4_q2 : q2 ≠ q4 := zq_nn hqq4 h_q2
  have dd_q4_q3 : q3 ≠ q4 := zq_nn hqq4 h_q3
  have h_o : M10 o = some (.inr (9, [.int (iI 0), .int (iI 0), .int (iI (-1)), .ref q0, .ref q1, .int (iI 0), .int (iI 0), .int (iI 0), .int (iI 0), .ref q2, .ref q3, .null, .null, .int (iI 0), .null, .null, .null, .int (iI 0), .null, .int (iI 0), .null, .null, .null, .null, .int (iI 0), .null, .null, .null, .int (iI 0), .null])) := (ho _ (zq_nn hqq4 h_o)).trans h_o
  have h_q0 : M10 q0 = some (cI (K 0) 12 (fun _ => 0)) := (ho _ (zq_nn hqq4 h_q0)).trans h_q0
  have h_q1 : M10 q1 = some (cI (K 0) 48 (fun _ => 0)) := (ho _ (zq_nn hqq4 h_q1)).trans h_q1
  have h_q2 : M10 q2 = some (cI (K 0) 12 (fun _ => 0)) := (ho _ (zq_nn hqq4 h_q2)).trans h_q2
  have h_q3 : M10 q3 = some (cI (K 0) 48 (fun _ => 0)) := (ho _ (zq_nn hqq4 h_q3)).trans h_q3
  have h_q4 : M10 q4 = some (cI (K 0) 12 (fun _ => 0)) := hs
  have hfr : ∀ q, M q ≠ none → q ≠ o → M10 q = M q := fun q g0 g1 => (ho q (fun z9 => g0 (by rw [z9]; exact hmq4))).trans (hfr q g0 g1)
  refine zq_putF (ci := 9) (v := .ref q4) (ty := .array .int) hx hb hts i_MM t_MM t_MM_ok n_MM hown hK hw h_o rfl 11 (by decide) (hts _ tw_597) rfl hnm rfl (by decide +kernel) rfl rfl (Nat.le_of_ble_eq_true rfl) d_MM_init_46 (fun M11 H locs hs ho hw => ?_)
  have h_q0 : M11 q0 = some (cI (K 0) 12 (fun _ => 0)) := (ho _ (zq_ne h_q0 h_o (by simp))).trans h_q0
  have h_q1 : M11 q1 = some (cI (K 0) 48 (fun _ => 0)) := (ho _ (zq_ne h_q1 h_o (by simp))).trans h_q1
  have h_q2 : M11 q2 = some (cI (K 0) 12 (fun _ => 0)) := (ho _ (zq_ne h_q2 h_o (by simp))).trans h_q2
  have h_q3 : M11 q3 = some (cI (K 0) 48 (fun _ => 0)) := (ho _ (zq_ne h_q3 h_o (by simp))).trans h_q3
  have h_q4 : M11 q4 = some (cI (K 0) 12 (fun _ => 0)) := (ho _ (zq_ne h_q4 h_o (by simp))).trans h_q4
  have h_o : M11 o = some (.inr (9, [.int (iI 0), .int (iI 0), .int (iI (-1)), .ref q0, .ref q1, .int (iI 0), .int (iI 0), .int (iI 0), .int (iI 0), .ref q2, .ref q3, .ref q4, .null, .int (iI 0), .null, .null, .null, .int (iI 0), .null, .int (iI 0), .null, .null, .null, .null, .int (iI 0), .null, .null, .null, .int (iI 0), .null])) := hs
  have hfr : ∀ q, M q ≠ none → q ≠ o → M11 q = M q := fun q g0 g1 => (ho q g1).trans (hfr q g0 g1)
  refine lv_aload_n hx hb d_MM_init_49 rfl (lv_at hl 0 rfl) ?_
  refine lv_bipush (v := iI 48) hx hb d_MM_init_50 (by decide) ?_
  refine zq_newI hx hb (hts _ tw_38) hK hw hA 0 rfl (N' := 48) rfl (by decide) (Nat.le_of_ble_eq_true rfl) (Nat.le_of_ble_eq_true rfl) d_MM_init_52 (fun q5 M12 H hqq5 hs ho hw => ?_)
  have hmq5 : M q5 = none := Classical.byContradiction fun z => z ((hfr q5 z (zq_nn hqq5 h_o).symm).symm.trans hqq5)
  have dd_q5_o : o ≠ q5 := zq_nn hqq5 h_o
  have dd_q5_q0 : q0 ≠ q5 := zq_nn hqq5 h_q0
  have dd_q5_q1 : q1 ≠ q5 := zq_nn hqq5 h_q1
  have dd_q5_q2 : q2 ≠ q5 := zq_nn hqq5 h_q2
  have dd_q5_q3 : q3 ≠ q5 := zq_nn hqq5 h_q3
  have dd_q5_q4 : q4 ≠ q5 := zq_nn hqq5 h_q4
  have h_o : M12 o = some (.inr (9, [.int (iI 0), .int (iI 0), .int (iI (-1)), .ref q0, .ref q1, .int (iI 0), .int (iI 0), .int (iI 0), .int (iI 0), .ref q2, .ref q3, .ref q4, .null, .int (iI 0), .null, .null, .null, .int (iI 0), .null, .int (iI 0), .null, .null, .null, .null, .int (iI 0), .null, .null, .null, .int (iI 0), .null])) := (ho _ (zq_nn hqq5 h_o)).trans h_o
  have h_q0 : M12 q0 = some (cI (K 0) 12 (fun _ => 0)) := (ho _ (zq_nn hqq5 h_q0)).trans h_q0
  have h_q1 : M12 q1 = some (cI (K 0) 48 (fun _ => 0)) := (ho _ (zq_nn hqq5 h_q1)).trans h_q1
  have h_q2 : M12 q2 = some (cI (K 0) 12 (fun _ => 0)) := (ho _ (zq_nn hqq5 h_q2)).trans h_q2
  have h_q3 : M12 q3 = some (cI (K 0) 48 (fun _ => 0)) := (ho _ (zq_nn hqq5 h_q3)).trans h_q3
  have h_q4 : M12 q4 = some (cI (K 0) 12 (fun _ => 0)) := (ho _ (zq_nn hqq5 h_q4)).trans h_q4
  have h_q5 : M12 q5 = some (cI (K 0) 48 (fun _ => 0)) := hs
  have hfr : ∀ q, M q ≠ none → q ≠ o → M12 q = M q := fun q g0 g1 => (ho q (fun z9 => g0 (by rw [z9]; exact hmq5))).trans (hfr q g0 g1)
  refine zq_putF (ci := 9) (v := .ref q5) (ty := .array .int) hx hb hts i_MM t_MM t_MM_ok n_MM hown hK hw h_o rfl 12 (by decide) (hts _ tw_598) rfl hnm rfl (by decide +kernel) rfl rfl (Nat.le_of_ble_eq_true rfl) d_MM_init_54 (fun M13 H locs hs ho hw => ?_)
  have h_q0 : M13 q0 = some (cI (K 0) 12 (fun _ => 0)) := (ho _ (zq_ne h_q0 h_o (by simp))).trans h_q0
  have h_q1 : M13 q1 = some (cI (K 0) 48 (fun _ => 0)) := (ho _ (zq_ne h_q1 h_o (by simp))).trans h_q1
  have h_q2 : M13 q2 = some (cI (K 0) 12 (fun _ => 0)) := (ho _ (zq_ne h_q2 h_o (by simp))).trans h_q2
  have h_q3 : M13 q3 = some (cI (K 0) 48 (fun _ => 0)) := (ho _ (zq_ne h_q3 h_o (by simp))).trans h_q3
  have h_q4 : M13 q4 = some (cI (K 0) 12 (fun _ => 0)) := (ho _ (zq_ne h_q4 h_o (by simp))).trans h_q4
  have h_q5 : M13 q5 = some (cI (K 0) 48 (fun _ => 0)) := (ho _ (zq_ne h_q5 h_o (by simp))).trans h_q5
  have h_o : M13 o = some (.inr (9, [.int (iI 0), .int (iI 0), .int (iI (-1)), .ref q0, .ref q1, .int (iI 0), .int (iI 0), .int (iI 0), .int (iI 0), .ref q2, .ref q3, .ref q4, .ref q5, .int (iI 0), .null, .null, .null, .int (iI 0), .null, .int (iI 0), .null, .null, .null, .null, .int (iI 0), .null, .null, .null, .int (iI 0), .null])) := hs
  have hfr : ∀ q, M q ≠ none → q ≠ o → M13 q = M q := fun q g0 g1 => (ho q g1).trans (hfr q g0 g1)
  refine lv_aload_n hx hb d_MM_init_57 rfl (lv_at hl 0 rfl) ?_
  refine lv_bipush (v := iI 48) hx hb d_MM_init_58 (by decide) ?_
  refine zq_newI hx hb (hts _ tw_38) hK hw hA 0 rfl (N' := 48) rfl (by decide) (Nat.le_of_ble_eq_true rfl) (Nat.le_of_ble_eq_true rfl) d_MM_init_60 (fun q6 M14 H hqq6 hs ho hw => ?_)
  have hmq6 : M q6 = none := Classical.byContradiction fun z => z ((hfr q6 z (zq_nn hqq6 h_o).symm).symm.trans hqq6)
  have dd_q6_o : o ≠ q6 := zq_nn hqq6 h_o
  have dd_q6_q0 : q0 ≠ q6 := zq_nn hqq6 h_q0
  have dd_q6_q1 : q1 ≠ q6 := zq_nn hqq6 h_q1
  have dd_q6_q2 : q2 ≠ q6 := zq_nn hqq6 h_q2
  have dd_q6_q3 : q3 ≠ q6 := zq_nn hqq6 h_q3
  have dd_q6_q4 : q4 ≠ q6 := zq_nn hqq6 h_q4
  have dd_q6_q5 : q5 ≠ q6 := zq_nn hqq6 h_q5
  have h_o : M14 o = some (.inr (9, [.int (iI 0), .int (iI 0), .int (iI (-1)), .ref q0, .ref q1, .int (iI 0), .int (iI 0), .int (iI 0), .int (iI 0), .ref q2, .ref q3, .ref q4, .ref q5, .int (iI 0), .null, .null, .null, .int (iI 0), .null, .int (iI 0), .null, .null, .null, .null, .int (iI 0), .null, .null, .null, .int (iI 0), .null])) := (ho _ (zq_nn hqq6 h_o)).trans h_o
  have h_q0 : M14 q0 = some (cI (K 0) 12 (fun _ => 0)) := (ho _ (zq_nn hqq6 h_q0)).trans h_q0
  have h_q1 : M14 q1 = some (cI (K 0) 48 (fun _ => 0)) := (ho _ (zq_nn hqq6 h_q1)).trans h_q1
  have h_q2 : M14 q2 = some (cI (K 0) 12 (fun _ => 0)) := (ho _ (zq_nn hqq6 h_q2)).trans h_q2
  have h_q3 : M14 q3 = some (cI (K 0) 48 (fun _ => 0)) := (ho _ (zq_nn hqq6 h_q3)).trans h_q3
  have h_q4 : M14 q4 = some (cI (K 0) 12 (fun _ => 0)) := (ho _ (zq_nn hqq6 h_q4)).trans h_q4
  have h_q5 : M14 q5 = some (cI (K 0) 48 (fun _ => 0)) := (ho _ (zq_nn hqq6 h_q5)).trans h_q5
  have h_q6 : M14 q6 = some (cI (K 0) 48 (fun _ => 0)) := hs
  have hfr : ∀ q, M q ≠ none → q ≠ o → M14 q = M q := fun q g0 g1 => (ho q (fun z9 => g0 (by rw [z9]; exact hmq6))).trans (hfr q g0 g1)
  refine zq_putF (ci := 9) (v := .ref q6) (ty := .array .int) hx hb hts i_MM t_MM t_MM_ok n_MM hown hK hw h_o rfl 14 (by decide) (hts _ tw_600) rfl hnm rfl (by decide +kernel) rfl rfl (Nat.le_of_ble_eq_true rfl) d_MM_init_62 (fun M15 H locs hs ho hw => ?_)
  have h_q0 : M15 q0 = some (cI (K 0) 12 (fun _ => 0)) := (ho _ (zq_ne h_q0 h_o (by simp))).trans h_q0
  have h_q1 : M15 q1 = some (cI (K 0) 48 (fun _ => 0)) := (ho _ (zq_ne h_q1 h_o (by simp))).trans h_q1
  have h_q2 : M15 q2 = some (cI (K 0) 12 (fun _ => 0)) := (ho _ (zq_ne h_q2 h_o (by simp))).trans h_q2
  have h_q3 : M15 q3 = some (cI (K 0) 48 (fun _ => 0)) := (ho _ (zq_ne h_q3 h_o (by simp))).trans h_q3
  have h_q4 : M15 q4 = some (cI (K 0) 12 (fun _ => 0)) := (ho _ (zq_ne h_q4 h_o (by simp))).trans h_q4
  have h_q5 : M15 q5 = some (cI (K 0) 48 (fun _ => 0)) := (ho _ (zq_ne h_q5 h_o (by simp))).trans h_q5
  have h_q6 : M15 q6 = some (cI (K 0) 48 (fun _ => 0)) := (ho _ (zq_ne h_q6 h_o (by simp))).trans h_q6
  have h_o : M15 o = some (.inr (9, [.int (iI 0), .int (iI 0), .int (iI (-1)), .ref q0, .ref q1, .int (iI 0), .int (iI 0), .int (iI 0), .int (iI 0), .ref q2, .ref q3, .ref q4, .ref q5, .int (iI 0), .ref q6, .null, .null, .int (iI 0), .null, .int (iI 0), .null, .null, .null, .null, .int (iI 0), .null, .null, .null, .int (iI 0), .null])) := hs
  have hfr : ∀ q, M q ≠ none → q ≠ o → M15 q = M q := fun q g0 g1 => (ho q g1).trans (hfr q g0 g1)
  refine lv_aload_n hx hb d_MM_init_65 rfl (lv_at hl 0 rfl) ?_
  refine lv_bipush (v := iI 48) hx hb d_MM_init_66 (by decide) ?_
  refine zq_newI hx hb (hts _ tw_38) hK hw hA 0 rfl (N' := 48) rfl (by decide) (Nat.le_of_ble_eq_true rfl) (Nat.le_of_ble_eq_true rfl) d_MM_init_68 (fun q7 M16 H hqq7 hs ho hw => ?_)
  have hmq7 : M q7 = none := Classical.byContradiction fun z => z ((hfr q7 z (zq_nn hqq7 h_o).symm).symm.trans hqq7)
  have dd_q7_o : o ≠ q7 := zq_nn hqq7 h_o
  have dd_q7_q0 : q0 ≠ q7 := zq_nn hqq7 h_q0
  have dd_q7_q1 : q1 ≠ q7 := zq_nn hqq7 h_q1
  have dd_q7_q2 : q2 ≠ q7 := zq_nn hqq7 h_q2
  have dd_q7_q3 : q3 ≠ q7 := zq_nn hqq7 h_q3
  have dd_q7_q4 : q4 ≠ q7 := zq_nn hqq7 h_q4
  have dd_q7_q5 : q5 ≠ q7 := zq_nn hqq7 h_q5
  have dd_q7_q6 : q6 ≠ q7 := zq_nn hqq7 h_q6
  have h_o : M16 o = some (.inr (9, [.int (iI 0), .int (iI 0), .int (iI (-1)), .ref q0, .ref q1, .int (iI 0), .int (iI 0), .int (iI 0), .int (iI 0), .ref q2, .ref q3, .ref q4, .ref q5, .int (iI 0), .ref q6, .null, .null, .int (iI 0), .null, .int (iI 0), .null, .null, .null, .null, .int (iI 0), .null, .null, .null, .int (iI 0), .null])) := (ho _ (zq_nn hqq7 h_o)).trans h_o
  have h_q0 : M16 q0 = some (cI (K 0) 12 (fun _ => 0)) := (ho _ (zq_nn hqq7 h_q0)).trans h_q0
  have h_q1 : M16 q1 = some (cI (K 0) 48 (fun _ => 0)) := (ho _ (zq_nn hqq7 h_q1)).trans h_q1
  have h_q2 : M16 q2 = some (cI (K 0) 12 (fun _ => 0)) := (ho _ (zq_nn hqq7 h_q2)).trans h_q2
  have h_q3 : M16 q3 = some (cI (K 0) 48 (fun _ => 0)) := (ho _ (zq_nn hqq7 h_q3)).trans h_q3
  have h_q4 : M16 q4 = some (cI (K 0) 12 (fun _ => 0)) := (ho _ (zq_nn hqq7 h_q4)).trans h_q4
  have h_q5 : M16 q5 = some (cI (K 0) 48 (fun _ => 0)) := (ho _ (zq_nn hqq7 h_q5)).trans h_q5
  have h_q6 : M16 q6 = some (cI (K 0) 48 (fun _ => 0)) := (ho _ (zq_nn hqq7 h_q6)).trans h_q6
  have h_q7 : M16 q7 = some (cI (K 0) 48 (fun _ => 0)) := hs
  have hfr : ∀ q, M q ≠ none → q ≠ o → M16 q = M q := fun q g0 g1 => (ho q (fun z9 => g0 (by rw [z9]; exact hmq7))).trans (hfr q g0 g1)
  refine zq_putF (ci := 9) (v := .ref q7) (ty := .array .int) hx hb hts i_MM t_MM t_MM_ok n_MM hown hK hw h_o rfl 15 (by decide) (hts _ tw_601) rfl hnm rfl (by decide +kernel) rfl rfl (Nat.le_of_ble_eq_true rfl) d_MM_init_70 (fun M17 H locs hs ho hw => ?_)
  have h_q0 : M17 q0 = some (cI (K 0) 12 (fun _ => 0)) := (ho _ (zq_ne h_q0 h_o (by simp))).trans h_q0
  have h_q1 : M17 q1 = some (cI (K 0) 48 (fun _ => 0)) := (ho _ (zq_ne h_q1 h_o (by simp))).trans h_q1
  have h_q2 : M17 q2 = some (cI (K 0) 12 (fun _ => 0)) := (ho _ (zq_ne h_q2 h_o (by simp))).trans h_q2
  have h_q3 : M17 q3 = some (cI (K 0) 48 (fun _ => 0)) := (ho _ (zq_ne h_q3 h_o (by simp))).trans h_q3
  have h_q4 : M17 q4 = some (cI (K 0) 12 (fun _ => 0)) := (ho _ (zq_ne h_q4 h_o (by simp))).trans h_q4
  have h_q5 : M17 q5 = some (cI (K 0) 48 (fun _ => 0)) := (ho _ (zq_ne h_q5 h_o (by simp))).trans h_q5
  have h_q6 : M17 q6 = some (cI (K 0) 48 (fun _ => 0)) := (ho _ (zq_ne h_q6 h_o (by simp))).trans h_q6
  have h_q7 : M17 q7 = some (cI (K 0) 48 (fun _ => 0)) := (ho _ (zq_ne h_q7 h_o (by simp))).trans h_q7
  have h_o : M17 o = some (.inr (9, [.int (iI 0), .int (iI 0), .int (iI (-1)), .ref q0, .ref q1, .int (iI 0), .int (iI 0), .int (iI 0), .int (iI 0), .ref q2, .ref q3, .ref q4, .ref q5, .int (iI 0), .ref q6, .ref q7, .null, .int (iI 0), .null, .int (iI 0), .null, .null, .null, .null, .int (iI 0), .null, .null, .null, .int (iI 0), .null])) := hs
  have hfr : ∀ q, M q ≠ none → q ≠ o → M17 q = M q := fun q g0 g1 => (ho q g1).trans (hfr q g0 g1)
  refine lv_aload_n hx hb d_MM_init_73 rfl (lv_at hl 0 rfl) ?_
  refine lv_bipush (v := iI 12) hx hb d_MM_init_74 (by decide) ?_
  refine zq_newI hx hb (hts _ tw_38) hK hw hA 0 rfl (N' := 12) rfl (by decide) (Nat.le_of_ble_eq_true rfl) (Nat.le_of_ble_eq_true rfl) d_MM_init_76 (fun q8 M18 H hqq8 hs ho hw => ?_)
  have hmq8 : M q8 = none := Classical.byContradiction fun z => z ((hfr q8 z (zq_nn hqq8 h_o).symm).symm.trans hqq8)
  have dd_q8_o : o ≠ q8 := zq_nn hqq8 h_o
  have dd_q8_q0 : q0 ≠ q8 := zq_nn hqq8 h_q0
  have dd_q8_q1 : q1 ≠ q8 := zq_nn hqq8 h_q1
  have dd_q8_q2 : q2 ≠ q8 := zq_nn hqq8 h_q2
  have dd_q8_q3 : q3 ≠ q8 := zq_nn hqq8 h_q3
  have dd_q8_q4 : q4 ≠ q8 := zq_nn hqq8 h_q4
  have dd_q8_q5 : q5 ≠ q8 := zq_nn hqq8 h_q5
  have dd_q8_q6 : q6 ≠ q8 := zq_nn hqq8 h_q6
  have dd_q8_q7 : q7 ≠ q8 := zq_nn hqq8 h_q7
  have h_o : M18 o = some (.inr (9, [.int (iI 0), .int (iI 0), .int (iI (-1)), .ref q0, .ref q1, .int (iI 0), .int (iI 0), .int (iI 0), .int (iI 0), .ref q2, .ref q3, .ref q4, .ref q5, .int (iI 0), .ref q6, .ref q7, .null, .int (iI 0), .null, .int (iI 0), .null, .null, .null, .null, .int (iI 0), .null, .null, .null, .int (iI 0), .null])) := (ho _ (zq_nn hqq8 h_o)).trans h_o
  have h_q0 : M18 q0 = some (cI (K 0) 12 (fun _ => 0)) := (ho _ (zq_nn hqq8 h_q0)).trans h_q0
  have h_q1 : M18 q1 = some (cI (K 0) 48 (fun _ => 0)) := (ho _ (zq_nn hqq8 h_q1)).trans h_q1
  have h_q2 : M18 q2 = some (cI (K 0) 12 (fun _ => 0)) := (ho _ (zq_nn hqq8 h_q2)).trans h_q2
  have h_q3 : M18 q3 = some (cI (K 0) 48 (fun _ => 0)) := (ho _ (zq_nn hqq8 h_q3)).trans h_q3
  have h_q4 : M18 q4 = some (cI (K 0) 12 (fun _ => 0)) := (ho _ (zq_nn hqq8 h_q4)).trans h_q4
  have h_q5 : M18 q5 = some (cI (K 0) 48 (fun _ => 0)) := (ho _ (zq_nn hqq8 h_q5)).trans h_q5
  have h_q6 : M18 q6 = some (cI (K 0) 48 (fun _ => 0)) := (ho _ (zq_nn hqq8 h_q6)).trans h_q6
  have h_q7 : M18 q7 = some (cI (K 0) 48 (fun _ => 0)) := (ho _ (zq_nn hqq8 h_q7)).trans h_q7
  have h_q8 : M18 q8 = some (cI (K 0) 12 (fun _ => 0)) := hs
  have hfr : ∀ q, M q ≠ none → q ≠ o → M18 q = M q := fun q g0 g1 => (ho q (fun z9 => g0 (by rw [z9]; exact hmq8))).trans (hfr q g0 g1)
  refine zq_putF (ci := 9) (v := .ref q8) (ty := .array .int) hx hb hts i_MM t_MM t_MM_ok n_MM hown hK hw h_o rfl 16 (by decide) (hts _ tw_602) rfl hnm rfl (by decide +kernel) rfl rfl (Nat.le_of_ble_eq_true rfl) d_MM_init_78 (fun M19 H locs hs ho hw => ?_)
  have h_q0 : M19 q0 = some (cI (K 0) 12 (fun _ => 0)) := (ho _ (zq_ne h_q0 h_o (by simp))).trans h_q0
  have h_q1 : M19 q1 = some (cI (K 0) 48 (fun _ => 0)) := (ho _ (zq_ne h_q1 h_o (by simp))).trans h_q1
  have h_q2 : M19 q2 = some (cI (K 0) 12 (fun _ => 0)) := (ho _ (zq_ne h_q2 h_o (by simp))).trans h_q2
  have h_q3 : M19 q3 = some (cI (K 0) 48 (fun _ => 0)) := (ho _ (zq_ne h_q3 h_o (by simp))).trans h_q3
  have h_q4 : M19 q4 = some (cI (K 0) 12 (fun _ => 0)) := (ho _ (zq_ne h_q4 h_o (by simp))).trans h_q4
  have h_q5 : M19 q5 = some (cI (K 0) 48 (fun _ => 0)) := (ho _ (zq_ne h_q5 h_o (by simp))).trans h_q5
  have h_q6 : M19 q6 = some (cI (K 0) 48 (fun _ => 0)) := (ho _ (zq_ne h_q6 h_o (by simp))).trans h_q6
  have h_q7 : M19 q7 = some (cI (K 0) 48 (fun _ => 0)) := (ho _ (zq_ne h_q7 h_o (by simp))).trans h_q7
  have h_q8 : M19 q8 = some (cI (K 0) 12 (fun _ => 0)) := (ho _ (zq_ne h_q8 h_o (by simp))).trans h_q8
  have h_o : M19 o = some (.inr (9, [.int (iI 0), .int (iI 0), .int (iI (-1)), .ref q0, .ref q1, .int (iI 0), .int (iI 0), .int (iI 0), .int (iI 0), .ref q2, .ref q3, .ref q4, .ref q5, .int (iI 0), .ref q6, .ref q7, .ref q8, .int (iI 0), .null, .int (iI 0), .null, .null, .null, .null, .int (iI 0), .null, .null, .null, .int (iI 0), .null])) := hs
  have hfr : ∀ q, M q ≠ none → q ≠ o → M19 q = M q := fun q g0 g1 => (ho q g1).trans (hfr q g0 g1)
  refine lv_aload_n hx hb d_MM_init_81 rfl (lv_at hl 0 rfl) ?_
  refine lv_bipush (v := iI 48) hx hb d_MM_init_82 (by decide) ?_
  refine zq_newI hx hb (hts _ tw_38) hK hw hA 0 rfl (N' := 48) rfl (by decide) (Nat.le_of_ble_eq_true rfl) (Nat.le_of_ble_eq_true rfl) d_MM_init_84 (fun q9 M20 H hqq9 hs ho hw => ?_)
  have hmq9 : M q9 = none := Classical.byContradiction fun z => z ((hfr q9 z (zq_nn hqq9 h_o).symm).symm.trans hqq9)
  have dd_q9_o : o ≠ q9 := zq_nn hqq9 h_o
  have dd_q9_q0 : q0 ≠ q9 := zq_nn hqq9 h_q0
  have dd_q9_q1 : q1 ≠ q9 := zq_nn hqq9 h_q1
  have dd_q9_q2 : q2 ≠ q9 := zq_nn hqq9 h_q2
  have dd_q9_q3 : q3 ≠ q9 := zq_nn hqq9 h_q3
  have dd_q9_q4 : q4 ≠ q9 := zq_nn hqq9 h_q4
  have dd_q9_q5 : q5 ≠ q9 := zq_nn hqq9 h_q5
  have dd_q9_q6 : q6 ≠ q9 := zq_nn hqq9 h_q6
  have dd_q9_q7 : q7 ≠ q9 := zq_nn hqq9 h_q7
  have dd_q9_q8 : q8 ≠ q9 := zq_nn hqq9 h_q8
  have h_o : M20 o = some (.inr (9, [.int (iI 0), .int (iI 0), .int (iI (-1)), .ref q0, .ref q1, .int (iI 0), .int (iI 0), .int (iI 0), .int (iI 0), .ref q2, .ref q3, .ref q4, .ref q5, .int (iI 0), .ref q6, .ref q7, .ref q8, .int (iI 0), .null, .int (iI 0), .null, .null, .null, .null, .int (iI 0), .null, .null, .null, .int (iI 0), .null])) := (ho _ (zq_nn hqq9 h_o)).trans h_o
  have h_q0 : M20 q0 = some (cI (K 0) 12 (fun _ => 0)) := (ho _ (zq_nn hqq9 h_q0)).trans h_q0
  have h_q1 : M20 q1 = some (cI (K 0) 48 (fun _ => 0)) := (ho _ (zq_nn hqq9 h_q1)).trans h_q1
  have h_q2 : M20 q2 = some (cI (K 0) 12 (fun _ => 0)) := (ho _ (zq_nn hqq9 h_q2)).trans h_q2
  have h_q3 : M20 q3 = some (cI (K 0) 48 (fun _ => 0)) := (ho _ (zq_nn hqq9 h_q3)).trans h_q3
  have h_q4 : M20 q4 = some (cI (K 0) 12 (fun _ => 0)) := (ho _ (zq_nn hqq9 h_q4)).trans h_q4
  have h_q5 : M20 q5 = some (cI (K 0) 48 (fun _ => 0)) := (ho _ (zq_nn hqq9 h_q5)).trans h_q5
  have h_q6 : M20 q6 = some (cI (K 0) 48 (fun _ => 0)) := (ho _ (zq_nn hqq9 h_q6)).trans h_q6
  have h_q7 : M20 q7 = some (cI (K 0) 48 (fun _ => 0)) := (ho _ (zq_nn hqq9 h_q7)).trans h_q7
  have h_q8 : M20 q8 = some (cI (K 0) 12 (fun _ => 0)) := (ho _ (zq_nn hqq9 h_q8)).trans h_q8
  have h_q9 : M20 q9 = some (cI (K 0) 48 (fun _ => 0)) := hs
  have hfr : ∀ q, M q ≠ none → q ≠ o → M20 q = M q := fun q g0 g1 => (ho q (fun z9 => g0 (by rw [z9]; exact hmq9))).trans (hfr q g0 g1)
  refine zq_putF (ci := 9) (v := .ref q9) (ty := .array .int) hx hb hts i_MM t_MM t_MM_ok n_MM hown hK hw h_o rfl 18 (by decide) (hts _ tw_604) rfl hnm rfl (by decide +kernel) rfl rfl (Nat.le_of_ble_eq_true rfl) d_MM_init_86 (fun M21 H locs hs ho hw => ?_)
  have h_q0 : M21 q0 = some (cI (K 0) 12 (fun _ => 0)) := (ho _ (zq_ne h_q0 h_o (by simp))).trans h_q0
  have h_q1 : M21 q1 = some (cI (K 0) 48 (fun _ => 0)) := (ho _ (zq_ne h_q1 h_o (by simp))).trans h_q1
  have h_q2 : M21 q2 = some (cI (K 0) 12 (fun _ => 0)) := (ho _ (zq_ne h_q2 h_o (by simp))).trans h_q2
  have h_q3 : M21 q3 = some (cI (K 0) 48 (fun _ => 0)) := (ho _ (zq_ne h_q3 h_o (by simp))).trans h_q3
  have h_q4 : M21 q4 = some (cI (K 0) 12 (fun _ => 0)) := (ho _ (zq_ne h_q4 h_o (by simp))).trans h_q4
  have h_q5 : M21 q5 = some (cI (K 0) 48 (fun _ => 0)) := (ho _ (zq_ne h_q5 h_o (by simp))).trans h_q5
  have h_q6 : M21 q6 = some (cI (K 0) 48 (fun _ => 0)) := (ho _ (zq_ne h_q6 h_o (by simp))).trans h_q6
  have h_q7 : M21 q7 = some (cI (K 0) 48 (fun _ => 0)) := (ho _ (zq_ne h_q7 h_o (by simp))).trans h_q7
  have h_q8 : M21 q8 = some (cI (K 0) 12 (fun _ => 0)) := (ho _ (zq_ne h_q8 h_o (by simp))).trans h_q8
  have h_q9 : M21 q9 = some (cI (K 0) 48 (fun _ => 0)) := (ho _ (zq_ne h_q9 h_o (by simp))).trans h_q9
  have h_o : M21 o = some (.inr (9, [.int (iI 0), .int (iI 0), .int (iI (-1)), .ref q0, .ref q1, .int (iI 0), .int (iI 0), .int (iI 0), .int (iI 0), .ref q2, .ref q3, .ref q4, .ref q5, .int (iI 0), .ref q6, .ref q7, .ref q8, .int (iI 0), .ref q9, .int (iI 0), .null, .null, .null, .null, .int (iI 0), .null, .null, .null, .int (iI 0), .null])) := hs
  have hfr : ∀ q, M q ≠ none → q ≠ o → M21 q = M q := fun q g0 g1 => (ho q g1).trans (hfr q g0 g1)
  refine lv_aload_n hx hb d_MM_init_89 rfl (lv_at hl 0 rfl) ?_
  refine lv_bipush (v := iI 40) hx hb d_MM_init_90 (by decide) ?_
  refine zq_newI hx hb (hts _ tw_38) hK hw hA 0 rfl (N' := 40) rfl (by decide) (Nat.le_of_ble_eq_true rfl) (Nat.le_of_ble_eq_true rfl) d_MM_init_92 (fun q10 M22 H hqq10 hs ho hw => ?_)
  have hmq10 : M q10 = none := Classical.byContradiction fun z => z ((hfr q10 z (zq_nn hqq10 h_o).symm).symm.trans hqq10)
  have dd_q10_o : o ≠ q10 := zq_nn hqq10 h_o
  have dd_q10_q0 : q0 ≠ q10 := zq_nn hqq10 h_q0
  have dd_q10_q1 : q1 ≠ q10 := zq_nn hqq10 h_q1
  have dd_q10_q2 : q2 ≠ q10 := zq_nn hqq10 h_q2
  have dd_q10_q3 : q3 ≠ q10 := zq_nn hqq10 h_q3
  have dd_q10_q4 : q4 ≠ q10 := zq_nn hqq10 h_q4
  have dd_q10_q5 : q5 ≠ q10 := zq_nn hqq10 h_q5
  have dd_q10_q6 : q6 ≠ q10 := zq_nn hqq10 h_q6
  have dd_q10_q7 : q7 ≠ q10 := zq_nn hqq10 h_q7
  have dd_q10_q8 : q8 ≠ q10 := zq_nn hqq10 h_q8
  have dd_q10_q9 : q9 ≠ q10 := zq_nn hqq10 h_q9
  have h_o : M22 o = some (.inr (9, [.int (iI 0), .int (iI 0), .int (iI (-1)), .ref q0, .ref q1, .int (iI 0), .int (iI 0), .int (iI 0), .int (iI 0), .ref q2, .ref q3, .ref q4, .ref q5, .int (iI 0), .ref q6, .ref q7, .ref q8, .int (iI 0), .ref q9, .int (iI 0), .null, .null, .null, .null, .int (iI 0), .null, .null, .null, .int (iI 0), .null])) := (ho _ (zq_nn hqq10 h_o)).trans h_o
  have h_q0 : M22 q0 = some (cI (K 0) 12 (fun _ => 0)) := (ho _ (zq_nn hqq10 h_q0)).trans h_q0
  have h_q1 : M22 q1 = some (cI (K 0) 48 (fun _ => 0)) := (ho _ (zq_nn hqq10 h_q1)).trans h_q1
  have h_q2 : M22 q2 = some (cI (K 0) 12 (fun _ => 0)) := (ho _ (zq_nn hqq10 h_q2)).trans h_q2
  have h_q3 : M22 q3 = some (cI (K 0) 48 (fun _ => 0)) := (ho _ (zq_nn hqq10 h_q3)).trans h_q3
  have h_q4 : M22 q4 = some (cI (K 0) 12 (fun _ => 0)) := (ho _ (zq_nn hqq10 h_q4)).trans h_q4
  have h_q5 : M22 q5 = some (cI (K 0) 48 (fun _ => 0)) := (ho _ (zq_nn hqq10 h_q5)).trans h_q5
  have h_q6 : M22 q6 = some (cI (K 0) 48 (fun _ => 0)) := (ho _ (zq_nn hqq10 h_q6)).trans h_q6
  have h_q7 : M22 q7 = some (cI (K 0) 48 (fun _ => 0)) := (ho _ (zq_nn hqq10 h_q7)).trans h_q7
  have h_q8 : M22 q8 = some (cI (K 0) 12 (fun _ => 0)) := (ho _ (zq_nn hqq10 h_q8)).trans h_q8
  have h_q9 : M22 q9 = some (cI (K 0) 48 (fun _ => 0)) := (ho _ (zq_nn hqq10 h_q9)).trans h_q9
  have h_q10 : M22 q10 = some (cI (K 0) 40 (fun _ => 0)) := hs
  have hfr : ∀ q, M q ≠ none → q ≠ o → M22 q = M q := fun q g0 g1 => (ho q (fun z9 => g0 (by rw [z9]; exact hmq10))).trans (hfr q g0 g1)
  refine zq_putF (ci := 9) (v := .ref q10) (ty := .array .int) hx hb hts i_MM t_MM t_MM_ok n_MM hown hK hw h_o rfl 20 (by decide) (hts _ tw_606) rfl hnm rfl (by decide +kernel) rfl rfl (Nat.le_of_ble_eq_true rfl) d_MM_init_94 (fun M23 H locs hs ho hw => ?_)
  have h_q0 : M23 q0 = some (cI (K 0) 12 (fun _ => 0)) := (ho _ (zq_ne h_q0 h_o (by simp))).trans h_q0
  have h_q1 : M23 q1 = some (cI (K 0) 48 (fun _ => 0)) := (ho _ (zq_ne h_q1 h_o (by simp))).trans h_q1
  have h_q2 : M23 q2 = some (cI (K 0) 12 (fun _ => 0)) := (ho _ (zq_ne h_q2 h_o (by simp))).trans h_q2
  have h_q3 : M23 q3 = some (cI (K 0) 48 (fun _ => 0)) := (ho _ (zq_ne h_q3 h_o (by simp))).trans h_q3
  have h_q4 : M23 q4 = some (cI (K 0) 12 (fun _ => 0)) := (ho _ (zq_ne h_q4 h_o (by simp))).trans h_q4
  have h_q5 : M23 q5 = some (cI (K 0) 48 (fun _ => 0)) := (ho _ (zq_ne h_q5 h_o (by simp))).trans h_q5
  have h_q6 : M23 q6 = some (cI (K 0) 48 (fun _ => 0)) := (ho _ (zq_ne h_q6 h_o (by simp))).trans h_q6
  have h_q7 : M23 q7 = some (cI (K 0) 48 (fun _ => 0)) := (ho _ (zq_ne h_q7 h_o (by simp))).trans h_q7
  have h_q8 : M23 q8 = some (cI (K 0) 12 (fun _ => 0)) := (ho _ (zq_ne h_q8 h_o (by simp))).trans h_q8
  have h_q9 : M23 q9 = some (cI (K 0) 48 (fun _ => 0)) := (ho _ (zq_ne h_q9 h_o (by simp))).trans h_q9
  have h_q10 : M23 q10 = some (cI (K 0) 40 (fun _ => 0)) := (ho _ (zq_ne h_q10 h_o (by simp))).trans h_q10
  have h_o : M23 o = some (.inr (9, [.int (iI 0), .int (iI 0), .int (iI (-1)), .ref q0, .ref q1, .int (iI 0), .int (iI 0), .int (iI 0), .int (iI 0), .ref q2, .ref q3, .ref q4, .ref q5, .int (iI 0), .ref q6, .ref q7, .ref q8, .int (iI 0), .ref q9, .int (iI 0), .ref q10, .null, .null, .null, .int (iI 0), .null, .null, .null, .int (iI 0), .null])) := hs
  have hfr : ∀ q, M q ≠ none → q ≠ o → M23 q = M q := fun q g0 g1 => (ho q g1).trans (hfr q g0 g1)
  refine lv_aload_n hx hb d_MM_init_97 rfl (lv_at hl 0 rfl) ?_
  refine lv_sipush (v := iI 384) hx hb d_MM_init_98 (by decide) ?_
  refine zq_newI hx hb (hts _ tw_38) hK hw hA 0 rfl (N' := 384) rfl (by decide) (Nat.le_of_ble_eq_true rfl) (Nat.le_of_ble_eq_true rfl) d_MM_init_101 (fun q11 M24 H hqq11 hs ho hw => ?_)
  have hmq11 : M q11 = none := Classical.byContradiction fun z => z ((hfr q11 z (zq_nn hqq11 h_o).symm).symm.trans hqq11)
  have dd_q11_o : o ≠ q11 := zq_nn hqq11 h_o
  have dd_q11_q0 : q0 ≠ q11 := zq_nn hqq11 h_q0
  have dd_q11_q1 : q1 ≠ q11 := zq_nn hqq11 h_q1
  have dd_q11_q2 : q2 ≠ q11 := zq_nn hqq11 h_q2
  have dd_q11_q3 : q3 ≠ q11 := zq_nn hqq11 h_q3
  have dd_q11_q4 : q4 ≠ q11 := zq_nn hqq11 h_q4
  have dd_q11_q5 : q5 ≠ q11 := zq_nn hqq11 h_q5
  have dd_q11_q6 : q6 ≠ q11 := zq_nn hqq11 h_q6
  have dd_q11_q7 : q7 ≠ q11 := zq_nn hqq11 h_q7
  have dd_q11_q8 : q8 ≠ q11 := zq_nn hqq11 h_q8
  have dd_q11_q9 : q9 ≠ q11 := zq_nn hqq11 h_q9
  have dd_q11_q10 : q10 ≠ q11 := zq_nn hqq11 h_q10
  have h_o : M24 o = some (.inr (9, [.int (iI 0), .int (iI 0), .int (iI (-1)), .ref q0, .ref q1, .int (iI 0), .int (iI 0), .int (iI 0), .int (iI 0), .ref q2, .ref q3, .ref q4, .ref q5, .int (iI 0), .ref q6, .ref q7, .ref q8, .int (iI 0), .ref q9, .int (iI 0), .ref q10, .null, .null, .null, .int (iI 0), .null, .null, .null, .int (iI 0), .null])) := (ho _ (zq_nn hqq11 h_o)).trans h_o
  have h_q0 : M24 q0 = some (cI (K 0) 12 (fun _ => 0)) := (ho _ (zq_nn hqq11 h_q0)).trans h_q0
  have h_q1 : M24 q1 = some (cI (K 0) 48 (fun _ => 0)) := (ho _ (zq_nn hqq11 h_q1)).trans h_q1
  have h_q2 : M24 q2 = some (cI (K 0) 12 (fun _ => 0)) := (ho _ (zq_nn hqq11 h_q2)).trans h_q2
  have h_q3 : M24 q3 = some (cI (K 0) 48 (fun _ => 0)) := (ho _ (zq_nn hqq11 h_q3)).trans h_q3
  have h_q4 : M24 q4 = some (cI (K 0) 12 (fun _ => 0)) := (ho _ (zq_nn hqq11 h_q4)).trans h_q4
  have h_q5 : M24 q5 = some (cI (K 0) 48 (fun _ => 0)) := (ho _ (zq_nn hqq11 h_q5)).trans h_q5
  have h_q6 : M24 q6 = some (cI (K 0) 48 (fun _ => 0)) := (ho _ (zq_nn hqq11 h_q6)).trans h_q6
  have h_q7 : M24 q7 = some (cI (K 0) 48 (fun _ => 0)) := (ho _ (zq_nn hqq11 h_q7)).trans h_q7
  have h_q8 : M24 q8 = some (cI (K 0) 12 (fun _ => 0)) := (ho _ (zq_nn hqq11 h_q8)).trans h_q8
  have h_q9 : M24 q9 = some (cI (K 0) 48 (fun _ => 0)) := (ho _ (zq_nn hqq11 h_q9)).trans h_q9
  have h_q10 : M24 q10 = some (cI (K 0) 40 (fun _ => 0)) := (ho _ (zq_nn hqq11 h_q10)).trans h_q10
  have h_q11 : M24 q11 = some (cI (K 0) 384 (fun _ => 0)) := hs
  have hfr : ∀ q, M q ≠ none → q ≠ o → M24 q = M q := fun q g0 g1 => (ho q (fun z9 => g0 (by rw [z9]; exact hmq11))).trans (hfr q g0 g1)
  refine zq_putF (ci := 9) (v := .ref q11) (ty := .array .int) hx hb hts i_MM t_MM t_MM_ok n_MM hown hK hw h_o rfl 21 (by decide) (hts _ tw_607) rfl hnm rfl (by decide +kernel) rfl rfl (Nat.le_of_ble_eq_true rfl) d_MM_init_103 (fun M25 H locs hs ho hw => ?_)
  have h_q0 : M25 q0 = some (cI (K 0) 12 (fun _ => 0)) := (ho _ (zq_ne h_q0 h_o (by simp))).trans h_q0
  have h_q1 : M25 q1 = some (cI (K 0) 48 (fun _ => 0)) := (ho _ (zq_ne h_q1 h_o (by simp))).trans h_q1
  have h_q2 : M25 q2 = some (cI (K 0) 12 (fun _ => 0)) := (ho _ (zq_ne h_q2 h_o (by simp))).trans h_q2
  have h_q3 : M25 q3 = some (cI (K 0) 48 (fun _ => 0)) := (ho _ (zq_ne h_q3 h_o (by simp))).trans h_q3
  have h_q4 : M25 q4 = some (cI (K 0) 12 (fun _ => 0)) := (ho _ (zq_ne h_q4 h_o (by simp))).trans h_q4
  have h_q5 : M25 q5 = some (cI (K 0) 48 (fun _ => 0)) := (ho _ (zq_ne h_q5 h_o (by simp))).trans h_q5
  have h_q6 : M25 q6 = some (cI (K 0) 48 (fun _ => 0)) := (ho _ (zq_ne h_q6 h_o (by simp))).trans h_q6
  have h_q7 : M25 q7 = some (cI (K 0) 48 (fun _ => 0)) := (ho _ (zq_ne h_q7 h_o (by simp))).trans h_q7
  have h_q8 : M25 q8 = some (cI (K 0) 12 (fun _ => 0)) := (ho _ (zq_ne h_q8 h_o (by simp))).trans h_q8
  have h_q9 : M25 q9 = some (cI (K 0) 48 (fun _ => 0)) := (ho _ (zq_ne h_q9 h_o (by simp))).trans h_q9
  have h_q10 : M25 q10 = some (cI (K 0) 40 (fun _ => 0)) := (ho _ (zq_ne h_q10 h_o (by simp))).trans h_q10
  have h_q11 : M25 q11 = some (cI (K 0) 384 (fun _ => 0)) := (ho _ (zq_ne h_q11 h_o (by simp))).trans h_q11
  have h_o : M25 o = some (.inr (9, [.int (iI 0), .int (iI 0), .int (iI (-1)), .ref q0, .ref q1, .int (iI 0), .int (iI 0), .int (iI 0), .int (iI 0), .ref q2, .ref q3, .ref q4, .ref q5, .int (iI 0), .ref q6, .ref q7, .ref q8, .int (iI 0), .ref q9, .int (iI 0), .ref q10, .ref q11, .null, .null, .int (iI 0), .null, .null, .null, .int (iI 0), .null])) := hs
  have hfr : ∀ q, M q ≠ none → q ≠ o → M25 q = M q := fun q g0 g1 => (ho q g1).trans (hfr q g0 g1)
  refine lv_aload_n hx hb d_MM_init_106 rfl (lv_at hl 0 rfl) ?_
  refine lv_sipush (v := iI 384) hx hb d_MM_init_107 (by decide) ?_
  refine zq_newI hx hb (hts _ tw_38) hK hw hA 0 rfl (N' := 384) rfl (by decide) (Nat.le_of_ble_eq_true rfl) (Nat.le_of_ble_eq_true rfl) d_MM_init_110 (fun q12 M26 H hqq12 hs ho hw => ?_)
  have hmq12 : M q12 = none := Classical.byContradiction fun z => z ((hfr q12 z (zq_nn hqq12 h_o).symm).symm.trans hqq12)
  have dd_q12_o : o ≠ q12 := zq_nn hqq12 h_o
  have dd_q12_q0 : q0 ≠ q12 := zq_nn hqq12 h_q0
  have dd_q12_q1 : q1 ≠ q12 := zq_nn hqq12 h_q1
  have dd_q12_q2 : q2 ≠ q12 := zq_nn hqq12 h_q2
  have dd_q12_q3 : q3 ≠ q12 := zq_nn hqq12 h_q3
  have dd_q12_q4 : q4 ≠ q12 := zq_nn hqq12 h_q4
  have dd_q12_q5 : q5 ≠ q12 := zq_nn hqq12 h_q5
  have dd_q12_q6 : q6 ≠ q12 := zq_nn hqq12 h_q6
  have dd_q12_q7 : q7 ≠ q12 := zq_nn hqq12 h_q7
  have dd_q12_q8 : q8 ≠ q12 := zq_nn hqq12 h_q8
  have dd_q12_q9 : q9 ≠ q12 := zq_nn hqq12 h_q9
  have dd_q12_q10 : q10 ≠ q12 := zq_nn hqq12 h_q10
  have dd_q12_q11 : q11 ≠ q12 := zq_nn hqq12 h_q11
  have h_o : M26 o = some (.inr (9, [.int (iI 0), .int (iI 0), .int (iI (-1)), .ref q0, .ref q1, .int (iI 0), .int (iI 0), .int (iI 0), .int (iI 0), .ref q2, .ref q3, .ref q4, .ref q5, .int (iI 0), .ref q6, .ref q7, .ref q8, .int (iI 0), .ref q9, .int (iI 0), .ref q10, .ref q11, .null, .null, .int (iI 0), .null, .null, .null, .int (iI 0), .null])) := (ho _ (zq_nn hqq12 h_o)).trans h_o
  have h_q0 : M26 q0 = some (cI (K 0) 12 (fun _ => 0)) := (ho _ (zq_nn hqq12 h_q0)).trans h_q0
  have h_q1 : M26 q1 = some (cI (K 0) 48 (fun _ => 0)) := (ho _ (zq_nn hqq12 h_q1)).trans h_q1
  have h_q2 : M26 q2 = some (cI (K 0) 12 (fun _ => 0)) := (ho _ (zq_nn hqq12 h_q2)).trans h_q2
  have h_q3 : M26 q3 = some (cI (K 0) 48 (fun _ => 0)) := (ho _ (zq_nn hqq12 h_q3)).trans h_q3
  have h_q4 : M26 q4 = some (cI (K 0) 12 (fun _ => 0)) := (ho _ (zq_nn hqq12 h_q4)).trans h_q4
  have h_q5 : M26 q5 = some (cI (K 0) 48 (fun _ => 0)) := (ho _ (zq_nn hqq12 h_q5)).trans h_q5
  have h_q6 : M26 q6 = some (cI (K 0) 48 (fun _ => 0)) := (ho _ (zq_nn hqq12 h_q6)).trans h_q6
  have h_q7 : M26 q7 = some (cI (K 0) 48 (fun _ => 0)) := (ho _ (zq_nn hqq12 h_q7)).trans h_q7
  have h_q8 : M26 q8 = some (cI (K 0) 12 (fun _ => 0)) := (ho _ (zq_nn hqq12 h_q8)).trans h_q8
  have h_q9 : M26 q9 = some (cI (K 0) 48 (fun _ => 0)) := (ho _ (zq_nn hqq12 h_q9)).trans h_q9
  have h_q10 : M26 q10 = some (cI (K 0) 40 (fun _ => 0)) := (ho _ (zq_nn hqq12 h_q10)).trans h_q10
  have h_q11 : M26 q11 = some (cI (K 0) 384 (fun _ => 0)) := (ho _ (zq_nn hqq12 h_q11)).trans h_q11
  have h_q12 : M26 q12 = some (cI (K 0) 384 (fun _ => 0)) := hs
  have hfr : ∀ q, M q ≠ none → q ≠ o → M26 q = M q := fun q g0 g1 => (ho q (fun z9 => g0 (by rw [z9]; exact hmq12))).trans (hfr q g0 g1)
  refine zq_putF (ci := 9) (v := .ref q12) (ty := .array .int) hx hb hts i_MM t_MM t_MM_ok n_MM hown hK hw h_o rfl 22 (by decide) (hts _ tw_608) rfl hnm rfl (by decide +kernel) rfl rfl (Nat.le_of_ble_eq_true rfl) d_MM_init_112 (fun M27 H locs hs ho hw => ?_)
  have h_q0 : M27 q0 = some (cI (K 0) 12 (fun _ => 0)) := (ho _ (zq_ne h_q0 h_o (by simp))).trans h_q0
  have h_q1 : M27 q1 = some (cI (K 0) 48 (fun _ => 0)) := (ho _ (zq_ne h_q1 h_o (by simp))).trans h_q1
  have h_q2 : M27 q2 = some (cI (K 0) 12 (fun _ => 0)) := (ho _ (zq_ne h_q2 h_o (by simp))).trans h_q2
  have h_q3 : M27 q3 = some (cI (K 0) 48 (fun _ => 0)) := (ho _ (zq_ne h_q3 h_o (by simp))).trans h_q3
  have h_q4 : M27 q4 = some (cI (K 0) 12 (fun _ => 0)) := (ho _ (zq_ne h_q4 h_o (by simp))).trans h_q4
  have h_q5 : M27 q5 = some (cI (K 0) 48 (fun _ => 0)) := (ho _ (zq_ne h_q5 h_o (by simp))).trans h_q5
  have h_q6 : M27 q6 = some (cI (K 0) 48 (fun _ => 0)) := (ho _ (zq_ne h_q6 h_o (by simp))).trans h_q6
  have h_q7 : M27 q7 = some (cI (K 0) 48 (fun _ => 0)) := (ho _ (zq_ne h_q7 h_o (by simp))).trans h_q7
  have h_q8 : M27 q8 = some (cI (K 0) 12 (fun _ => 0)) := (ho _ (zq_ne h_q8 h_o (by simp))).trans h_q8
  have h_q9 : M27 q9 = some (cI (K 0) 48 (fun _ => 0)) := (ho _ (zq_ne h_q9 h_o (by simp))).trans h_q9
  have h_q10 : M27 q10 = some (cI (K 0) 40 (fun _ => 0)) := (ho _ (zq_ne h_q10 h_o (by simp))).trans h_q10
  have h_q11 : M27 q11 = some (cI (K 0) 384 (fun _ => 0)) := (ho _ (zq_ne h_q11 h_o (by simp))).trans h_q11
  have h_q12 : M27 q12 = some (cI (K 0) 384 (fun _ => 0)) := (ho _ (zq_ne h_q12 h_o (by simp))).trans h_q12
  have h_o : M27 o = some (.inr (9, [.int (iI 0), .int (iI 0), .int (iI (-1)), .ref q0, .ref q1, .int (iI 0), .int (iI 0), .int (iI 0), .int (iI 0), .ref q2, .ref q3, .ref q4, .ref q5, .int (iI 0), .ref q6, .ref q7, .ref q8, .int (iI 0), .ref q9, .int (iI 0), .ref q10, .ref q11, .ref q12, .null, .int (iI 0), .null, .null, .null, .int (iI 0), .null])) := hs
  have hfr : ∀ q, M q ≠ none → q ≠ o → M27 q = M q := fun q g0 g1 => (ho q g1).trans (hfr q g0 g1)
  refine lv_aload_n hx hb d_MM_init_115 rfl (lv_at hl 0 rfl) ?_
  refine lv_ldc (v := iI 114688) hx hb hown (hts _ tw_586) d_MM_init_116 ?_
  refine zq_newJ hx hb (hts _ tw_128) hK hw hA 1 rfl (N' := 114688) rfl (by decide) (Nat.le_of_ble_eq_true rfl) (Nat.le_of_ble_eq_true rfl) d_MM_init_118 (fun q13 M28 H hqq13 hs ho hw => ?_)
  have hmq13 : M q13 = none := Classical.byContradiction fun z => z ((hfr q13 z (zq_nn hqq13 h_o).symm).symm.trans hqq13)
  have dd_q13_o : o ≠ q13 := zq_nn hqq13 h_o
  have dd_q13_q0 : q0 ≠ q13 := zq_nn hqq13 h_q0
  have dd_q13_q1 : q1 ≠ q13 := zq_nn hqq13 h_q1
  have dd_q13_q2 : q2 ≠ q13 := zq_nn hqq13 h_q2
  have dd_q13_q3 : q3 ≠ q13 := zq_nn hqq13 h_q3
  have dd_q13_q4 : q4 ≠ q13 := zq_nn hqq13 h_q4
  have dd_q13_q5 : q5 ≠ q13 := zq_nn hqq13 h_q5
  have dd_q13_q6 : q6 ≠ q13 := zq_nn hqq13 h_q6
  have dd_q13_q7 : q7 ≠ q13 := zq_nn hqq13 h_q7
  have dd_q13_q8 : q8 ≠ q13 := zq_nn hqq13 h_q8
  have dd_q13_q9 : q9 ≠ q13 := zq_nn hqq13 h_q9
  have dd_q13_q10 : q10 ≠ q13 := zq_nn hqq13 h_q10
  have dd_q13_q11 : q11 ≠ q13 := zq_nn hqq13 h_q11
  have dd_q13_q12 : q12 ≠ q13 := zq_nn hqq13 h_q12
  have h_o : M28 o = some (.inr (9, [.int (iI 0), .int (iI 0), .int (iI (-1)), .ref q0, .ref q1, .int (iI 0), .int (iI 0), .int (iI 0), .int (iI 0), .ref q2, .ref q3, .ref q4, .ref q5, .int (iI 0), .ref q6, .ref q7, .ref q8, .int (iI 0), .ref q9, .int (iI 0), .ref q10, .ref q11, .ref q12, .null, .int (iI 0), .null, .null, .null, .int (iI 0), .null])) := (ho _ (zq_nn hqq13 h_o)).trans h_o
  have h_q0 : M28 q0 = some (cI (K 0) 12 (fun _ => 0)) := (ho _ (zq_nn hqq13 h_q0)).trans h_q0
  have h_q1 : M28 q1 = some (cI (K 0) 48 (fun _ => 0)) := (ho _ (zq_nn hqq13 h_q1)).trans h_q1
  have h_q2 : M28 q2 = some (cI (K 0) 12 (fun _ => 0)) := (ho _ (zq_nn hqq13 h_q2)).trans h_q2
  have h_q3 : M28 q3 = some (cI (K 0) 48 (fun _ => 0)) := (ho _ (zq_nn hqq13 h_q3)).trans h_q3
  have h_q4 : M28 q4 = some (cI (K 0) 12 (fun _ => 0)) := (ho _ (zq_nn hqq13 h_q4)).trans h_q4
  have h_q5 : M28 q5 = some (cI (K 0) 48 (fun _ => 0)) := (ho _ (zq_nn hqq13 h_q5)).trans h_q5
  have h_q6 : M28 q6 = some (cI (K 0) 48 (fun _ => 0)) := (ho _ (zq_nn hqq13 h_q6)).trans h_q6
  have h_q7 : M28 q7 = some (cI (K 0) 48 (fun _ => 0)) := (ho _ (zq_nn hqq13 h_q7)).trans h_q7
  have h_q8 : M28 q8 = some (cI (K 0) 12 (fun _ => 0)) := (ho _ (zq_nn hqq13 h_q8)).trans h_q8
  have h_q9 : M28 q9 = some (cI (K 0) 48 (fun _ => 0)) := (ho _ (zq_nn hqq13 h_q9)).trans h_q9
  have h_q10 : M28 q10 = some (cI (K 0) 40 (fun _ => 0)) := (ho _ (zq_nn hqq13 h_q10)).trans h_q10
  have h_q11 : M28 q11 = some (cI (K 0) 384 (fun _ => 0)) := (ho _ (zq_nn hqq13 h_q11)).trans h_q11
  have h_q12 : M28 q12 = some (cI (K 0) 384 (fun _ => 0)) := (ho _ (zq_nn hqq13 h_q12)).trans h_q12
  have h_q13 : M28 q13 = some (cJ (K 1) 114688 (fun _ => 0)) := hs
  have hfr : ∀ q, M q ≠ none → q ≠ o → M28 q = M q := fun q g0 g1 => (ho q (fun z9 => g0 (by rw [z9]; exact hmq13))).trans (hfr q g0 g1)
  refine zq_putF (ci := 9) (v := .ref q13) (ty := .array .long) hx hb hts i_MM t_MM t_MM_ok n_MM hown hK hw h_o rfl 23 (by decide) (hts _ tw_609) rfl hnm rfl (by decide +kernel) rfl rfl (Nat.le_of_ble_eq_true rfl) d_MM_init_120 (fun M29 H locs hs ho hw => ?_)
  have h_q0 : M29 q0 = some (cI (K 0) 12 (fun _ => 0)) := (ho _ (zq_ne h_q0 h_o (by simp))).trans h_q0
  have h_q1 : M29 q1 = some (cI (K 0) 48 (fun _ => 0)) := (ho _ (zq_ne h_q1 h_o (by simp))).trans h_q1
  have h_q2 : M29 q2 = some (cI (K 0) 12 (fun _ => 0)) := (ho _ (zq_ne h_q2 h_o (by simp))).trans h_q2
  have h_q3 : M29 q3 = some (cI (K 0) 48 (fun _ => 0)) := (ho _ (zq_ne h_q3 h_o (by simp))).trans h_q3
  have h_q4 : M29 q4 = some (cI (K 0) 12 (fun _ => 0)) := (ho _ (zq_ne h_q4 h_o (by simp))).trans h_q4
  have h_q5 : M29 q5 = some (cI (K 0) 48 (fun _ => 0)) := (ho _ (zq_ne h_q5 h_o (by simp))).trans h_q5
  have h_q6 : M29 q6 = some (cI (K 0) 48 (fun _ => 0)) := (ho _ (zq_ne h_q6 h_o (by simp))).trans h_q6
  have h_q7 : M29 q7 = some (cI (K 0) 48 (fun _ => 0)) := (ho _ (zq_ne h_q7 h_o (by simp))).trans h_q7
  have h_q8 : M29 q8 = some (cI (K 0) 12 (fun _ => 0)) := (ho _ (zq_ne h_q8 h_o (by simp))).trans h_q8
  have h_q9 : M29 q9 = some (cI (K 0) 48 (fun _ => 0)) := (ho _ (zq_ne h_q9 h_o (by simp))).trans h_q9
  have h_q10 : M29 q10 = some (cI (K 0) 40 (fun _ => 0)) := (ho _ (zq_ne h_q10 h_o (by simp))).trans h_q10
  have h_q11 : M29 q11 = some (cI (K 0) 384 (fun _ => 0)) := (ho _ (zq_ne h_q11 h_o (by simp))).trans h_q11
  have h_q12 : M29 q12 = some (cI (K 0) 384 (fun _ => 0)) := (ho _ (zq_ne h_q12 h_o (by simp))).trans h_q12
  have h_q13 : M29 q13 = some (cJ (K 1) 114688 (fun _ => 0)) := (ho _ (zq_ne h_q13 h_o (by simp))).trans h_q13
  have h_o : M29 o = some (.inr (9, [.int (iI 0), .int (iI 0), .int (iI (-1)), .ref q0, .ref q1, .int (iI 0), .int (iI 0), .int (iI 0), .int (iI 0), .ref q2, .ref q3, .ref q4, .ref q5, .int (iI 0), .ref q6, .ref q7, .ref q8, .int (iI 0), .ref q9, .int (iI 0), .ref q10, .ref q11, .ref q12, .ref q13, .int (iI 0), .null, .null, .null, .int (iI 0), .null])) := hs
  have hfr : ∀ q, M q ≠ none → q ≠ o → M29 q = M q := fun q g0 g1 => (ho q g1).trans (hfr q g0 g1)
  refine lv_aload_n hx hb d_MM_init_123 rfl (lv_at hl 0 rfl) ?_
  refine lv_sipush (v := iI 2100) hx hb d_MM_init_124 (by decide) ?_
  refine zq_newJ hx hb (hts _ tw_128) hK hw hA 1 rfl (N' := 2100) rfl (by decide) (Nat.le_of_ble_eq_true rfl) (Nat.le_of_ble_eq_true rfl) d_MM_init_127 (fun q14 M30 H hqq14 hs ho hw => ?_)
  have hmq14 : M q14 = none := Classical.byContradiction fun z => z ((hfr q14 z (zq_nn hqq14 h_o).symm).symm.trans hqq14)
  have dd_q14_o : o ≠ q14 := zq_nn hqq14 h_o
  have dd_q14_q0 : q0 ≠ q14 := zq_nn hqq14 h_q0
  have dd_q14_q1 : q1 ≠ q14 := zq_nn hqq14 h_q1
  have dd_q14_q2 : q2 ≠ q14 := zq_nn hqq14 h_q2
  have dd_q14_q3 : q3 ≠ q14 := zq_nn hqq14 h_q3
  have dd_q14_q4 : q4 ≠ q14 := zq_nn hqq14 h_q4
  have dd_q14_q5 : q5 ≠ q14 := zq_nn hqq14 h_q5
  have dd_q14_q6 : q6 ≠ q14 := zq_nn hqq14 h_q6
  have dd_q14_q7 : q7 ≠ q14 := zq_nn hqq14 h_q7
  have dd_q14_q8 : q8 ≠ q14 := zq_nn hqq14 h_q8
  have dd_q14_q9 : q9 ≠ q14 := zq_nn hqq14 h_q9
  have dd_q14_q10 : q10 ≠ q14 := zq_nn hqq14 h_q10
  have dd_q14_q11 : q11 ≠ q14 := zq_nn hqq14 h_q11
  have dd_q14_q12 : q12 ≠ q14 := zq_nn hqq14 h_q12
  have dd_q14_q13 : q13 ≠ q14 := zq_nn hqq14 h_q13
  have h_o : M30 o = some (.inr (9, [.int (iI 0), .int (iI 0), .int (iI (-1)), .ref q0, .ref q1, .int (iI 0), .int (iI 0), .int (iI 0), .int (iI 0), .ref q2, .ref q3, .ref q4, .ref q5, .int (iI 0), .ref q6, .ref q7, .ref q8, .int (iI 0), .ref q9, .int (iI 0), .ref q10, .ref q11, .ref q12, .ref q13, .int (iI 0), .null, .null, .null, .int (iI 0), .null])) := (ho _ (zq_nn hqq14 h_o)).trans h_o
  have h_q0 : M30 q0 = some (cI (K 0) 12 (fun _ => 0)) := (ho _ (zq_nn hqq14 h_q0)).trans h_q0
  have h_q1 : M30 q1 = some (cI (K 0) 48 (fun _ => 0)) := (ho _ (zq_nn hqq14 h_q1)).trans h_q1
  have h_q2 : M30 q2 = some (cI (K 0) 12 (fun _ => 0)) := (ho _ (zq_nn hqq14 h_q2)).trans h_q2
  have h_q3 : M30 q3 = some (cI (K 0) 48 (fun _ => 0)) := (ho _ (zq_nn hqq14 h_q3)).trans h_q3
  have h_q4 : M30 q4 = some (cI (K 0) 12 (fun _ => 0)) := (ho _ (zq_nn hqq14 h_q4)).trans h_q4
  have h_q5 : M30 q5 = some (cI (K 0) 48 (fun _ => 0)) := (ho _ (zq_nn hqq14 h_q5)).trans h_q5
  have h_q6 : M30 q6 = some (cI (K 0) 48 (fun _ => 0)) := (ho _ (zq_nn hqq14 h_q6)).trans h_q6
  have h_q7 : M30 q7 = some (cI (K 0) 48 (fun _ => 0)) := (ho _ (zq_nn hqq14 h_q7)).trans h_q7
  have h_q8 : M30 q8 = some (cI (K 0) 12 (fun _ => 0)) := (ho _ (zq_nn hqq14 h_q8)).trans h_q8
  have h_q9 : M30 q9 = some (cI (K 0) 48 (fun _ => 0)) := (ho _ (zq_nn hqq14 h_q9)).trans h_q9
  have h_q10 : M30 q10 = some (cI (K 0) 40 (fun _ => 0)) := (ho _ (zq_nn hqq14 h_q10)).trans h_q10
  have h_q11 : M30 q11 = some (cI (K 0) 384 (fun _ => 0)) := (ho _ (zq_nn hqq14 h_q11)).trans h_q11
  have h_q12 : M30 q12 = some (cI (K 0) 384 (fun _ => 0)) := (ho _ (zq_nn hqq14 h_q12)).trans h_q12
  have h_q13 : M30 q13 = some (cJ (K 1) 114688 (fun _ => 0)) := (ho _ (zq_nn hqq14 h_q13)).trans h_q13
  have h_q14 : M30 q14 = some (cJ (K 1) 2100 (fun _ => 0)) := hs
  have hfr : ∀ q, M q ≠ none → q ≠ o → M30 q = M q := fun q g0 g1 => (ho q (fun z9 => g0 (by rw [z9]; exact hmq14))).trans (hfr q g0 g1)
  refine zq_putF (ci := 9) (v := .ref q14) (ty := .array .long) hx hb hts i_MM t_MM t_MM_ok n_MM hown hK hw h_o rfl 25 (by decide) (hts _ tw_611) rfl hnm rfl (by decide +kernel) rfl rfl (Nat.le_of_ble_eq_true rfl) d_MM_init_129 (fun M31 H locs hs ho hw => ?_)
  have h_q0 : M31 q0 = some (cI (K 0) 12 (fun _ => 0)) := (ho _ (zq_ne h_q0 h_o (by simp))).trans h_q0
  have h_q1 : M31 q1 = some (cI (K 0) 48 (fun _ => 0)) := (ho _ (zq_ne h_q1 h_o (by simp))).trans h_q1
  have h_q2 : M31 q2 = some (cI (K 0) 12 (fun _ => 0)) := (ho _ (zq_ne h_q2 h_o (by simp))).trans h_q2
  have h_q3 : M31 q3 = some (cI (K 0) 48 (fun _ => 0)) := (ho _ (zq_ne h_q3 h_o (by simp))).trans h_q3
  have h_q4 : M31 q4 = some (cI (K 0) 12 (fun _ => 0)) := (ho _ (zq_ne h_q4 h_o (by simp))).trans h_q4
  have h_q5 : M31 q5 = some (cI (K 0) 48 (fun _ => 0)) := (ho _ (zq_ne h_q5 h_o (by simp))).trans h_q5
  have h_q6 : M31 q6 = some (cI (K 0) 48 (fun _ => 0)) := (ho _ (zq_ne h_q6 h_o (by simp))).trans h_q6
  have h_q7 : M31 q7 = some (cI (K 0) 48 (fun _ => 0)) := (ho _ (zq_ne h_q7 h_o (by simp))).trans h_q7
  have h_q8 : M31 q8 = some (cI (K 0) 12 (fun _ => 0)) := (ho _ (zq_ne h_q8 h_o (by simp))).trans h_q8
  have h_q9 : M31 q9 = some (cI (K 0) 48 (fun _ => 0)) := (ho _ (zq_ne h_q9 h_o (by simp))).trans h_q9
  have h_q10 : M31 q10 = some (cI (K 0) 40 (fun _ => 0)) := (ho _ (zq_ne h_q10 h_o (by simp))).trans h_q10
  have h_q11 : M31 q11 = some (cI (K 0) 384 (fun _ => 0)) := (ho _ (zq_ne h_q11 h_o (by simp))).trans h_q11
  have h_q12 : M31 q12 = some (cI (K 0) 384 (fun _ => 0)) := (ho _ (zq_ne h_q12 h_o (by simp))).trans h_q12
  have h_q13 : M31 q13 = some (cJ (K 1) 114688 (fun _ => 0)) := (ho _ (zq_ne h_q13 h_o (by simp))).trans h_q13
  have h_q14 : M31 q14 = some (cJ (K 1) 2100 (fun _ => 0)) := (ho _ (zq_ne h_q14 h_o (by simp))).trans h_q14
  have h_o : M31 o = some (.inr (9, [.int (iI 0), .int (iI 0), .int (iI (-1)), .ref q0, .ref q1, .int (iI 0), .int (iI 0), .int (iI 0), .int (iI 0), .ref q2, .ref q3, .ref q4, .ref q5, .int (iI 0), .ref q6, .ref q7, .ref q8, .int (iI 0), .ref q9, .int (iI 0), .ref q10, .ref q11, .ref q12, .ref q13, .int (iI 0), .ref q14, .null, .null, .int (iI 0), .null])) := hs
  have hfr : ∀ q, M q ≠ none → q ≠ o → M31 q = M q := fun q g0 g1 => (ho q g1).trans (hfr q g0 g1)
  refine lv_aload_n hx hb d_MM_init_132 rfl (lv_at hl 0 rfl) ?_
  refine lv_bipush (v := iI 14) hx hb d_MM_init_133 (by decide) ?_
  refine zq_newJ hx hb (hts _ tw_128) hK hw hA 1 rfl (N' := 14) rfl (by decide) (Nat.le_of_ble_eq_true rfl) (Nat.le_of_ble_eq_true rfl) d_MM_init_135 (fun q15 M32 H hqq15 hs ho hw => ?_)
  have hmq15 : M q15 = none := Classical.byContradiction fun z => z ((hfr q15 z (zq_nn hqq15 h_o).symm).symm.trans hqq15)
  have dd_q15_o : o ≠ q15 := zq_nn hqq15 h_o
  have dd_q15_q0 : q0 ≠ q15 := zq_nn hqq15 h_q0
  have dd_q15_q1 : q1 ≠ q15 := zq_nn hqq15 h_q1
  have dd_q15_q2 : q2 ≠ q15 := zq_nn hqq15 h_q2
  have dd_q15_q3 : q3 ≠ q15 := zq_nn hqq15 h_q3
  have dd_q15_q4 : q4 ≠ q15 := zq_nn hqq15 h_q4
  have dd_q15_q5 : q5 ≠ q15 := zq_nn hqq15 h_q5
  have dd_q15_q6 : q6 ≠ q15 := zq_nn hqq15 h_q6
  have dd_q15_q7 : q7 ≠ q15 := zq_nn hqq15 h_q7
  have dd_q15_q8 : q8 ≠ q15 := zq_nn hqq15 h_q8
  have dd_q15_q9 : q9 ≠ q15 := zq_nn hqq15 h_q9
  have dd_q15_q10 : q10 ≠ q15 := zq_nn hqq15 h_q10
  have dd_q15_q11 : q11 ≠ q15 := zq_nn hqq15 h_q11
  have dd_q15_q12 : q12 ≠ q15 := zq_nn hqq15 h_q12
  have dd_q15_q13 : q13 ≠ q15 := zq_nn hqq15 h_q13
  have dd_q15_q14 : q14 ≠ q15 := zq_nn hqq15 h_q14
  have h_o : M32 o = some (.inr (9, [.int (iI 0), .int (iI 0), .int (iI (-1)), .ref q0, .ref q1, .int (iI 0), .int (iI 0), .int (iI 0), .int (iI 0), .ref q2, .ref q3, .ref q4, .ref q5, .int (iI 0), .ref q6, .ref q7, .ref q8, .int (iI 0), .ref q9, .int (iI 0), .ref q10, .ref q11, .ref q12, .ref q13, .int (iI 0), .ref q14, .null, .null, .int (iI 0), .null])) := (ho _ (zq_nn hqq15 h_o)).trans h_o
  have h_q0 : M32 q0 = some (cI (K 0) 12 (fun _ => 0)) := (ho _ (zq_nn hqq15 h_q0)).trans h_q0
  have h_q1 : M32 q1 = some (cI (K 0) 48 (fun _ => 0)) := (ho _ (zq_nn hqq15 h_q1)).trans h_q1
  have h_q2 : M32 q2 = some (cI (K 0) 12 (fun _ => 0)) := (ho _ (zq_nn hqq15 h_q2)).trans h_q2
  have h_q3 : M32 q3 = some (cI (K 0) 48 (fun _ => 0)) := (ho _ (zq_nn hqq15 h_q3)).trans h_q3
  have h_q4 : M32 q4 = some (cI (K 0) 12 (fun _ => 0)) := (ho _ (zq_nn hqq15 h_q4)).trans h_q4
  have h_q5 : M32 q5 = some (cI (K 0) 48 (fun _ => 0)) := (ho _ (zq_nn hqq15 h_q5)).trans h_q5
  have h_q6 : M32 q6 = some (cI (K 0) 48 (fun _ => 0)) := (ho _ (zq_nn hqq15 h_q6)).trans h_q6
  have h_q7 : M32 q7 = some (cI (K 0) 48 (fun _ => 0)) := (ho _ (zq_nn hqq15 h_q7)).trans h_q7
  have h_q8 : M32 q8 = some (cI (K 0) 12 (fun _ => 0)) := (ho _ (zq_nn hqq15 h_q8)).trans h_q8
  have h_q9 : M32 q9 = some (cI (K 0) 48 (fun _ => 0)) := (ho _ (zq_nn hqq15 h_q9)).trans h_q9
  have h_q10 : M32 q10 = some (cI (K 0) 40 (fun _ => 0)) := (ho _ (zq_nn hqq15 h_q10)).trans h_q10
  have h_q11 : M32 q11 = some (cI (K 0) 384 (fun _ => 0)) := (ho _ (zq_nn hqq15 h_q11)).trans h_q11
  have h_q12 : M32 q12 = some (cI (K 0) 384 (fun _ => 0)) := (ho _ (zq_nn hqq15 h_q12)).trans h_q12
  have h_q13 : M32 q13 = some (cJ (K 1) 114688 (fun _ => 0)) := (ho _ (zq_nn hqq15 h_q13)).trans h_q13
  have h_q14 : M32 q14 = some (cJ (K 1) 2100 (fun _ => 0)) := (ho _ (zq_nn hqq15 h_q14)).trans h_q14
  have h_q15 : M32 q15 = some (cJ (K 1) 14 (fun _ => 0)) := hs
  have hfr : ∀ q, M q ≠ none → q ≠ o → M32 q = M q := fun q g0 g1 => (ho q (fun z9 => g0 (by rw [z9]; exact hmq15))).trans (hfr q g0 g1)
  refine zq_putF (ci := 9) (v := .ref q15) (ty := .array .long) hx hb hts i_MM t_MM t_MM_ok n_MM hown hK hw h_o rfl 26 (by decide) (hts _ tw_612) rfl hnm rfl (by decide +kernel) rfl rfl (Nat.le_of_ble_eq_true rfl) d_MM_init_137 (fun M33 H locs hs ho hw => ?_)
  have h_q0 : M33 q0 = some (cI (K 0) 12 (fun _ => 0)) := (ho _ (zq_ne h_q0 h_o (by simp))).trans h_q0
  have h_q1 : M33 q1 = some (cI (K 0) 48 (fun _ => 0)) := (ho _ (zq_ne h_q1 h_o (by simp))).trans h_q1
  have h_q2 : M33 q2 = some (cI (K 0) 12 (fun _ => 0)) := (ho _ (zq_ne h_q2 h_o (by simp))).trans h_q2
  have h_q3 : M33 q3 = some (cI (K 0) 48 (fun _ => 0)) := (ho _ (zq_ne h_q3 h_o (by simp))).trans h_q3
  have h_q4 : M33 q4 = some (cI (K 0) 12 (fun _ => 0)) := (ho _ (zq_ne h_q4 h_o (by simp))).trans h_q4
  have h_q5 : M33 q5 = some (cI (K 0) 48 (fun _ => 0)) := (ho _ (zq_ne h_q5 h_o (by simp))).trans h_q5
  have h_q6 : M33 q6 = some (cI (K 0) 48 (fun _ => 0)) := (ho _ (zq_ne h_q6 h_o (by simp))).trans h_q6
  have h_q7 : M33 q7 = some (cI (K 0) 48 (fun _ => 0)) := (ho _ (zq_ne h_q7 h_o (by simp))).trans h_q7
  have h_q8 : M33 q8 = some (cI (K 0) 12 (fun _ => 0)) := (ho _ (zq_ne h_q8 h_o (by simp))).trans h_q8
  have h_q9 : M33 q9 = some (cI (K 0) 48 (fun _ => 0)) := (ho _ (zq_ne h_q9 h_o (by simp))).trans h_q9
  have h_q10 : M33 q10 = some (cI (K 0) 40 (fun _ => 0)) := (ho _ (zq_ne h_q10 h_o (by simp))).trans h_q10
  have h_q11 : M33 q11 = some (cI (K 0) 384 (fun _ => 0)) := (ho _ (zq_ne h_q11 h_o (by simp))).trans h_q11
  have h_q12 : M33 q12 = some (cI (K 0) 384 (fun _ => 0)) := (ho _ (zq_ne h_q12 h_o (by simp))).trans h_q12
  have h_q13 : M33 q13 = some (cJ (K 1) 114688 (fun _ => 0)) := (ho _ (zq_ne h_q13 h_o (by simp))).trans h_q13
  have h_q14 : M33 q14 = some (cJ (K 1) 2100 (fun _ => 0)) := (ho _ (zq_ne h_q14 h_o (by simp))).trans h_q14
  have h_q15 : M33 q15 = some (cJ (K 1) 14 (fun _ => 0)) := (ho _ (zq_ne h_q15 h_o (by simp))).trans h_q15
  have h_o : M33 o = some (.inr (9, [.int (iI 0), .int (iI 0), .int (iI (-1)), .ref q0, .ref q1, .int (iI 0), .int (iI 0), .int (iI 0), .int (iI 0), .ref q2, .ref q3, .ref q4, .ref q5, .int (iI 0), .ref q6, .ref q7, .ref q8, .int (iI 0), .ref q9, .int (iI 0), .ref q10, .ref q11, .ref q12, .ref q13, .int (iI 0), .ref q14, .ref q15, .null, .int (iI 0), .null])) := hs
  have hfr : ∀ q, M q ≠ none → q ≠ o → M33 q = M q := fun q g0 g1 => (ho q g1).trans (hfr q g0 g1)
  refine lv_aload_n hx hb d_MM_init_140 rfl (lv_at hl 0 rfl) ?_
  refine lv_bipush (v := iI 28) hx hb d_MM_init_141 (by decide) ?_
  refine zq_newJ hx hb (hts _ tw_128) hK hw hA 1 rfl (N' := 28) rfl (by decide) (Nat.le_of_ble_eq_true rfl) (Nat.le_of_ble_eq_true rfl) d_MM_init_143 (fun q16 M34 H hqq16 hs ho hw => ?_)
  have hmq16 : M q16 = none := Classical.byContradiction fun z => z ((hfr q16 z (zq_nn hqq16 h_o).symm).symm.trans hqq16)
  have dd_q16_o : o ≠ q16 := zq_nn hqq16 h_o
  have dd_q16_q0 : q0 ≠ q16 := zq_nn hqq16 h_q0
  have dd_q16_q1 : q1 ≠ q16 := zq_nn hqq16 h_q1
  have dd_q16_q2 : q2 ≠ q16 := zq_nn hqq16 h_q2
  have dd_q16_q3 : q3 ≠ q16 := zq_nn hqq16 h_q3
  have dd_q16_q4 : q4 ≠ q16 := zq_nn hqq16 h_q4
  have dd_q16_q5 : q5 ≠ q16 := zq_nn hqq16 h_q5
  have dd_q16_q6 : q6 ≠ q16 := zq_nn hqq16 h_q6
  have dd_q16_q7 : q7 ≠ q16 := zq_nn hqq16 h_q7
  have dd_q16_q8 : q8 ≠ q16 := zq_nn hqq16 h_q8
  have dd_q16_q9 : q9 ≠ q16 := zq_nn hqq16 h_q9
  have dd_q16_q10 : q10 ≠ q16 := zq_nn hqq16 h_q10
  have dd_q16_q11 : q11 ≠ q16 := zq_nn hqq16 h_q11
  have dd_q16_q12 : q12 ≠ q16 := zq_nn hqq16 h_q12
  have dd_q16_q13 : q13 ≠ q16 := zq_nn hqq16 h_q13
  have dd_q16_q14 : q14 ≠ q16 := zq_nn hqq16 h_q14
  have dd_q16_q15 : q15 ≠ q16 := zq_nn hqq16 h_q15
  have h_o : M34 o = some (.inr (9, [.int (iI 0), .int (iI 0), .int (iI (-1)), .ref q0, .ref q1, .int (iI 0), .int (iI 0), .int (iI 0), .int (iI 0), .ref q2, .ref q3, .ref q4, .ref q5, .int (iI 0), .ref q6, .ref q7, .ref q8, .int (iI 0), .ref q9, .int (iI 0), .ref q10, .ref q11, .ref q12, .ref q13, .int (iI 0), .ref q14, .ref q15, .null, .int (iI 0), .null])) := (ho _ (zq_nn hqq16 h_o)).trans h_o
  have h_q0 : M34 q0 = some (cI (K 0) 12 (fun _ => 0)) := (ho _ (zq_nn hqq16 h_q0)).trans h_q0
  have h_q1 : M34 q1 = some (cI (K 0) 48 (fun _ => 0)) := (ho _ (zq_nn hqq16 h_q1)).trans h_q1
  have h_q2 : M34 q2 = some (cI (K 0) 12 (fun _ => 0)) := (ho _ (zq_nn hqq16 h_q2)).trans h_q2
  have h_q3 : M34 q3 = some (cI (K 0) 48 (fun _ => 0)) := (ho _ (zq_nn hqq16 h_q3)).trans h_q3
  have h_q4 : M34 q4 = some (cI (K 0) 12 (fun _ => 0)) := (ho _ (zq_nn hqq16 h_q4)).trans h_q4
  have h_q5 : M34 q5 = some (cI (K 0) 48 (fun _ => 0)) := (ho _ (zq_nn hqq16 h_q5)).trans h_q5
  have h_q6 : M34 q6 = some (cI (K 0) 48 (fun _ => 0)) := (ho _ (zq_nn hqq16 h_q6)).trans h_q6
  have h_q7 : M34 q7 = some (cI (K 0) 48 (fun _ => 0)) := (ho _ (zq_nn hqq16 h_q7)).trans h_q7
  have h_q8 : M34 q8 = some (cI (K 0) 12 (fun _ => 0)) := (ho _ (zq_nn hqq16 h_q8)).trans h_q8
  have h_q9 : M34 q9 = some (cI (K 0) 48 (fun _ => 0)) := (ho _ (zq_nn hqq16 h_q9)).trans h_q9
  have h_q10 : M34 q10 = some (cI (K 0) 40 (fun _ => 0)) := (ho _ (zq_nn hqq16 h_q10)).trans h_q10
  have h_q11 : M34 q11 = some (cI (K 0) 384 (fun _ => 0)) := (ho _ (zq_nn hqq16 h_q11)).trans h_q11
  have h_q12 : M34 q12 = some (cI (K 0) 384 (fun _ => 0)) := (ho _ (zq_nn hqq16 h_q12)).trans h_q12
  have h_q13 : M34 q13 = some (cJ (K 1) 114688 (fun _ => 0)) := (ho _ (zq_nn hqq16 h_q13)).trans h_q13
  have h_q14 : M34 q14 = some (cJ (K 1) 2100 (fun _ => 0)) := (ho _ (zq_nn hqq16 h_q14)).trans h_q14
  have h_q15 : M34 q15 = some (cJ (K 1) 14 (fun _ => 0)) := (ho _ (zq_nn hqq16 h_q15)).trans h_q15
  have h_q16 : M34 q16 = some (cJ (K 1) 28 (fun _ => 0)) := hs
  have hfr : ∀ q, M q ≠ none → q ≠ o → M34 q = M q := fun q g0 g1 => (ho q (fun z9 => g0 (by rw [z9]; exact hmq16))).trans (hfr q g0 g1)
  refine zq_putF (ci := 9) (v := .ref q16) (ty := .array .long) hx hb hts i_MM t_MM t_MM_ok n_MM hown hK hw h_o rfl 27 (by decide) (hts _ tw_613) rfl hnm rfl (by decide +kernel) rfl rfl (Nat.le_of_ble_eq_true rfl) d_MM_init_145 (fun M35 H locs hs ho hw => ?_)
  have h_q0 : M35 q0 = some (cI (K 0) 12 (fun _ => 0)) := (ho _ (zq_ne h_q0 h_o (by simp))).trans h_q0
  have h_q1 : M35 q1 = some (cI (K 0) 48 (fun _ => 0)) := (ho _ (zq_ne h_q1 h_o (by simp))).trans h_q1
  have h_q2 : M35 q2 = some (cI (K 0) 12 (fun _ => 0)) := (ho _ (zq_ne h_q2 h_o (by simp))).trans h_q2
  have h_q3 : M35 q3 = some (cI (K 0) 48 (fun _ => 0)) := (ho _ (zq_ne h_q3 h_o (by simp))).trans h_q3
  have h_q4 : M35 q4 = some (cI (K 0) 12 (fun _ => 0)) := (ho _ (zq_ne h_q4 h_o (by simp))).trans h_q4
  have h_q5 : M35 q5 = some (cI (K 0) 48 (fun _ => 0)) := (ho _ (zq_ne h_q5 h_o (by simp))).trans h_q5
  have h_q6 : M35 q6 = some (cI (K 0) 48 (fun _ => 0)) := (ho _ (zq_ne h_q6 h_o (by simp))).trans h_q6
  have h_q7 : M35 q7 = some (cI (K 0) 48 (fun _ => 0)) := (ho _ (zq_ne h_q7 h_o (by simp))).trans h_q7
  have h_q8 : M35 q8 = some (cI (K 0) 12 (fun _ => 0)) := (ho _ (zq_ne h_q8 h_o (by simp))).trans h_q8
  have h_q9 : M35 q9 = some (cI (K 0) 48 (fun _ => 0)) := (ho _ (zq_ne h_q9 h_o (by simp))).trans h_q9
  have h_q10 : M35 q10 = some (cI (K 0) 40 (fun _ => 0)) := (ho _ (zq_ne h_q10 h_o (by simp))).trans h_q10
  have h_q11 : M35 q11 = some (cI (K 0) 384 (fun _ => 0)) := (ho _ (zq_ne h_q11 h_o (by simp))).trans h_q11
  have h_q12 : M35 q12 = some (cI (K 0) 384 (fun _ => 0)) := (ho _ (zq_ne h_q12 h_o (by simp))).trans h_q12
  have h_q13 : M35 q13 = some (cJ (K 1) 114688 (fun _ => 0)) := (ho _ (zq_ne h_q13 h_o (by simp))).trans h_q13
  have h_q14 : M35 q14 = some (cJ (K 1) 2100 (fun _ => 0)) := (ho _ (zq_ne h_q14 h_o (by simp))).trans h_q14
  have h_q15 : M35 q15 = some (cJ (K 1) 14 (fun _ => 0)) := (ho _ (zq_ne h_q15 h_o (by simp))).trans h_q15
  have h_q16 : M35 q16 = some (cJ (K 1) 28 (fun _ => 0)) := (ho _ (zq_ne h_q16 h_o (by simp))).trans h_q16
  have h_o : M35 o = some (.inr (9, [.int (iI 0), .int (iI 0), .int (iI (-1)), .ref q0, .ref q1, .int (iI 0), .int (iI 0), .int (iI 0), .int (iI 0), .ref q2, .ref q3, .ref q4, .ref q5, .int (iI 0), .ref q6, .ref q7, .ref q8, .int (iI 0), .ref q9, .int (iI 0), .ref q10, .ref q11, .ref q12, .ref q13, .int (iI 0), .ref q14, .ref q15, .ref q16, .int (iI 0), .null])) := hs
  have hfr : ∀ q, M q ≠ none → q ≠ o → M35 q = M q := fun q g0 g1 => (ho q g1).trans (hfr q g0 g1)
  refine lv_aload_n hx hb d_MM_init_148 rfl (lv_at hl 0 rfl) ?_
  refine lv_sipush (v := iI 384) hx hb d_MM_init_149 (by decide) ?_
  refine zq_newI hx hb (hts _ tw_38) hK hw hA 0 rfl (N' := 384) rfl (by decide) (Nat.le_of_ble_eq_true rfl) (Nat.le_of_ble_eq_true rfl) d_MM_init_152 (fun q17 M36 H hqq17 hs ho hw => ?_)
  have hmq17 : M q17 = none := Classical.byContradiction fun z => z ((hfr q17 z (zq_nn hqq17 h_o).symm).symm.trans hqq17)
  have dd_q17_o : o ≠ q17 := zq_nn hqq17 h_o
  have dd_q17_q0 : q0 ≠ q17 := zq_nn hqq17 h_q0
  have dd_q17_q1 : q1 ≠ q17 := zq_nn hqq17 h_q1
  have dd_q17_q2 : q2 ≠ q17 := zq_nn hqq17 h_q2
  have dd_q17_q3 : q3 ≠ q17 := zq_nn hqq17 h_q3
  have dd_q17_q4 : q4 ≠ q17 := zq_nn hqq17 h_q4
  have dd_q17_q5 : q5 ≠ q17 := zq_nn hqq17 h_q5
  have dd_q17_q6 : q6 ≠ q17 := zq_nn hqq17 h_q6
  have dd_q17_q7 : q7 ≠ q17 := zq_nn hqq17 h_q7
  have dd_q17_q8 : q8 ≠ q17 := zq_nn hqq17 h_q8
  have dd_q17_q9 : q9 ≠ q17 := zq_nn hqq17 h_q9
  have dd_q17_q10 : q10 ≠ q17 := zq_nn hqq17 h_q10
  have dd_q17_q11 : q11 ≠ q17 := zq_nn hqq17 h_q11
  have dd_q17_q12 : q12 ≠ q17 := zq_nn hqq17 h_q12
  have dd_q17_q13 : q13 ≠ q17 := zq_nn hqq17 h_q13
  have dd_q17_q14 : q14 ≠ q17 := zq_nn hqq17 h_q14
  have dd_q17_q15 : q15 ≠ q17 := zq_nn hqq17 h_q15
  have dd_q17_q16 : q16 ≠ q17 := zq_nn hqq17 h_q16
  have h_o : M36 o = some (.inr (9, [.int (iI 0), .int (iI 0), .int (iI (-1)), .ref q0, .ref q1, .int (iI 0), .int (iI 0), .int (iI 0), .int (iI 0), .ref q2, .ref q3, .ref q4, .ref q5, .int (iI 0), .ref q6, .ref q7, .ref q8, .int (iI 0), .ref q9, .int (iI 0), .ref q10, .ref q11, .ref q12, .ref q13, .int (iI 0), .ref q14, .ref q15, .ref q16, .int (iI 0), .null])) := (ho _ (zq_nn hqq17 h_o)).trans h_o
  have h_q0 : M36 q0 = some (cI (K 0) 12 (fun _ => 0)) := (ho _ (zq_nn hqq17 h_q0)).trans h_q0
  have h_q1 : M36 q1 = some (cI (K 0) 48 (fun _ => 0)) := (ho _ (zq_nn hqq17 h_q1)).trans h_q1
  have h_q2 : M36 q2 = some (cI (K 0) 12 (fun _ => 0)) := (ho _ (zq_nn hqq17 h_q2)).trans h_q2
  have h_q3 : M36 q3 = some (cI (K 0) 48 (fun _ => 0)) := (ho _ (zq_nn hqq17 h_q3)).trans h_q3
  have h_q4 : M36 q4 = some (cI (K 0) 12 (fun _ => 0)) := (ho _ (zq_nn hqq17 h_q4)).trans h_q4
  have h_q5 : M36 q5 = some (cI (K 0) 48 (fun _ => 0)) := (ho _ (zq_nn hqq17 h_q5)).trans h_q5
  have h_q6 : M36 q6 = some (cI (K 0) 48 (fun _ => 0)) := (ho _ (zq_nn hqq17 h_q6)).trans h_q6
  have h_q7 : M36 q7 = some (cI (K 0) 48 (fun _ => 0)) := (ho _ (zq_nn hqq17 h_q7)).trans h_q7
  have h_q8 : M36 q8 = some (cI (K 0) 12 (fun _ => 0)) := (ho _ (zq_nn hqq17 h_q8)).trans h_q8
  have h_q9 : M36 q9 = some (cI (K 0) 48 (fun _ => 0)) := (ho _ (zq_nn hqq17 h_q9)).trans h_q9
  have h_q10 : M36 q10 = some (cI (K 0) 40 (fun _ => 0)) := (ho _ (zq_nn hqq17 h_q10)).trans h_q10
  have h_q11 : M36 q11 = some (cI (K 0) 384 (fun _ => 0)) := (ho _ (zq_nn hqq17 h_q11)).trans h_q11
  have h_q12 : M36 q12 = some (cI (K 0) 384 (fun _ => 0)) := (ho _ (zq_nn hqq17 h_q12)).trans h_q12
  have h_q13 : M36 q13 = some (cJ (K 1) 114688 (fun _ => 0)) := (ho _ (zq_nn hqq17 h_q13)).trans h_q13
  have h_q14 : M36 q14 = some (cJ (K 1) 2100 (fun _ => 0)) := (ho _ (zq_nn hqq17 h_q14)).trans h_q14
  have h_q15 : M36 q15 = some (cJ (K 1) 14 (fun _ => 0)) := (ho _ (zq_nn hqq17 h_q15)).trans h_q15
  have h_q16 : M36 q16 = some (cJ (K 1) 28 (fun _ => 0)) := (ho _ (zq_nn hqq17 h_q16)).trans h_q16
  have h_q17 : M36 q17 = some (cI (K 0) 384 (fun _ => 0)) := hs
  have hfr : ∀ q, M q ≠ none → q ≠ o → M36 q = M q := fun q g0 g1 => (ho q (fun z9 => g0 (by rw [z9]; exact hmq17))).trans (hfr q g0 g1)
  refine zq_putF (ci := 9) (v := .ref q17) (ty := .array .int) hx hb hts i_MM t_MM t_MM_ok n_MM hown hK hw h_o rfl 29 (by decide) (hts _ tw_615) rfl hnm rfl (by decide +kernel) rfl rfl (Nat.le_of_ble_eq_true rfl) d_MM_init_154 (fun M37 H locs hs ho hw => ?_)
  have h_q0 : M37 q0 = some (cI (K 0) 12 (fun _ => 0)) := (ho _ (zq_ne h_q0 h_o (by simp))).trans h_q0
  have h_q1 : M37 q1 = some (cI (K 0) 48 (fun _ => 0)) := (ho _ (zq_ne h_q1 h_o (by simp))).trans h_q1
  have h_q2 : M37 q2 = some (cI (K 0) 12 (fun _ => 0)) := (ho _ (zq_ne h_q2 h_o (by simp))).trans h_q2
  have h_q3 : M37 q3 = some (cI (K 0) 48 (fun _ => 0)) := (ho _ (zq_ne h_q3 h_o (by simp))).trans h_q3
  have h_q4 : M37 q4 = some (cI (K 0) 12 (fun _ => 0)) := (ho _ (zq_ne h_q4 h_o (by simp))).trans h_q4
  have h_q5 : M37 q5 = some (cI (K 0) 48 (fun _ => 0)) := (ho _ (zq_ne h_q5 h_o (by simp))).trans h_q5
  have h_q6 : M37 q6 = some (cI (K 0) 48 (fun _ => 0)) := (ho _ (zq_ne h_q6 h_o (by simp))).trans h_q6
  have h_q7 : M37 q7 = some (cI (K 0) 48 (fun _ => 0)) := (ho _ (zq_ne h_q7 h_o (by simp))).trans h_q7
  have h_q8 : M37 q8 = some (cI (K 0) 12 (fun _ => 0)) := (ho _ (zq_ne h_q8 h_o (by simp))).trans h_q8
  have h_q9 : M37 q9 = some (cI (K 0) 48 (fun _ => 0)) := (ho _ (zq_ne h_q9 h_o (by simp))).trans h_q9
  have h_q10 : M37 q10 = some (cI (K 0) 40 (fun _ => 0)) := (ho _ (zq_ne h_q10 h_o (by simp))).trans h_q10
  have h_q11 : M37 q11 = some (cI (K 0) 384 (fun _ => 0)) := (ho _ (zq_ne h_q11 h_o (by simp))).trans h_q11
  have h_q12 : M37 q12 = some (cI (K 0) 384 (fun _ => 0)) := (ho _ (zq_ne h_q12 h_o (by simp))).trans h_q12
  have h_q13 : M37 q13 = some (cJ (K 1) 114688 (fun _ => 0)) := (ho _ (zq_ne h_q13 h_o (by simp))).trans h_q13
  have h_q14 : M37 q14 = some (cJ (K 1) 2100 (fun _ => 0)) := (ho _ (zq_ne h_q14 h_o (by simp))).trans h_q14
  have h_q15 : M37 q15 = some (cJ (K 1) 14 (fun _ => 0)) := (ho _ (zq_ne h_q15 h_o (by simp))).trans h_q15
  have h_q16 : M37 q16 = some (cJ (K 1) 28 (fun _ => 0)) := (ho _ (zq_ne h_q16 h_o (by simp))).trans h_q16
  have h_q17 : M37 q17 = some (cI (K 0) 384 (fun _ => 0)) := (ho _ (zq_ne h_q17 h_o (by simp))).trans h_q17
  have h_o : M37 o = some (.inr (9, [.int (iI 0), .int (iI 0), .int (iI (-1)), .ref q0, .ref q1, .int (iI 0), .int (iI 0), .int (iI 0), .int (iI 0), .ref q2, .ref q3, .ref q4, .ref q5, .int (iI 0), .ref q6, .ref q7, .ref q8, .int (iI 0), .ref q9, .int (iI 0), .ref q10, .ref q11, .ref q12, .ref q13, .int (iI 0), .ref q14, .ref q15, .ref q16, .int (iI 0), .ref q17])) := hs
  have hfr : ∀ q, M q ≠ none → q ≠ o → M37 q = M q := fun q g0 g1 => (ho q g1).trans (hfr q g0 g1)
  have hix : ∀ i, i < 18 → zidx q0 q1 q2 q3 q4 q5 q6 q7 q8 q9 q10 q11 q12 q13 q14 q15 q16 q17 ((fun i => ([q0, q1, q2, q3, q4, q5, q6, q7, q8, q9, q10, q11, q12, q13, q14, q15, q16, q17] : List Nat).getD i 0) i) = i := by
    intro i hi
    rcases (show i = 0 ∨ i = 1 ∨ i = 2 ∨ i = 3 ∨ i = 4 ∨ i = 5 ∨ i = 6 ∨ i = 7 ∨ i = 8 ∨ i = 9 ∨ i = 10 ∨ i = 11 ∨ i = 12 ∨ i = 13 ∨ i = 14 ∨ i = 15 ∨ i = 16 ∨ i = 17 by omega) with rfl | rfl | rfl | rfl | rfl | rfl | rfl | rfl | rfl | rfl | rfl | rfl | rfl | rfl | rfl | rfl | rfl | rfl
    · show zidx q0 q1 q2 q3 q4 q5 q6 q7 q8 q9 q10 q11 q12 q13 q14 q15 q16 q17 q0 = 0; unfold zidx; rw [if_pos rfl]
    · show zidx q0 q1 q2 q3 q4 q5 q6 q7 q8 q9 q10 q11 q12 q13 q14 q15 q16 q17 q1 = 1; unfold zidx; rw [if_neg (Ne.symm dd_q1_q0), if_pos rfl]
    · show zidx q0 q1 q2 q3 q4 q5 q6 q7 q8 q9 q10 q11 q12 q13 q14 q15 q16 q17 q2 = 2; unfold zidx; rw [if_neg (Ne.symm dd_q2_q0), if_neg (Ne.symm dd_q2_q1), if_pos rfl]
    · show zidx q0 q1 q2 q3 q4 q5 q6 q7 q8 q9 q10 q11 q12 q13 q14 q15 q16 q17 q3 = 3; unfold zidx; rw [if_neg (Ne.symm dd_q3_q0), if_neg (Ne.symm dd_q3_q1), if_neg (Ne.symm dd_q3_q2), if_pos rfl]
    · show zidx q0 q1 q2 q3 q4 q5 q6 q7 q8 q9 q10 q11 q12 q13 q14 q15 q16 q17 q4 = 4; unfold zidx; rw [if_neg (Ne.symm dd_q4_q0), if_neg (Ne.symm dd_q4_q1), if_neg (Ne.symm dd_q4_q2), if_neg (Ne.symm dd_q4_q3), if_pos rfl]
    · show zidx q0 q1 q2 q3 q4 q5 q6 q7 q8 q9 q10 q11 q12 q13 q14 q15 q16 q17 q5 = 5; unfold zidx; rw [if_neg (Ne.symm dd_q5_q0), if_neg (Ne.symm dd_q5_q1), if_neg (Ne.symm dd_q5_q2), if_neg (Ne.symm dd_q5_q3), if_neg (Ne.symm dd_q5_q4), if_pos rfl]
    · show zidx q0 q1 q2 q3 q4 q5 q6 q7 q8 q9 q10 q11 q12 q13 q14 q15 q16 q17 q6 = 6; unfold zidx; rw [if_neg (Ne.symm dd_q6_q0), if_neg (Ne.symm dd_q6_q1), if_neg (Ne.symm dd_q6_q2), if_neg (Ne.symm dd_q6_q3), if_neg (Ne.symm dd_q6_q4), if_neg (Ne.symm dd_q6_q5), if_pos rfl]
    · show zidx q0 q1 q2 q3 q4 q5 q6 q7 q8 q9 q10 q11 q12 q13 q14 q15 q16 q17 q7 = 7; unfold zidx; rw [if_neg (Ne.symm dd_q7_q0), if_neg (Ne.symm dd_q7_q1), if_neg (Ne.symm dd_q7_q2), if_neg (Ne.symm dd_q7_q3), if_neg (Ne.symm dd_q7_q4), if_neg (Ne.symm dd_q7_q5), if_neg (Ne.symm dd_q7_q6), if_pos rfl]
    · show zidx q0 q1 q2 q3 q4 q5 q6 q7 q8 q9 q10 q11 q12 q13 q14 q15 q16 q17 q8 = 8; unfold zidx; rw [if_neg (Ne.symm dd_q8_q0), if_neg (Ne.symm dd_q8_q1), if_neg (Ne.symm dd_q8_q2), if_neg (Ne.symm dd_q8_q3), if_neg (Ne.symm dd_q8_q4), if_neg (Ne.symm dd_q8_q5), if_neg (Ne.symm dd_q8_q6), if_neg (Ne.symm dd_q8_q7), if_pos rfl]
    · show zidx q0 q1 q2 q3 q4 q5 q6 q7 q8 q9 q10 q11 q12 q13 q14 q15 q16 q17 q9 = 9; unfold zidx; rw [if_neg (Ne.symm dd_q9_q0), if_neg (Ne.symm dd_q9_q1), if_neg (Ne.symm dd_q9_q2), if_neg (Ne.symm dd_q9_q3), if_neg (Ne.symm dd_q9_q4), if_neg (Ne.symm dd_q9_q5), if_neg (Ne.symm dd_q9_q6), if_neg (Ne.symm dd_q9_q7), if_neg (Ne.symm dd_q9_q8), if_pos rfl]
    · show zidx q0 q1 q2 q3 q4 q5 q6 q7 q8 q9 q10 q11 q12 q13 q14 q15 q16 q17 q10 = 10; unfold zidx; rw [if_neg (Ne.symm dd_q10_q0), if_neg (Ne.symm dd_q10_q1), if_neg (Ne.symm dd_q10_q2), if_neg (Ne.symm dd_q10_q3), if_neg (Ne.symm dd_q10_q4), if_neg (Ne.symm dd_q10_q5), if_neg (Ne.symm dd_q10_q6), if_neg (Ne.symm dd_q10_q7), if_neg (Ne.symm dd_q10_q8), if_neg (Ne.symm dd_q10_q9), if_pos rfl]
    · show zidx q0 q1 q2 q3 q4 q5 q6 q7 q8 q9 q10 q11 q12 q13 q14 q15 q16 q17 q11 = 11; unfold zidx; rw [if_neg (Ne.symm dd_q11_q0), if_neg (Ne.symm dd_q11_q1), if_neg (Ne.symm dd_q11_q2), if_neg (Ne.symm dd_q11_q3), if_neg (Ne.symm dd_q11_q4), if_neg (Ne.symm dd_q11_q5), if_neg (Ne.symm dd_q11_q6), if_neg (Ne.symm dd_q11_q7), if_neg (Ne.symm dd_q11_q8), if_neg (Ne.symm dd_q11_q9), if_neg (Ne.symm dd_q11_q10), if_pos rfl]
    · show zidx q0 q1 q2 q3 q4 q5 q6 q7 q8 q9 q10 q11 q12 q13 q14 q15 q16 q17 q12 = 12; unfold zidx; rw [if_neg (Ne.symm dd_q12_q0), if_neg (Ne.symm dd_q12_q1), if_neg (Ne.symm dd_q12_q2), if_neg (Ne.symm dd_q12_q3), if_neg (Ne.symm dd_q12_q4), if_neg (Ne.symm dd_q12_q5), if_neg (Ne.symm dd_q12_q6), if_neg (Ne.symm dd_q12_q7), if_neg (Ne.symm dd_q12_q8), if_neg (Ne.symm dd_q12_q9), if_neg (Ne.symm dd_q12_q10), if_neg (Ne.symm dd_q12_q11), if_pos rfl]
    · show zidx q0 q1 q2 q3 q4 q5 q6 q7 q8 q9 q10 q11 q12 q13 q14 q15 q16 q17 q13 = 13; unfold zidx; rw [if_neg (Ne.symm dd_q13_q0), if_neg (Ne.symm dd_q13_q1), if_neg (Ne.symm dd_q13_q2), if_neg (Ne.symm dd_q13_q3), if_neg (Ne.symm dd_q13_q4), if_neg (Ne.symm dd_q13_q5), if_neg (Ne.symm dd_q13_q6), if_neg (Ne.symm dd_q13_q7), if_neg (Ne.symm dd_q13_q8), if_neg (Ne.symm dd_q13_q9), if_neg (Ne.symm dd_q13_q10), if_neg (Ne.symm dd_q13_q11), if_neg (Ne.symm dd_q13_q12), if_pos rfl]
    · show zidx q0 q1 q2 q3 q4 q5 q6 q7 q8 q9 q10 q11 q12 q13 q14 q15 q16 q17 q14 = 14; unfold zidx; rw [if_neg (Ne.symm dd_q14_q0), if_neg (Ne.symm dd_q14_q1), if_neg (Ne.symm dd_q14_q2), if_neg (Ne.symm dd_q14_q3), if_neg (Ne.symm dd_q14_q4), if_neg (Ne.symm dd_q14_q5), if_neg (Ne.symm dd_q14_q6), if_neg (Ne.symm dd_q14_q7), if_neg (Ne.symm dd_q14_q8), if_neg (Ne.symm dd_q14_q9), if_neg (Ne.symm dd_q14_q10), if_neg (Ne.symm dd_q14_q11), if_neg (Ne.symm dd_q14_q12), if_neg (Ne.symm dd_q14_q13), if_pos rfl]
    · show zidx q0 q1 q2 q3 q4 q5 q6 q7 q8 q9 q10 q11 q12 q13 q14 q15 q16 q17 q15 = 15; unfold zidx; rw [if_neg (Ne.symm dd_q15_q0), if_neg (Ne.symm dd_q15_q1), if_neg (Ne.symm dd_q15_q2), if_neg (Ne.symm dd_q15_q3), if_neg (Ne.symm dd_q15_q4), if_neg (Ne.symm dd_q15_q5), if_neg (Ne.symm dd_q15_q6), if_neg (Ne.symm dd_q15_q7), if_neg (Ne.symm dd_q15_q8), if_neg (Ne.symm dd_q15_q9), if_neg (Ne.symm dd_q15_q10), if_neg (Ne.symm dd_q15_q11), if_neg (Ne.symm dd_q15_q12), if_neg (Ne.symm dd_q15_q13), if_neg (Ne.symm dd_q15_q14), if_pos rfl]
    · show zidx q0 q1 q2 q3 q4 q5 q6 q7 q8 q9 q10 q11 q12 q13 q14 q15 q16 q17 q16 = 16; unfold zidx; rw [if_neg (Ne.symm dd_q16_q0), if_neg (Ne.symm dd_q16_q1), if_neg (Ne.symm dd_q16_q2), if_neg (Ne.symm dd_q16_q3), if_neg (Ne.symm dd_q16_q4), if_neg (Ne.symm dd_q16_q5), if_neg (Ne.symm dd_q16_q6), if_neg (Ne.symm dd_q16_q7), if_neg (Ne.symm dd_q16_q8), if_neg (Ne.symm dd_q16_q9), if_neg (Ne.symm dd_q16_q10), if_neg (Ne.symm dd_q16_q11), if_neg (Ne.symm dd_q16_q12), if_neg (Ne.symm dd_q16_q13), if_neg (Ne.symm dd_q16_q14), if_neg (Ne.symm dd_q16_q15), if_pos rfl]
    · show zidx q0 q1 q2 q3 q4 q5 q6 q7 q8 q9 q10 q11 q12 q13 q14 q15 q16 q17 q17 = 17; unfold zidx; rw [if_neg (Ne.symm dd_q17_q0), if_neg (Ne.symm dd_q17_q1), if_neg (Ne.symm dd_q17_q2), if_neg (Ne.symm dd_q17_q3), if_neg (Ne.symm dd_q17_q4), if_neg (Ne.symm dd_q17_q5), if_neg (Ne.symm dd_q17_q6), if_neg (Ne.symm dd_q17_q7), if_neg (Ne.symm dd_q17_q8), if_neg (Ne.symm dd_q17_q9), if_neg (Ne.symm dd_q17_q10), if_neg (Ne.symm dd_q17_q11), if_neg (Ne.symm dd_q17_q12), if_neg (Ne.symm dd_q17_q13), if_neg (Ne.symm dd_q17_q14), if_neg (Ne.symm dd_q17_q15), if_neg (Ne.symm dd_q17_q16)]
  have hinj : ∀ i j, i < 18 → j < 18 → (fun i => ([q0, q1, q2, q3, q4, q5, q6, q7, q8, q9, q10, q11, q12, q13, q14, q15, q16, q17] : List Nat).getD i 0) i = (fun i => ([q0, q1, q2, q3, q4, q5, q6, q7, q8, q9, q10, q11, q12, q13, q14, q15, q16, q17] : List Nat).getD i 0) j → i = j := fun i j hi hj he => by rw [← hix i hi, ← hix j hj, he]
  have hnone : ∀ i, i < 18 → M ((fun i => ([q0, q1, q2, q3, q4, q5, q6, q7, q8, q9, q10, q11, q12, q13, q14, q15, q16, q17] : List Nat).getD i 0) i) = none := by
    intro i hi
    rcases (show i = 0 ∨ i = 1 ∨ i = 2 ∨ i = 3 ∨ i = 4 ∨ i = 5 ∨ i = 6 ∨ i = 7 ∨ i = 8 ∨ i = 9 ∨ i = 10 ∨ i = 11 ∨ i = 12 ∨ i = 13 ∨ i = 14 ∨ i = 15 ∨ i = 16 ∨ i = 17 by omega) with rfl | rfl | rfl | rfl | rfl | rfl | rfl | rfl | rfl | rfl | rfl | rfl | rfl | rfl | rfl | rfl | rfl | rfl
    · exact hmq0
    · exact hmq1
    · exact hmq2
    · exact hmq3
    · exact hmq4
    · exact hmq5
    · exact hmq6
    · exact hmq7
    · exact hmq8
    · exact hmq9
    · exact hmq10
    · exact hmq11
    · exact hmq12
    · exact hmq13
    · exact hmq14
    · exact hmq15
    · exact hmq16
    · exact hmq17
  exact zq_vret hx hb hr hlocks hZ hw ⟨rfl, (fun i => ([q0, q1, q2, q3, q4, q5, q6, q7, q8, q9, q10, q11, q12, q13, q14, q15, q16, q17] : List Nat).getD i 0), ⟨0, -1, 0, 0, 0, 0, (fun _ => 0), (fun _ => 0), (fun _ => 0), (fun _ => 0), (fun _ => 0), (fun _ => 0), (fun _ => 0), (fun _ => 0), (fun _ => 0), h_o, hinj, h_q0, h_q1, h_q2, h_q3, h_q4, h_q5, h_q6, h_q7, h_q8, h_q9, h_q10, h_q11, h_q12, h_q13, h_q14, h_q15, h_q16, h_q17, fun j => ⟨zi0, zi0, zi0, zi0, zi0, zi0, zi0, zi0, zi0⟩⟩, hnone, hfr⟩ d_MM_init_157
