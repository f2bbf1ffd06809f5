abbrev P_ET_init (K : Nat → ClassId) (M : zq_M) (o : Nat) : Option Value → zq_M → Prop := fun v M' => v = none ∧ ∃ cA sA ra rb, M cA = none ∧ M sA = none ∧ (∀ i, 0 ≤ i → i < 12 → M (ra i) = none) ∧ (∀ i, 0 ≤ i → i < 12 → M (rb i) = none) ∧ (∀ i j, 0 ≤ i → i < 12 → 0 ≤ j → j < 12 → ra i ≠ rb j) ∧ cA ≠ sA ∧ M' o = some (.inr (5, [.ref cA, .ref sA, .int (iI 0), .int (iI 0)])) ∧ zG K M' cA ra (fun _ _ => 0) ∧ zG K M' sA rb (fun _ _ => 0) ∧ ∀ q, M q ≠ none → q ≠ o → M' q = M q
set_option maxHeartbeats 4000000 in
set_option maxRecDepth 100000 in
theorem c_ET_init (l : Launch) (D : va_G) (K : Nat → ClassId) (M : zq_M) (o : Nat) (h_o : M o = some (.inr (5, [.null, .null, .int (iI 0), .int (iI 0)]))) : zq_Met l y_ET_init (.code y_ET_init b_ET_init 1 none :: lw_gd) { frames := 1, cells := 26, slots := 816, locals := 12 } D vwCl (zT K) [.ref o] M (P_ET_init K M o) 26 816 := by
  refine zq_start (cc := b_ET_init) (maxL := 1) (ret := none) (by decide) rfl (Nat.le_of_ble_eq_true rfl) ?_
  intro p e s m below meth co A ls hx hb hr hml hts hown hnm hlocks hA hZ hw hl
  have hts : ∀ w ∈ lw_gd, w.before [.ref o].toArray s = true := fun w h => hts w (List.mem_cons_of_mem _ h)
  have hown : s.vm.findClass R_ET = some m.cls := hown
  have hK := hZ.1
  have hnm : meth.name = "<init>" := hnm
  have hl : lv_has ls 1 [(0, .ref o)] := hl
  have hfr : ∀ q, M q ≠ none → q ≠ o → M q = M q := fun q _ _ => rfl
  refine lv_aload_n hx hb d_ET_init_0 rfl (lv_at hl 0 rfl) ?_
  refine W.objInit hx hb hown (hts _ tw_86) (hts _ tw_20) (hts _ tw_21) rfl (by rw [hml]; exact hl.1) rfl d_ET_init_1 (Nat.le_of_ble_eq_true rfl) (Nat.le_of_ble_eq_true rfl) ?_
  refine W.eq (g2 := F0 m 4 ls []) rfl ?_
  refine lv_aload_n hx hb d_ET_init_4 rfl (lv_at hl 0 rfl) ?_
  refine lv_bipush (v := iI 12) hx hb d_ET_init_5 (by decide) ?_
  refine lv_bipush (v := iI 33) hx hb d_ET_init_7 (by decide) ?_
  refine zq_newG hx hb hown (hts _ tw_87) hZ hw hA (Nat.le_of_ble_eq_true rfl) (Nat.le_of_ble_eq_true rfl) d_ET_init_9 (fun cA ra M1 H locs hqcA hra hrq hGn ho hw => ?_)
  have hmcA : M cA = none := Classical.byContradiction fun z => z ((hfr cA z (zq_nn hqcA h_o).symm).symm.trans hqcA)
  have ho : ∀ b, M b ≠ none → M1 b = M b := fun b g0 => ho b (fun z => g0 (by rw [z]; exact hqcA)) (fun i h1 h2 z => g0 (by rw [z]; exact hra i h1 h2))
  have hzra : ∀ i, 0 ≤ i → i < 12 → M (ra i) = none := fun i h1 h2 => Classical.byContradiction fun z => z ((hfr _ z (fun y => by have z2 := hra i h1 h2; rw [y, h_o] at z2; cases z2)).symm.trans (hra i h1 h2))
  have hyra : ∀ j b, M b ≠ none → 0 ≤ j → j < 12 → b ≠ ra j := fun j b h0 h1 h2 z => h0 (by rw [z]; exact hra j h1 h2)
  have h_o : M1 o = some (.inr (5, [.null, .null, .int (iI 0), .int (iI 0)])) := (ho _ (by rw [h_o]; nofun)).trans h_o
  have hfr : ∀ q, M q ≠ none → q ≠ o → M1 q = M q := fun q g0 g1 => (ho q (by rw [hfr q g0 g1]; exact g0)).trans (hfr q g0 g1)
  have hG_cA := hGn
  have hf_cA : ∀ q, M1 q ≠ none → q ≠ o → M1 q = M1 q := fun q _ _ => rfl
  have h_o_cA := h_o
  have h_cA : M1 cA = some (cQ (K 4) 12 (fun i => some (ra i))) := hGn.1
  refine zq_putF (ci := 5) (v := .ref cA) (ty := .array (.array .int)) hx hb hts i_ET t_ET t_ET_ok n_ET hown hK hw h_o rfl 0 (by decide) (hts _ tw_89) rfl hnm rfl (by decide +kernel) rfl rfl (Nat.le_of_ble_eq_true rfl) d_ET_init_13 (fun M2 H locs hs ho hw => ?_)
  have h_cA : M2 cA = some (cQ (K 4) 12 (fun i => some (ra i))) := (ho _ (zq_ne h_cA h_o (by simp))).trans h_cA
  have h_o : M2 o = some (.inr (5, [.ref cA, .null, .int (iI 0), .int (iI 0)])) := hs
  have hfr : ∀ q, M q ≠ none → q ≠ o → M2 q = M q := fun q g0 g1 => (ho q g1).trans (hfr q g0 g1)
  have hf_cA : ∀ q, M1 q ≠ none → q ≠ o → M2 q = M1 q := fun q g0 g1 => (ho q g1).trans (hf_cA q g0 g1)
  have hG1 := zG_new hG_cA h_o_cA hf_cA
  refine lv_aload_n hx hb d_ET_init_16 rfl (lv_at hl 0 rfl) ?_
  refine lv_bipush (v := iI 12) hx hb d_ET_init_17 (by decide) ?_
  refine lv_bipush (v := iI 33) hx hb d_ET_init_19 (by decide) ?_
  refine zq_newG hx hb hown (hts _ tw_87) hZ hw hA (Nat.le_of_ble_eq_true rfl) (Nat.le_of_ble_eq_true rfl) d_ET_init_21 (fun sA rb M3 H locs hqsA hra hrq hGn ho hw => ?_)
  have hmsA : M sA = none := Classical.byContradiction fun z => z ((hfr sA z (zq_nn hqsA h_o).symm).symm.trans hqsA)
  have hmsA_hf_cA : M1 sA = none := Classical.byContradiction fun z => z ((hf_cA sA z (zq_nn hqsA h_o).symm).symm.trans hqsA)
  have ho : ∀ b, M2 b ≠ none → M3 b = M2 b := fun b g0 => ho b (fun z => g0 (by rw [z]; exact hqsA)) (fun i h1 h2 z => g0 (by rw [z]; exact hra i h1 h2))
  have hzrb : ∀ i, 0 ≤ i → i < 12 → M (rb i) = none := fun i h1 h2 => Classical.byContradiction fun z => z ((hfr _ z (fun y => by have z2 := hra i h1 h2; rw [y, h_o] at z2; cases z2)).symm.trans (hra i h1 h2))
  have hyrb : ∀ j b, M2 b ≠ none → 0 ≤ j → j < 12 → b ≠ rb j := fun j b h0 h1 h2 z => h0 (by rw [z]; exact hra j h1 h2)
  have h_o : M3 o = some (.inr (5, [.ref cA, .null, .int (iI 0), .int (iI 0)])) := (ho _ (by rw [h_o]; nofun)).trans h_o
  have h_cA : M3 cA = some (cQ (K 4) 12 (fun i => some (ra i))) := (ho _ (by rw [h_cA]; nofun)).trans h_cA
  have hfr : ∀ q, M q ≠ none → q ≠ o → M3 q = M q := fun q g0 g1 => (ho q (by rw [hfr q g0 g1]; exact g0)).trans (hfr q g0 g1)
  have hf_cA : ∀ q, M1 q ≠ none → q ≠ o → M3 q = M1 q := fun q g0 g1 => (ho q (by rw [hf_cA q g0 g1]; exact g0)).trans (hf_cA q g0 g1)
  have hG_sA := hGn
  have hf_sA : ∀ q, M3 q ≠ none → q ≠ o → M3 q = M3 q := fun q _ _ => rfl
  have h_o_sA := h_o
  have h_sA : M3 sA = some (cQ (K 4) 12 (fun i => some (rb i))) := hGn.1
  have hyr : ∀ i j, 0 ≤ i → i < 12 → 0 ≤ j → j < 12 → ra i ≠ rb j := fun i j h1 h2 h3 h4 => hyrb j _ (by rw [hG1.2.1 i h1 h2]; nofun) h3 h4
  have hcs : cA ≠ sA := fun z => by rw [← z] at hqsA; rw [hG1.1] at hqsA; cases hqsA
  refine zq_putF (ci := 5) (v := .ref sA) (ty := .array (.array .int)) hx hb hts i_ET t_ET t_ET_ok n_ET hown hK hw h_o rfl 1 (by decide) (hts _ tw_90) rfl hnm rfl (by decide +kernel) rfl rfl (Nat.le_of_ble_eq_true rfl) d_ET_init_25 (fun M4 H locs hs ho hw => ?_)
  have h_cA : M4 cA = some (cQ (K 4) 12 (fun i => some (ra i))) := (ho _ (zq_ne h_cA h_o (by simp))).trans h_cA
  have h_sA : M4 sA = some (cQ (K 4) 12 (fun i => some (rb i))) := (ho _ (zq_ne h_sA h_o (by simp))).trans h_sA
  have h_o : M4 o = some (.inr (5, [.ref cA, .ref sA, .int (iI 0), .int (iI 0)])) := hs
  have hfr : ∀ q, M q ≠ none → q ≠ o → M4 q = M q := fun q g0 g1 => (ho q g1).trans (hfr q g0 g1)
  have hf_cA : ∀ q, M1 q ≠ none → q ≠ o → M4 q = M1 q := fun q g0 g1 => (ho q g1).trans (hf_cA q g0 g1)
  have hf_sA : ∀ q, M3 q ≠ none → q ≠ o → M4 q = M3 q := fun q g0 g1 => (ho q g1).trans (hf_sA q g0 g1)
  refine lv_aload_n hx hb d_ET_init_28 rfl (lv_at hl 0 rfl) ?_
  refine lv_iconst (v := iI 0) hx hb d_ET_init_29 rfl ?_
  refine zq_put (ci := 5) (v := .int (iI 0)) (ty := .int) hx hb hts i_ET t_ET t_ET_ok n_ET hown hK hw h_o rfl 2 (by decide) (hts _ tw_91) rfl (by decide +kernel) rfl rfl (Nat.le_of_ble_eq_true rfl) d_ET_init_30 (fun M5 H locs hs ho hw => ?_)
  have h_cA : M5 cA = some (cQ (K 4) 12 (fun i => some (ra i))) := (ho _ (zq_ne h_cA h_o (by simp))).trans h_cA
  have h_sA : M5 sA = some (cQ (K 4) 12 (fun i => some (rb i))) := (ho _ (zq_ne h_sA h_o (by simp))).trans h_sA
  have h_o : M5 o = some (.inr (5, [.ref cA, .ref sA, .int (iI 0), .int (iI 0)])) := hs
  have hfr : ∀ q, M q ≠ none → q ≠ o → M5 q = M q := fun q g0 g1 => (ho q g1).trans (hfr q g0 g1)
  have hf_cA : ∀ q, M1 q ≠ none → q ≠ o → M5 q = M1 q := fun q g0 g1 => (ho q g1).trans (hf_cA q g0 g1)
  have hf_sA : ∀ q, M3 q ≠ none → q ≠ o → M5 q = M3 q := fun q g0 g1 => (ho q g1).trans (hf_sA q g0 g1)
  refine lv_aload_n hx hb d_ET_init_33 rfl (lv_at hl 0 rfl) ?_
  refine lv_iconst (v := iI 0) hx hb d_ET_init_34 rfl ?_
  refine zq_put (ci := 5) (v := .int (iI 0)) (ty := .int) hx hb hts i_ET t_ET t_ET_ok n_ET hown hK hw h_o rfl 3 (by decide) (hts _ tw_92) rfl (by decide +kernel) rfl rfl (Nat.le_of_ble_eq_true rfl) d_ET_init_35 (fun M6 H locs hs ho hw => ?_)
  have h_cA : M6 cA = some (cQ (K 4) 12 (fun i => some (ra i))) := (ho _ (zq_ne h_cA h_o (by simp))).trans h_cA
  have h_sA : M6 sA = some (cQ (K 4) 12 (fun i => some (rb i))) := (ho _ (zq_ne h_sA h_o (by simp))).trans h_sA
  have h_o : M6 o = some (.inr (5, [.ref cA, .ref sA, .int (iI 0), .int (iI 0)])) := hs
  have hfr : ∀ q, M q ≠ none → q ≠ o → M6 q = M q := fun q g0 g1 => (ho q g1).trans (hfr q g0 g1)
  have hf_cA : ∀ q, M1 q ≠ none → q ≠ o → M6 q = M1 q := fun q g0 g1 => (ho q g1).trans (hf_cA q g0 g1)
  have hf_sA : ∀ q, M3 q ≠ none → q ≠ o → M6 q = M3 q := fun q g0 g1 => (ho q g1).trans (hf_sA q g0 g1)
  have hG1 := zG_new hG_cA h_o_cA hf_cA
  have hG2 := zG_new hG_sA h_o_sA hf_sA
  exact zq_vret hx hb hr hlocks hZ hw ⟨rfl, cA, sA, ra, rb, hmcA, hmsA, hzra, hzrb, hyr, hcs, h_o, hG1, hG2, hfr⟩ d_ET_init_38
abbrev P_MR_init (K : Nat → ClassId) (M : zq_M) (o : Nat) : Option Value → zq_M → Prop := fun v M' => v = none ∧ ∃ cA ra, M cA = none ∧ (∀ i, 0 ≤ i → i < 12 → M (ra i) = none) ∧ M' o = some (.inr (7, [.ref cA])) ∧ zG K M' cA ra (fun _ _ => 0) ∧ ∀ q, M q ≠ none → q ≠ o → M' q = M q
set_option maxHeartbeats 4000000 in
set_option maxRecDepth 100000 in
theorem c_MR_init (l : Launch) (D : va_G) (K : Nat → ClassId) (M : zq_M) (o : Nat) (h_o : M o = some (.inr (7, [.null]))) : zq_Met l y_MR_init (.code y_MR_init b_MR_init 1 none :: lw_gd) { frames := 1, cells := 13, slots := 408, locals := 12 } D vwCl (zT K) [.ref o] M (P_MR_init K M o) 13 408 := by
  refine zq_start (cc := b_MR_init) (maxL := 1) (ret := none) (by decide) rfl (Nat.le_of_ble_eq_true rfl) ?_
  intro p e s m below meth co A ls hx hb hr hml hts hown hnm hlocks hA hZ hw hl
  have hts : ∀ w ∈ lw_gd, w.before [.ref o].toArray s = true := fun w h => hts w (List.mem_cons_of_mem _ h)
  have hown : s.vm.findClass R_MR = some m.cls := hown
  have hK := hZ.1
  have hnm : meth.name = "<init>" := hnm
  have hl : lv_has ls 1 [(0, .ref o)] := hl
  have hfr : ∀ q, M q ≠ none → q ≠ o → M q = M q := fun q _ _ => rfl
  refine lv_aload_n hx hb d_MR_init_0 rfl (lv_at hl 0 rfl) ?_
  refine W.objInit hx hb hown (hts _ tw_174) (hts _ tw_20) (hts _ tw_21) rfl (by rw [hml]; exact hl.1) rfl d_MR_init_1 (Nat.le_of_ble_eq_true rfl) (Nat.le_of_ble_eq_true rfl) ?_
  refine W.eq (g2 := F0 m 4 ls []) rfl ?_
  refine lv_aload_n hx hb d_MR_init_4 rfl (lv_at hl 0 rfl) ?_
  refine lv_bipush (v := iI 12) hx hb d_MR_init_5 (by decide) ?_
  refine lv_bipush (v := iI 33) hx hb d_MR_init_7 (by decide) ?_
  refine zq_newG hx hb hown (hts _ tw_175) hZ hw hA (Nat.le_of_ble_eq_true rfl) (Nat.le_of_ble_eq_true rfl) d_MR_init_9 (fun cA ra M1 H locs hqcA hra hrq hGn ho hw => ?_)
  have hmcA : M cA = none := Classical.byContradiction fun z => z ((hfr cA z (zq_nn hqcA h_o).symm).symm.trans hqcA)
  have ho : ∀ b, M b ≠ none → M1 b = M b := fun b g0 => ho b (fun z => g0 (by rw [z]; exact hqcA)) (fun i h1 h2 z => g0 (by rw [z]; exact hra i h1 h2))
  have hzra : ∀ i, 0 ≤ i → i < 12 → M (ra i) = none := fun i h1 h2 => Classical.byContradiction fun z => z ((hfr _ z (fun y => by have z2 := hra i h1 h2; rw [y, h_o] at z2; cases z2)).symm.trans (hra i h1 h2))
  have hyra : ∀ j b, M b ≠ none → 0 ≤ j → j < 12 → b ≠ ra j := fun j b h0 h1 h2 z => h0 (by rw [z]; exact hra j h1 h2)
  have h_o : M1 o = some (.inr (7, [.null])) := (ho _ (by rw [h_o]; nofun)).trans h_o
  have hfr : ∀ q, M q ≠ none → q ≠ o → M1 q = M q := fun q g0 g1 => (ho q (by rw [hfr q g0 g1]; exact g0)).trans (hfr q g0 g1)
  have hG_cA := hGn
  have hf_cA : ∀ q, M1 q ≠ none → q ≠ o → M1 q = M1 q := fun q _ _ => rfl
  have h_o_cA := h_o
  have h_cA : M1 cA = some (cQ (K 4) 12 (fun i => some (ra i))) := hGn.1
  refine zq_putF (ci := 7) (v := .ref cA) (ty := .array (.array .int)) hx hb hts i_MR t_MR t_MR_ok n_MR hown hK hw h_o rfl 0 (by decide) (hts _ tw_176) rfl hnm rfl (by decide +kernel) rfl rfl (Nat.le_of_ble_eq_true rfl) d_MR_init_13 (fun M2 H locs hs ho hw => ?_)
  have h_cA : M2 cA = some (cQ (K 4) 12 (fun i => some (ra i))) := (ho _ (zq_ne h_cA h_o (by simp))).trans h_cA
  have h_o : M2 o = some (.inr (7, [.ref cA])) := hs
  have hfr : ∀ q, M q ≠ none → q ≠ o → M2 q = M q := fun q g0 g1 => (ho q g1).trans (hfr q g0 g1)
  have hf_cA : ∀ q, M1 q ≠ none → q ≠ o → M2 q = M1 q := fun q g0 g1 => (ho q g1).trans (hf_cA q g0 g1)
  have hG1 := zG_new hG_cA h_o_cA hf_cA
  exact zq_vret hx hb hr hlocks hZ hw ⟨rfl, cA, ra, hmcA, hzra, h_o, hG1, hfr⟩ d_MR_init_16
