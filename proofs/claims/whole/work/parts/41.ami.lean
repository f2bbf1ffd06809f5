abbrev P_AM_init (K : Nat → ClassId) (M : zq_M) (x : Nat) : Option Value → zq_M → Prop := fun v M' => v = none ∧ ∃ (ad : zAd) (own : Nat → Nat), ad.x = x ∧ zCS K M' own ad ((0, (fun _ => 0), (fun _ => 0), 0, (fun _ => 0), (fun _ => 0), 0, 0, (fun _ => 0), (fun _ => 0), (fun _ => 0), (fun _ => 0), (fun _ => 0), (fun _ _ => 0), (fun _ _ => 0), 0, 0, 0, -1, (fun _ => 0), 0, -1, (fun _ => 0)) : zSt) ∧ (∀ q, M q ≠ none → q ≠ x → own q = 10 ∧ M' q = M q) ∧ ∀ q, own q ≤ 8 → M' q ≠ none
set_option maxHeartbeats 4000000 in
set_option maxRecDepth 100000 in
theorem c_AM_init (l : Launch) (D : va_G) (K : Nat → ClassId) (M : zq_M) (x : Nat) (h_x : M x = some (.inr (0, [.null, .null, .null, .null, .null, .null, .null, .null, .int (iI 0), .int (iI 0)]))) : zq_Met l y_AM_init (.code y_AM_init b_AM_init 1 none :: lw_gd) { frames := 4, cells := 355, slots := 5761, locals := 87 } D vwCl (zT K) [.ref x] M (P_AM_init K M x) 355 5761 := by
  refine zq_start (cc := b_AM_init) (maxL := 1) (ret := none) (by decide) rfl (Nat.le_of_ble_eq_true rfl) ?_
  intro p e s m below meth co A ls hx hb hr hml hts hown hnm hlocks hA hZ hw hl
  have hts : ∀ w ∈ lw_gd, w.before [.ref x].toArray s = true := fun w h => hts w (List.mem_cons_of_mem _ h)
  have hown : s.vm.findClass R_AM = some m.cls := hown
  have hK := hZ.1
  have hnm : meth.name = "<init>" := hnm
  have hl : lv_has ls 1 [(0, .ref x)] := hl
  have hfr : ∀ q, M q ≠ none → q ≠ x → M q = M q := fun q _ _ => rfl
  refine lv_aload_n hx hb d_AM_init_0 rfl (lv_at hl 0 rfl) ?_
  refine W.objInit hx hb hown (hts _ tw_19) (hts _ tw_20) (hts _ tw_21) rfl (by rw [hml]; exact hl.1) rfl d_AM_init_1 (Nat.le_of_ble_eq_true rfl) (Nat.le_of_ble_eq_true rfl) ?_
  refine W.eq (g2 := F0 m 4 ls []) rfl ?_
  have hw0 : ∀ q, M q ≠ none → q ≠ x → M q = M q := fun q _ _ => rfl
  have h_x0 := h_x
  refine lv_aload_n hx hb d_AM_init_4 rfl (lv_at hl 0 rfl) ?_
  refine zq_new (ci := 2) (fs := [.null, .null, .int (iI 0)]) hx hb hts i_CR t_CR t_CR_ok hown (hts _ tw_22) (hts _ tw_23) (hts _ tw_2) hK hw hA rfl (fun j hj => by rcases (show j = 0 ∨ j = 1 ∨ j = 2 by omega) with rfl | rfl | rfl <;> rfl) (Nat.le_of_ble_eq_true rfl) (Nat.le_of_ble_eq_true rfl) d_AM_init_5 (fun pi M1 H hqpi hs ho hw => ?_)
  have hmpi : M pi = none := Classical.byContradiction fun z => z ((hfr pi z (zq_nn hqpi h_x).symm).symm.trans hqpi)
  have hmpi_hw0 : M pi = none := Classical.byContradiction fun z => z ((hw0 pi z (zq_nn hqpi h_x).symm).symm.trans hqpi)
  have h_x : M1 x = some (.inr (0, [.null, .null, .null, .null, .null, .null, .null, .null, .int (iI 0), .int (iI 0)])) := (ho _ (zq_nn hqpi h_x)).trans h_x
  have h_pi : M1 pi = some (.inr (2, [.null, .null, .int (iI 0)])) := hs
  have hfr : ∀ q, M q ≠ none → q ≠ x → M1 q = M q := fun q g0 g1 => (ho q (fun z9 => g0 (by rw [z9]; exact hmpi))).trans (hfr q g0 g1)
  have hw0 : ∀ q, M q ≠ none → q ≠ x → M1 q = M q := fun q g0 g1 => (ho q (fun z9 => g0 (by rw [z9]; exact hmpi_hw0))).trans (hw0 q g0 g1)
  refine lv_dup hx hb d_AM_init_8 rfl ?_
  refine zq_callI (C := "") (As := []) (rest := [.ref pi, .ref x]) ⟨hx, hb, hml, hown, hts⟩ (c_CR_init l D K M1 pi h_pi) (cwI 0 hts (zg_I tw_26) rfl rfl rfl (hts _ tw_2) (hts _ tw_24) (hts _ tw_25) rfl (by decide +kernel) ⟨Nat.le_of_ble_eq_true rfl, Nat.le_of_ble_eq_true rfl⟩) hZ hw hA rfl rfl hl.1 (Nat.le_of_ble_eq_true rfl) d_AM_init_9 ⟨Nat.le_of_ble_eq_true rfl, Nat.le_of_ble_eq_true rfl⟩ (fun v M2 H locs hp hw => ?_)
  obtain ⟨rfl, pis, pil, hqpis, hqpil, hs1, hs2, hs3, ho⟩ := hp
  have h_pi0 := h_pi
  have ho : ∀ q, M1 q ≠ none → q ≠ pi → M2 q = M1 q := fun q g0 g1 => ho q g1 (fun z => g0 (by rw [z]; exact hqpis)) (fun z => g0 (by rw [z]; exact hqpil))
  have hs_o := hs1
  have hmpis : M pis = none := Classical.byContradiction fun z => z ((hfr pis z (zq_nn hqpis h_x).symm).symm.trans hqpis)
  have hmpis_hw0 : M pis = none := Classical.byContradiction fun z => z ((hw0 pis z (zq_nn hqpis h_x).symm).symm.trans hqpis)
  have hmpil : M pil = none := Classical.byContradiction fun z => z ((hfr pil z (zq_nn hqpil h_x).symm).symm.trans hqpil)
  have hmpil_hw0 : M pil = none := Classical.byContradiction fun z => z ((hw0 pil z (zq_nn hqpil h_x).symm).symm.trans hqpil)
  have h_x : M2 x = some (.inr (0, [.null, .null, .null, .null, .null, .null, .null, .null, .int (iI 0), .int (iI 0)])) := (ho _ (by rw [h_x]; nofun) (zq_ne h_x h_pi (by simp))).trans h_x
  have h_pi : M2 pi = some (.inr (2, [.ref pis, .ref pil, .int (iI 0)])) := hs_o
  have hfr : ∀ q, M q ≠ none → q ≠ x → M2 q = M q := fun q g0 g1 => (ho q (by rw [hfr q g0 g1]; exact g0) (fun z9 => g0 (by rw [z9]; exact hmpi))).trans (hfr q g0 g1)
  have hw0 : ∀ q, M q ≠ none → q ≠ x → M2 q = M q := fun q g0 g1 => (ho q (by rw [hw0 q g0 g1]; exact g0) (fun z9 => g0 (by rw [z9]; exact hmpi_hw0))).trans (hw0 q g0 g1)
  have h_pis : M2 pis = some (cI (K 0) 12 (fun _ => 0)) := hs2
  have h_pil : M2 pil = some (cI (K 0) 48 (fun _ => 0)) := hs3
  refine W.eq (g2 := F0 m 12 ls [.ref pi, .ref x]) rfl ?_
  refine zq_putF (ci := 0) (v := .ref pi) (ty := .object "AlexanderMatrix$CrossingRow") hx hb hts i_AM t_AM t_AM_ok n_AM hown hK hw h_x rfl 0 (by decide) (hts _ tw_182) rfl hnm rfl (by decide +kernel) rfl rfl (Nat.le_of_ble_eq_true rfl) d_AM_init_12 (fun M3 H locs hs ho hw => ?_)
  have h_pi : M3 pi = some (.inr (2, [.ref pis, .ref pil, .int (iI 0)])) := (ho _ (zq_ne h_pi h_x (by simp))).trans h_pi
  have h_pis : M3 pis = some (cI (K 0) 12 (fun _ => 0)) := (ho _ (zq_ne h_pis h_x (by simp))).trans h_pis
  have h_pil : M3 pil = some (cI (K 0) 48 (fun _ => 0)) := (ho _ (zq_ne h_pil h_x (by simp))).trans h_pil
  have h_x : M3 x = some (.inr (0, [.ref pi, .null, .null, .null, .null, .null, .null, .null, .int (iI 0), .int (iI 0)])) := hs
  have hfr : ∀ q, M q ≠ none → q ≠ x → M3 q = M q := fun q g0 g1 => (ho q g1).trans (hfr q g0 g1)
  have hw0 : ∀ q, M q ≠ none → q ≠ x → M3 q = M q := fun q g0 g1 => (ho q g1).trans (hw0 q g0 g1)
  have mo0 := hw0
  have hw1 : ∀ q, M3 q ≠ none → q ≠ x → M3 q = M3 q := fun q _ _ => rfl
  have h_x1 := h_x
  have k_pi := h_pi
  have k_pis := h_pis
  have k_pil := h_pil
  refine lv_aload_n hx hb d_AM_init_15 rfl (lv_at hl 0 rfl) ?_
  refine zq_new (ci := 2) (fs := [.null, .null, .int (iI 0)]) hx hb hts i_CR t_CR t_CR_ok hown (hts _ tw_22) (hts _ tw_23) (hts _ tw_2) hK hw hA rfl (fun j hj => by rcases (show j = 0 ∨ j = 1 ∨ j = 2 by omega) with rfl | rfl | rfl <;> rfl) (Nat.le_of_ble_eq_true rfl) (Nat.le_of_ble_eq_true rfl) d_AM_init_16 (fun di M4 H hqdi hs ho hw => ?_)
  have hmdi : M di = none := Classical.byContradiction fun z => z ((hfr di z (zq_nn hqdi h_x).symm).symm.trans hqdi)
  have hmdi_hw0 : M di = none := Classical.byContradiction fun z => z ((hw0 di z (zq_nn hqdi h_x).symm).symm.trans hqdi)
  have hmdi_hw1 : M3 di = none := Classical.byContradiction fun z => z ((hw1 di z (zq_nn hqdi h_x).symm).symm.trans hqdi)
  have h_x : M4 x = some (.inr (0, [.ref pi, .null, .null, .null, .null, .null, .null, .null, .int (iI 0), .int (iI 0)])) := (ho _ (zq_nn hqdi h_x)).trans h_x
  have h_pi : M4 pi = some (.inr (2, [.ref pis, .ref pil, .int (iI 0)])) := (ho _ (zq_nn hqdi h_pi)).trans h_pi
  have h_pis : M4 pis = some (cI (K 0) 12 (fun _ => 0)) := (ho _ (zq_nn hqdi h_pis)).trans h_pis
  have h_pil : M4 pil = some (cI (K 0) 48 (fun _ => 0)) := (ho _ (zq_nn hqdi h_pil)).trans h_pil
  have h_di : M4 di = some (.inr (2, [.null, .null, .int (iI 0)])) := hs
  have hfr : ∀ q, M q ≠ none → q ≠ x → M4 q = M q := fun q g0 g1 => (ho q (fun z9 => g0 (by rw [z9]; exact hmdi))).trans (hfr q g0 g1)
  have hw0 : ∀ q, M q ≠ none → q ≠ x → M4 q = M q := fun q g0 g1 => (ho q (fun z9 => g0 (by rw [z9]; exact hmdi_hw0))).trans (hw0 q g0 g1)
  have hw1 : ∀ q, M3 q ≠ none → q ≠ x → M4 q = M3 q := fun q g0 g1 => (ho q (fun z9 => g0 (by rw [z9]; exact hmdi_hw1))).trans (hw1 q g0 g1)
  refine lv_dup hx hb d_AM_init_19 rfl ?_
  refine zq_callI (C := "") (As := []) (rest := [.ref di, .ref x]) ⟨hx, hb, hml, hown, hts⟩ (c_CR_init l D K M4 di h_di) (cwI 0 hts (zg_I tw_26) rfl rfl rfl (hts _ tw_2) (hts _ tw_24) (hts _ tw_25) rfl (by decide +kernel) ⟨Nat.le_of_ble_eq_true rfl, Nat.le_of_ble_eq_true rfl⟩) hZ hw hA rfl rfl hl.1 (Nat.le_of_ble_eq_true rfl) d_AM_init_20 ⟨Nat.le_of_ble_eq_true rfl, Nat.le_of_ble_eq_true rfl⟩ (fun v M5 H locs hp hw => ?_)
  obtain ⟨rfl, dis, dil, hqdis, hqdil, hs1, hs2, hs3, ho⟩ := hp
  have h_di0 := h_di
  have ho : ∀ q, M4 q ≠ none → q ≠ di → M5 q = M4 q := fun q g0 g1 => ho q g1 (fun z => g0 (by rw [z]; exact hqdis)) (fun z => g0 (by rw [z]; exact hqdil))
  have hs_o := hs1
  have hmdis : M dis = none := Classical.byContradiction fun z => z ((hfr dis z (zq_nn hqdis h_x).symm).symm.trans hqdis)
  have hmdis_hw0 : M dis = none := Classical.byContradiction fun z => z ((hw0 dis z (zq_nn hqdis h_x).symm).symm.trans hqdis)
  have hmdis_hw1 : M3 dis = none := Classical.byContradiction fun z => z ((hw1 dis z (zq_nn hqdis h_x).symm).symm.trans hqdis)
  have hmdil : M dil = none := Classical.byContradiction fun z => z ((hfr dil z (zq_nn hqdil h_x).symm).symm.trans hqdil)
  have hmdil_hw0 : M dil = none := Classical.byContradiction fun z => z ((hw0 dil z (zq_nn hqdil h_x).symm).symm.trans hqdil)
  have hmdil_hw1 : M3 dil = none := Classical.byContradiction fun z => z ((hw1 dil z (zq_nn hqdil h_x).symm).symm.trans hqdil)
  have h_x : M5 x = some (.inr (0, [.ref pi, .null, .null, .null, .null, .null, .null, .null, .int (iI 0), .int (iI 0)])) := (ho _ (by rw [h_x]; nofun) (zq_ne h_x h_di (by simp))).trans h_x
  have h_pi : M5 pi = some (.inr (2, [.ref pis, .ref pil, .int (iI 0)])) := (ho _ (by rw [h_pi]; nofun) (zq_ne h_pi h_di (by simp))).trans h_pi
  have h_pis : M5 pis = some (cI (K 0) 12 (fun _ => 0)) := (ho _ (by rw [h_pis]; nofun) (zq_ne h_pis h_di (by simp))).trans h_pis
  have h_pil : M5 pil = some (cI (K 0) 48 (fun _ => 0)) := (ho _ (by rw [h_pil]; nofun) (zq_ne h_pil h_di (by simp))).trans h_pil
  have h_di : M5 di = some (.inr (2, [.ref dis, .ref dil, .int (iI 0)])) := hs_o
  have hfr : ∀ q, M q ≠ none → q ≠ x → M5 q = M q := fun q g0 g1 => (ho q (by rw [hfr q g0 g1]; exact g0) (fun z9 => g0 (by rw [z9]; exact hmdi))).trans (hfr q g0 g1)
  have hw0 : ∀ q, M q ≠ none → q ≠ x → M5 q = M q := fun q g0 g1 => (ho q (by rw [hw0 q g0 g1]; exact g0) (fun z9 => g0 (by rw [z9]; exact hmdi_hw0))).trans (hw0 q g0 g1)
  have hw1 : ∀ q, M3 q ≠ none → q ≠ x → M5 q = M3 q := fun q g0 g1 => (ho q (by rw [hw1 q g0 g1]; exact g0) (fun z9 => g0 (by rw [z9]; exact hmdi_hw1))).trans (hw1 q g0 g1)
  have h_dis : M5 dis = some (cI (K 0) 12 (fun _ => 0)) := hs2
  have h_dil : M5 dil = some (cI (K 0) 48 (fun _ => 0)) := hs3
  refine W.eq (g2 := F0 m 23 ls [.ref di, .ref x]) rfl ?_
  refine zq_putF (ci := 0) (v := .ref di) (ty := .object "AlexanderMatrix$CrossingRow") hx hb hts i_AM t_AM t_AM_ok n_AM hown hK hw h_x rfl 1 (by decide) (hts _ tw_183) rfl hnm rfl (by decide +kernel) rfl rfl (Nat.le_of_ble_eq_true rfl) d_AM_init_23 (fun M6 H locs hs ho hw => ?_)
  have h_pi : M6 pi = some (.inr (2, [.ref pis, .ref pil, .int (iI 0)])) := (ho _ (zq_ne h_pi h_x (by simp))).trans h_pi
  have h_pis : M6 pis = some (cI (K 0) 12 (fun _ => 0)) := (ho _ (zq_ne h_pis h_x (by simp))).trans h_pis
  have h_pil : M6 pil = some (cI (K 0) 48 (fun _ => 0)) := (ho _ (zq_ne h_pil h_x (by simp))).trans h_pil
  have h_di : M6 di = some (.inr (2, [.ref dis, .ref dil, .int (iI 0)])) := (ho _ (zq_ne h_di h_x (by simp))).trans h_di
  have h_dis : M6 dis = some (cI (K 0) 12 (fun _ => 0)) := (ho _ (zq_ne h_dis h_x (by simp))).trans h_dis
  have h_dil : M6 dil = some (cI (K 0) 48 (fun _ => 0)) := (ho _ (zq_ne h_dil h_x (by simp))).trans h_dil
  have h_x : M6 x = some (.inr (0, [.ref pi, .ref di, .null, .null, .null, .null, .null, .null, .int (iI 0), .int (iI 0)])) := hs
  have hfr : ∀ q, M q ≠ none → q ≠ x → M6 q = M q := fun q g0 g1 => (ho q g1).trans (hfr q g0 g1)
  have hw0 : ∀ q, M q ≠ none → q ≠ x → M6 q = M q := fun q g0 g1 => (ho q g1).trans (hw0 q g0 g1)
  have hw1 : ∀ q, M3 q ≠ none → q ≠ x → M6 q = M3 q := fun q g0 g1 => (ho q g1).trans (hw1 q g0 g1)
  have mo1 := hw1
  have hw2 : ∀ q, M6 q ≠ none → q ≠ x → M6 q = M6 q := fun q _ _ => rfl
  have h_x2 := h_x
  have k_di := h_di
  have k_dis := h_dis
  have k_dil := h_dil
  refine lv_aload_n hx hb d_AM_init_26 rfl (lv_at hl 0 rfl) ?_
  refine zq_new (ci := 4) (fs := [.null, .null, .null, .null]) hx hb hts i_DR t_DR t_DR_ok hown (hts _ tw_39) (hts _ tw_40) (hts _ tw_3) hK hw hA rfl (fun j hj => by rcases (show j = 0 ∨ j = 1 ∨ j = 2 ∨ j = 3 by omega) with rfl | rfl | rfl | rfl <;> rfl) (Nat.le_of_ble_eq_true rfl) (Nat.le_of_ble_eq_true rfl) d_AM_init_27 (fun ru M7 H hqru hs ho hw => ?_)
  have hmru : M ru = none := Classical.byContradiction fun z => z ((hfr ru z (zq_nn hqru h_x).symm).symm.trans hqru)
  have hmru_hw0 : M ru = none := Classical.byContradiction fun z => z ((hw0 ru z (zq_nn hqru h_x).symm).symm.trans hqru)
  have hmru_hw1 : M3 ru = none := Classical.byContradiction fun z => z ((hw1 ru z (zq_nn hqru h_x).symm).symm.trans hqru)
  have hmru_hw2 : M6 ru = none := Classical.byContradiction fun z => z ((hw2 ru z (zq_nn hqru h_x).symm).symm.trans hqru)
  have h_x : M7 x = some (.inr (0, [.ref pi, .ref di, .null, .null, .null, .null, .null, .null, .int (iI 0), .int (iI 0)])) := (ho _ (zq_nn hqru h_x)).trans h_x
  have h_pi : M7 pi = some (.inr (2, [.ref pis, .ref pil, .int (iI 0)])) := (ho _ (zq_nn hqru h_pi)).trans h_pi
  have h_pis : M7 pis = some (cI (K 0) 12 (fun _ => 0)) := (ho _ (zq_nn hqru h_pis)).trans h_pis
  have h_pil : M7 pil = some (cI (K 0) 48 (fun _ => 0)) := (ho _ (zq_nn hqru h_pil)).trans h_pil
  have h_di : M7 di = some (.inr (2, [.ref dis, .ref dil, .int (iI 0)])) := (ho _ (zq_nn hqru h_di)).trans h_di
  have h_dis : M7 dis = some (cI (K 0) 12 (fun _ => 0)) := (ho _ (zq_nn hqru h_dis)).trans h_dis
  have h_dil : M7 dil = some (cI (K 0) 48 (fun _ => 0)) := (ho _ (zq_nn hqru h_dil)).trans h_dil
  have h_ru : M7 ru = some (.inr (4, [.null, .null, .null, .null])) := hs
  have hfr : ∀ q, M q ≠ none → q ≠ x → M7 q = M q := fun q g0 g1 => (ho q (fun z9 => g0 (by rw [z9]; exact hmru))).trans (hfr q g0 g1)
  have hw0 : ∀ q, M q ≠ none → q ≠ x → M7 q = M q := fun q g0 g1 => (ho q (fun z9 => g0 (by rw [z9]; exact hmru_hw0))).trans (hw0 q g0 g1)
  have hw1 : ∀ q, M3 q ≠ none → q ≠ x → M7 q = M3 q := fun q g0 g1 => (ho q (fun z9 => g0 (by rw [z9]; exact hmru_hw1))).trans (hw1 q g0 g1)
  have hw2 : ∀ q, M6 q ≠ none → q ≠ x → M7 q = M6 q := fun q g0 g1 => (ho q (fun z9 => g0 (by rw [z9]; exact hmru_hw2))).trans (hw2 q g0 g1)
  refine lv_dup hx hb d_AM_init_30 rfl ?_
  refine zq_callI (C := "") (As := []) (rest := [.ref ru, .ref x]) ⟨hx, hb, hml, hown, hts⟩ (c_DR_init l D K M7 ru h_ru) (cwI 0 hts (zg_I tw_43) rfl rfl rfl (hts _ tw_3) (hts _ tw_41) (hts _ tw_42) rfl (by decide +kernel) ⟨Nat.le_of_ble_eq_true rfl, Nat.le_of_ble_eq_true rfl⟩) hZ hw hA rfl rfl hl.1 (Nat.le_of_ble_eq_true rfl) d_AM_init_31 ⟨Nat.le_of_ble_eq_true rfl, Nat.le_of_ble_eq_true rfl⟩ (fun v M8 H locs hp hw => ?_)
  obtain ⟨rfl, r1, r2, r3, r4, hqr1, hqr2, hqr3, hqr4, hbc, had, hs1, hs2, hs3, hs4, hs5, ho⟩ := hp
  have h_ru0 := h_ru
  have hs_o := hs1
  have hmr1 : M r1 = none := Classical.byContradiction fun z => z ((hfr r1 z (zq_nn hqr1 h_x).symm).symm.trans hqr1)
  have hmr1_hw0 : M r1 = none := Classical.byContradiction fun z => z ((hw0 r1 z (zq_nn hqr1 h_x).symm).symm.trans hqr1)
  have hmr1_hw1 : M3 r1 = none := Classical.byContradiction fun z => z ((hw1 r1 z (zq_nn hqr1 h_x).symm).symm.trans hqr1)
  have hmr1_hw2 : M6 r1 = none := Classical.byContradiction fun z => z ((hw2 r1 z (zq_nn hqr1 h_x).symm).symm.trans hqr1)
  have hmr2 : M r2 = none := Classical.byContradiction fun z => z ((hfr r2 z (zq_nn hqr2 h_x).symm).symm.trans hqr2)
  have hmr2_hw0 : M r2 = none := Classical.byContradiction fun z => z ((hw0 r2 z (zq_nn hqr2 h_x).symm).symm.trans hqr2)
  have hmr2_hw1 : M3 r2 = none := Classical.byContradiction fun z => z ((hw1 r2 z (zq_nn hqr2 h_x).symm).symm.trans hqr2)
  have hmr2_hw2 : M6 r2 = none := Classical.byContradiction fun z => z ((hw2 r2 z (zq_nn hqr2 h_x).symm).symm.trans hqr2)
  have hmr3 : M r3 = none := Classical.byContradiction fun z => z ((hfr r3 z (zq_nn hqr3 h_x).symm).symm.trans hqr3)
  have hmr3_hw0 : M r3 = none := Classical.byContradiction fun z => z ((hw0 r3 z (zq_nn hqr3 h_x).symm).symm.trans hqr3)
  have hmr3_hw1 : M3 r3 = none := Classical.byContradiction fun z => z ((hw1 r3 z (zq_nn hqr3 h_x).symm).symm.trans hqr3)
  have hmr3_hw2 : M6 r3 = none := Classical.byContradiction fun z => z ((hw2 r3 z (zq_nn hqr3 h_x).symm).symm.trans hqr3)
  have hmr4 : M r4 = none := Classical.byContradiction fun z => z ((hfr r4 z (zq_nn hqr4 h_x).symm).symm.trans hqr4)
  have hmr4_hw0 : M r4 = none := Classical.byContradiction fun z => z ((hw0 r4 z (zq_nn hqr4 h_x).symm).symm.trans hqr4)
  have hmr4_hw1 : M3 r4 = none := Classical.byContradiction fun z => z ((hw1 r4 z (zq_nn hqr4 h_x).symm).symm.trans hqr4)
  have hmr4_hw2 : M6 r4 = none := Classical.byContradiction fun z => z ((hw2 r4 z (zq_nn hqr4 h_x).symm).symm.trans hqr4)
  have h_x : M8 x = some (.inr (0, [.ref pi, .ref di, .null, .null, .null, .null, .null, .null, .int (iI 0), .int (iI 0)])) := (ho _ (by rw [h_x]; nofun) (zq_ne h_x h_ru (by simp))).trans h_x
  have h_pi : M8 pi = some (.inr (2, [.ref pis, .ref pil, .int (iI 0)])) := (ho _ (by rw [h_pi]; nofun) (zq_ne h_pi h_ru (by simp))).trans h_pi
  have h_pis : M8 pis = some (cI (K 0) 12 (fun _ => 0)) := (ho _ (by rw [h_pis]; nofun) (zq_ne h_pis h_ru (by simp))).trans h_pis
  have h_pil : M8 pil = some (cI (K 0) 48 (fun _ => 0)) := (ho _ (by rw [h_pil]; nofun) (zq_ne h_pil h_ru (by simp))).trans h_pil
  have h_di : M8 di = some (.inr (2, [.ref dis, .ref dil, .int (iI 0)])) := (ho _ (by rw [h_di]; nofun) (zq_ne h_di h_ru (by simp))).trans h_di
  have h_dis : M8 dis = some (cI (K 0) 12 (fun _ => 0)) := (ho _ (by rw [h_dis]; nofun) (zq_ne h_dis h_ru (by simp))).trans h_dis
  have h_dil : M8 dil = some (cI (K 0) 48 (fun _ => 0)) := (ho _ (by rw [h_dil]; nofun) (zq_ne h_dil h_ru (by simp))).trans h_dil
  have h_ru : M8 ru = some (.inr (4, [.ref r1, .ref r2, .ref r3, .ref r4])) := hs_o
  have hfr : ∀ q, M q ≠ none → q ≠ x → M8 q = M q := fun q g0 g1 => (ho q (by rw [hfr q g0 g1]; exact g0) (fun z9 => g0 (by rw [z9]; exact hmru))).trans (hfr q g0 g1)
  have hw0 : ∀ q, M q ≠ none → q ≠ x → M8 q = M q := fun q g0 g1 => (ho q (by rw [hw0 q g0 g1]; exact g0) (fun z9 => g0 (by rw [z9]; exact hmru_hw0))).trans (hw0 q g0 g1)
  have hw1 : ∀ q, M3 q ≠ none → q ≠ x → M8 q = M3 q := fun q g0 g1 => (ho q (by rw [hw1 q g0 g1]; exact g0) (fun z9 => g0 (by rw [z9]; exact hmru_hw1))).trans (hw1 q g0 g1)
  have hw2 : ∀ q, M6 q ≠ none → q ≠ x → M8 q = M6 q := fun q g0 g1 => (ho q (by rw [hw2 q g0 g1]; exact g0) (fun z9 => g0 (by rw [z9]; exact hmru_hw2))).trans (hw2 q g0 g1)
  have h_r1 : M8 r1 = some (cI (K 0) 48 (fun _ => 0)) := hs2
  have h_r2 : M8 r2 = some (cI (K 0) 12 (fun _ => 0)) := hs3
  have h_r3 : M8 r3 = some (cI (K 0) 12 (fun _ => 0)) := hs4
  have h_r4 : M8 r4 = some (cI (K 2) 48 (fun _ => 0)) := hs5
  refine W.eq (g2 := F0 m 34 ls [.ref ru, .ref x]) rfl ?_
  refine zq_putF (ci := 0) (v := .ref ru) (ty := .object "AlexanderMatrix$DiagramRules") hx hb hts i_AM t_AM t_AM_ok n_AM hown hK hw h_x rfl 2 (by decide) (hts _ tw_184) rfl hnm rfl (by decide +kernel) rfl rfl (Nat.le_of_ble_eq_true rfl) d_AM_init_34 (fun M9 H locs hs ho hw => ?_)
  have h_pi : M9 pi = some (.inr (2, [.ref pis, .ref pil, .int (iI 0)])) := (ho _ (zq_ne h_pi h_x (by simp))).trans h_pi
  have h_pis : M9 pis = some (cI (K 0) 12 (fun _ => 0)) := (ho _ (zq_ne h_pis h_x (by simp))).trans h_pis
  have h_pil : M9 pil = some (cI (K 0) 48 (fun _ => 0)) := (ho _ (zq_ne h_pil h_x (by simp))).trans h_pil
  have h_di : M9 di = some (.inr (2, [.ref dis, .ref dil, .int (iI 0)])) := (ho _ (zq_ne h_di h_x (by simp))).trans h_di
  have h_dis : M9 dis = some (cI (K 0) 12 (fun _ => 0)) := (ho _ (zq_ne h_dis h_x (by simp))).trans h_dis
  have h_dil : M9 dil = some (cI (K 0) 48 (fun _ => 0)) := (ho _ (zq_ne h_dil h_x (by simp))).trans h_dil
  have h_ru : M9 ru = some (.inr (4, [.ref r1, .ref r2, .ref r3, .ref r4])) := (ho _ (zq_ne h_ru h_x (by simp))).trans h_ru
  have h_r1 : M9 r1 = some (cI (K 0) 48 (fun _ => 0)) := (ho _ (zq_ne h_r1 h_x (by simp))).trans h_r1
  have h_r2 : M9 r2 = some (cI (K 0) 12 (fun _ => 0)) := (ho _ (zq_ne h_r2 h_x (by simp))).trans h_r2
  have h_r3 : M9 r3 = some (cI (K 0) 12 (fun _ => 0)) := (ho _ (zq_ne h_r3 h_x (by simp))).trans h_r3
  have h_r4 : M9 r4 = some (cI (K 2) 48 (fun _ => 0)) := (ho _ (zq_ne h_r4 h_x (by simp))).trans h_r4
  have h_x : M9 x = some (.inr (0, [.ref pi, .ref di, .ref ru, .null, .null, .null, .null, .null, .int (iI 0), .int (iI 0)])) := hs
  have hfr : ∀ q, M q ≠ none → q ≠ x → M9 q = M q := fun q g0 g1 => (ho q g1).trans (hfr q g0 g1)
  have hw0 : ∀ q, M q ≠ none → q ≠ x → M9 q = M q := fun q g0 g1 => (ho q g1).trans (hw0 q g0 g1)
  have hw1 : ∀ q, M3 q ≠ none → q ≠ x → M9 q = M3 q := fun q g0 g1 => (ho q g1).trans (hw1 q g0 g1)
  have hw2 : ∀ q, M6 q ≠ none → q ≠ x → M9 q = M6 q := fun q g0 g1 => (ho q g1).trans (hw2 q g0 g1)
  have mo2 := hw2
  have hw3 : ∀ q, M9 q ≠ none → q ≠ x → M9 q = M9 q := fun q _ _ => rfl
  have h_x3 := h_x
  have k_ru := h_ru
  have k_r1 := h_r1
  have k_r2 := h_r2
  have k_r3 := h_r3
  have k_r4 := h_r4
  refine lv_aload_n hx hb d_AM_init_37 rfl (lv_at hl 0 rfl) ?_
  refine zq_new (ci := 1) (fs := [.null, .null, .null, .int (iI 0), .int (iI 0)]) hx hb hts i_AL t_AL t_AL_ok hown (hts _ tw_59) (hts _ tw_60) (hts _ tw_4) hK hw hA rfl (fun j hj => by rcases (show j = 0 ∨ j = 1 ∨ j = 2 ∨ j = 3 ∨ j = 4 by omega) with rfl | rfl | rfl | rfl | rfl <;> rfl) (Nat.le_of_ble_eq_true rfl) (Nat.le_of_ble_eq_true rfl) d_AM_init_38 (fun al M10 H hqal hs ho hw => ?_)
  have hmal : M al = none := Classical.byContradiction fun z => z ((hfr al z (zq_nn hqal h_x).symm).symm.trans hqal)
  have hmal_hw0 : M al = none := Classical.byContradiction fun z => z ((hw0 al z (zq_nn hqal h_x).symm).symm.trans hqal)
  have hmal_hw1 : M3 al = none := Classical.byContradiction fun z => z ((hw1 al z (zq_nn hqal h_x).symm).symm.trans hqal)
  have hmal_hw2 : M6 al = none := Classical.byContradiction fun z => z ((hw2 al z (zq_nn hqal h_x).symm).symm.trans hqal)
  have hmal_hw3 : M9 al = none := Classical.byContradiction fun z => z ((hw3 al z (zq_nn hqal h_x).symm).symm.trans hqal)
  have h_x : M10 x = some (.inr (0, [.ref pi, .ref di, .ref ru, .null, .null, .null, .null, .null, .int (iI 0), .int (iI 0)])) := (ho _ (zq_nn hqal h_x)).trans h_x
  have h_pi : M10 pi = some (.inr (2, [.ref pis, .ref pil, .int (iI 0)])) := (ho _ (zq_nn hqal h_pi)).trans h_pi
  have h_pis : M10 pis = some (cI (K 0) 12 (fun _ => 0)) := (ho _ (zq_nn hqal h_pis)).trans h_pis
  have h_pil : M10 pil = some (cI (K 0) 48 (fun _ => 0)) := (ho _ (zq_nn hqal h_pil)).trans h_pil
  have h_di : M10 di = some (.inr (2, [.ref dis, .ref dil, .int (iI 0)])) := (ho _ (zq_nn hqal h_di)).trans h_di
  have h_dis : M10 dis = some (cI (K 0) 12 (fun _ => 0)) := (ho _ (zq_nn hqal h_dis)).trans h_dis
  have h_dil : M10 dil = some (cI (K 0) 48 (fun _ => 0)) := (ho _ (zq_nn hqal h_dil)).trans h_dil
  have h_ru : M10 ru = some (.inr (4, [.ref r1, .ref r2, .ref r3, .ref r4])) := (ho _ (zq_nn hqal h_ru)).trans h_ru
  have h_r1 : M10 r1 = some (cI (K 0) 48 (fun _ => 0)) := (ho _ (zq_nn hqal h_r1)).trans h_r1
  have h_r2 : M10 r2 = some (cI (K 0) 12 (fun _ => 0)) := (ho _ (zq_nn hqal h_r2)).trans h_r2
  have h_r3 : M10 r3 = some (cI (K 0) 12 (fun _ => 0)) := (ho _ (zq_nn hqal h_r3)).trans h_r3
  have h_r4 : M10 r4 = some (cI (K 2) 48 (fun _ => 0)) := (ho _ (zq_nn hqal h_r4)).trans h_r4
  have h_al : M10 al = some (.inr (1, [.null, .null, .null, .int (iI 0), .int (iI 0)])) := hs
  have hfr : ∀ q, M q ≠ none → q ≠ x → M10 q = M q := fun q g0 g1 => (ho q (fun z9 => g0 (by rw [z9]; exact hmal))).trans (hfr q g0 g1)
  have hw0 : ∀ q, M q ≠ none → q ≠ x → M10 q = M q := fun q g0 g1 => (ho q (fun z9 => g0 (by rw [z9]; exact hmal_hw0))).trans (hw0 q g0 g1)
  have hw1 : ∀ q, M3 q ≠ none → q ≠ x → M10 q = M3 q := fun q g0 g1 => (ho q (fun z9 => g0 (by rw [z9]; exact hmal_hw1))).trans (hw1 q g0 g1)
  have hw2 : ∀ q, M6 q ≠ none → q ≠ x → M10 q = M6 q := fun q g0 g1 => (ho q (fun z9 => g0 (by rw [z9]; exact hmal_hw2))).trans (hw2 q g0 g1)
  have hw3 : ∀ q, M9 q ≠ none → q ≠ x → M10 q = M9 q := fun q g0 g1 => (ho q (fun z9 => g0 (by rw [z9]; exact hmal_hw3))).trans (hw3 q g0 g1)
  refine lv_dup hx hb d_AM_init_41 rfl ?_
  refine zq_callI (C := "") (As := []) (rest := [.ref al, .ref x]) ⟨hx, hb, hml, hown, hts⟩ (c_AL_init l D K M10 al h_al) (cwI 0 hts (zg_I tw_63) rfl rfl rfl (hts _ tw_4) (hts _ tw_61) (hts _ tw_62) rfl (by decide +kernel) ⟨Nat.le_of_ble_eq_true rfl, Nat.le_of_ble_eq_true rfl⟩) hZ hw hA rfl rfl hl.1 (Nat.le_of_ble_eq_true rfl) d_AM_init_42 ⟨Nat.le_of_ble_eq_true rfl, Nat.le_of_ble_eq_true rfl⟩ (fun v M11 H locs hp hw => ?_)
  obtain ⟨rfl, a1, a2, a3, hqa1, hqa2, hqa3, hab, hs1, hs2, hs3, hs4, ho⟩ := hp
  have h_al0 := h_al
  have ho : ∀ q, M10 q ≠ none → q ≠ al → M11 q = M10 q := fun q g0 g1 => ho q g1 (fun z => g0 (by rw [z]; exact hqa1)) (fun z => g0 (by rw [z]; exact hqa2)) (fun z => g0 (by rw [z]; exact hqa3))
  have hs_o := hs1
  have hma1 : M a1 = none := Classical.byContradiction fun z => z ((hfr a1 z (zq_nn hqa1 h_x).symm).symm.trans hqa1)
  have hma1_hw0 : M a1 = none := Classical.byContradiction fun z => z ((hw0 a1 z (zq_nn hqa1 h_x).symm).symm.trans hqa1)
  have hma1_hw1 : M3 a1 = none := Classical.byContradiction fun z => z ((hw1 a1 z (zq_nn hqa1 h_x).symm).symm.trans hqa1)
  have hma1_hw2 : M6 a1 = none := Classical.byContradiction fun z => z ((hw2 a1 z (zq_nn hqa1 h_x).symm).symm.trans hqa1)
  have hma1_hw3 : M9 a1 = none := Classical.byContradiction fun z => z ((hw3 a1 z (zq_nn hqa1 h_x).symm).symm.trans hqa1)
  have hma2 : M a2 = none := Classical.byContradiction fun z => z ((hfr a2 z (zq_nn hqa2 h_x).symm).symm.trans hqa2)
  have hma2_hw0 : M a2 = none := Classical.byContradiction fun z => z ((hw0 a2 z (zq_nn hqa2 h_x).symm).symm.trans hqa2)
  have hma2_hw1 : M3 a2 = none := Classical.byContradiction fun z => z ((hw1 a2 z (zq_nn hqa2 h_x).symm).symm.trans hqa2)
  have hma2_hw2 : M6 a2 = none := Classical.byContradiction fun z => z ((hw2 a2 z (zq_nn hqa2 h_x).symm).symm.trans hqa2)
  have hma2_hw3 : M9 a2 = none := Classical.byContradiction fun z => z ((hw3 a2 z (zq_nn hqa2 h_x).symm).symm.trans hqa2)
  have hma3 : M a3 = none := Classical.byContradiction fun z => z ((hfr a3 z (zq_nn hqa3 h_x).symm).symm.trans hqa3)
  have hma3_hw0 : M a3 = none := Classical.byContradiction fun z => z ((hw0 a3 z (zq_nn hqa3 h_x).symm).symm.trans hqa3)
  have hma3_hw1 : M3 a3 = none := Classical.byContradiction fun z => z ((hw1 a3 z (zq_nn hqa3 h_x).symm).symm.trans hqa3)
  have hma3_hw2 : M6 a3 = none := Classical.byContradiction fun z => z ((hw2 a3 z (zq_nn hqa3 h_x).symm).symm.trans hqa3)
  have hma3_hw3 : M9 a3 = none := Classical.byContradiction fun z => z ((hw3 a3 z (zq_nn hqa3 h_x).symm).symm.trans hqa3)
  have h_x : M11 x = some (.inr (0, [.ref pi, .ref di, .ref ru, .null, .null, .null, .null, .null, .int (iI 0), .int (iI 0)])) := (ho _ (by rw [h_x]; nofun) (zq_ne h_x h_al (by simp))).trans h_x
  have h_pi : M11 pi = some (.inr (2, [.ref pis, .ref pil, .int (iI 0)])) := (ho _ (by rw [h_pi]; nofun) (zq_ne h_pi h_al (by simp))).trans h_pi
  have h_pis : M11 pis = some (cI (K 0) 12 (fun _ => 0)) := (ho _ (by rw [h_pis]; nofun) (zq_ne h_pis h_al (by simp))).trans h_pis
  have h_pil : M11 pil = some (cI (K 0) 48 (fun _ => 0)) := (ho _ (by rw [h_pil]; nofun) (zq_ne h_pil h_al (by simp))).trans h_pil
  have h_di : M11 di = some (.inr (2, [.ref dis, .ref dil, .int (iI 0)])) := (ho _ (by rw [h_di]; nofun) (zq_ne h_di h_al (by simp))).trans h_di
  have h_dis : M11 dis = some (cI (K 0) 12 (fun _ => 0)) := (ho _ (by rw [h_dis]; nofun) (zq_ne h_dis h_al (by simp))).trans h_dis
  have h_dil : M11 dil = some (cI (K 0) 48 (fun _ => 0)) := (ho _ (by rw [h_dil]; nofun) (zq_ne h_dil h_al (by simp))).trans h_dil
  have h_ru : M11 ru = some (.inr (4, [.ref r1, .ref r2, .ref r3, .ref r4])) := (ho _ (by rw [h_ru]; nofun) (zq_ne h_ru h_al (by simp))).trans h_ru
  have h_r1 : M11 r1 = some (cI (K 0) 48 (fun _ => 0)) := (ho _ (by rw [h_r1]; nofun) (zq_ne h_r1 h_al (by simp))).trans h_r1
  have h_r2 : M11 r2 = some (cI (K 0) 12 (fun _ => 0)) := (ho _ (by rw [h_r2]; nofun) (zq_ne h_r2 h_al (by simp))).trans h_r2
  have h_r3 : M11 r3 = some (cI (K 0) 12 (fun _ => 0)) := (ho _ (by rw [h_r3]; nofun) (zq_ne h_r3 h_al (by simp))).trans h_r3
  have h_r4 : M11 r4 = some (cI (K 2) 48 (fun _ => 0)) := (ho _ (by rw [h_r4]; nofun) (zq_ne h_r4 h_al (by simp))).trans h_r4
  have h_al : M11 al = some (.inr (1, [.ref a1, .ref a2, .ref a3, .int (iI 0), .int (iI 0)])) := hs_o
  have hfr : ∀ q, M q ≠ none → q ≠ x → M11 q = M q := fun q g0 g1 => (ho q (by rw [hfr q g0 g1]; exact g0) (fun z9 => g0 (by rw [z9]; exact hmal))).trans (hfr q g0 g1)
  have hw0 : ∀ q, M q ≠ none → q ≠ x → M11 q = M q := fun q g0 g1 => (ho q (by rw [hw0 q g0 g1]; exact g0) (fun z9 => g0 (by rw [z9]; exact hmal_hw0))).trans (hw0 q g0 g1)
  have hw1 : ∀ q, M3 q ≠ none → q ≠ x → M11 q = M3 q := fun q g0 g1 => (ho q (by rw [hw1 q g0 g1]; exact g0) (fun z9 => g0 (by rw [z9]; exact hmal_hw1))).trans (hw1 q g0 g1)
  have hw2 : ∀ q, M6 q ≠ none → q ≠ x → M11 q = M6 q := fun q g0 g1 => (ho q (by rw [hw2 q g0 g1]; exact g0) (fun z9 => g0 (by rw [z9]; exact hmal_hw2))).trans (hw2 q g0 g1)
  have hw3 : ∀ q, M9 q ≠ none → q ≠ x → M11 q = M9 q := fun q g0 g1 => (ho q (by rw [hw3 q g0 g1]; exact g0) (fun z9 => g0 (by rw [z9]; exact hmal_hw3))).trans (hw3 q g0 g1)
  have h_a1 : M11 a1 = some (cI (K 0) 48 (fun _ => 0)) := hs2
  have h_a2 : M11 a2 = some (cI (K 0) 48 (fun _ => 0)) := hs3
  have h_a3 : M11 a3 = some (cI (K 0) 33 (fun _ => 0)) := hs4
  refine W.eq (g2 := F0 m 45 ls [.ref al, .ref x]) rfl ?_
  refine zq_putF (ci := 0) (v := .ref al) (ty := .object "AlexanderMatrix$ArcList") hx hb hts i_AM t_AM t_AM_ok n_AM hown hK hw h_x rfl 3 (by decide) (hts _ tw_185) rfl hnm rfl (by decide +kernel) rfl rfl (Nat.le_of_ble_eq_true rfl) d_AM_init_45 (fun M12 H locs hs ho hw => ?_)
  have h_pi : M12 pi = some (.inr (2, [.ref pis, .ref pil, .int (iI 0)])) := (ho _ (zq_ne h_pi h_x (by simp))).trans h_pi
  have h_pis : M12 pis = some (cI (K 0) 12 (fun _ => 0)) := (ho _ (zq_ne h_pis h_x (by simp))).trans h_pis
  have h_pil : M12 pil = some (cI (K 0) 48 (fun _ => 0)) := (ho _ (zq_ne h_pil h_x (by simp))).trans h_pil
  have h_di : M12 di = some (.inr (2, [.ref dis, .ref dil, .int (iI 0)])) := (ho _ (zq_ne h_di h_x (by simp))).trans h_di
  have h_dis : M12 dis = some (cI (K 0) 12 (fun _ => 0)) := (ho _ (zq_ne h_dis h_x (by simp))).trans h_dis
  have h_dil : M12 dil = some (cI (K 0) 48 (fun _ => 0)) := (ho _ (zq_ne h_dil h_x (by simp))).trans h_dil
  have h_ru : M12 ru = some (.inr (4, [.ref r1, .ref r2, .ref r3, .ref r4])) := (ho _ (zq_ne h_ru h_x (by simp))).trans h_ru
  have h_r1 : M12 r1 = some (cI (K 0) 48 (fun _ => 0)) := (ho _ (zq_ne h_r1 h_x (by simp))).trans h_r1
  have h_r2 : M12 r2 = some (cI (K 0) 12 (fun _ => 0)) := (ho _ (zq_ne h_r2 h_x (by simp))).trans h_r2
  have h_r3 : M12 r3 = some (cI (K 0) 12 (fun _ => 0)) := (ho _ (zq_ne h_r3 h_x (by simp))).trans h_r3
  have h_r4 : M12 r4 = some (cI (K 2) 48 (fun _ => 0)) := (ho _ (zq_ne h_r4 h_x (by simp))).trans h_r4
  have h_al : M12 al = some (.inr (1, [.ref a1, .ref a2, .ref a3, .int (iI 0), .int (iI 0)])) := (ho _ (zq_ne h_al h_x (by simp))).trans h_al
  have h_a1 : M12 a1 = some (cI (K 0) 48 (fun _ => 0)) := (ho _ (zq_ne h_a1 h_x (by simp))).trans h_a1
  have h_a2 : M12 a2 = some (cI (K 0) 48 (fun _ => 0)) := (ho _ (zq_ne h_a2 h_x (by simp))).trans h_a2
  have h_a3 : M12 a3 = some (cI (K 0) 33 (fun _ => 0)) := (ho _ (zq_ne h_a3 h_x (by simp))).trans h_a3
  have h_x : M12 x = some (.inr (0, [.ref pi, .ref di, .ref ru, .ref al, .null, .null, .null, .null, .int (iI 0), .int (iI 0)])) := hs
  have hfr : ∀ q, M q ≠ none → q ≠ x → M12 q = M q := fun q g0 g1 => (ho q g1).trans (hfr q g0 g1)
  have hw0 : ∀ q, M q ≠ none → q ≠ x → M12 q = M q := fun q g0 g1 => (ho q g1).trans (hw0 q g0 g1)
  have hw1 : ∀ q, M3 q ≠ none → q ≠ x → M12 q = M3 q := fun q g0 g1 => (ho q g1).trans (hw1 q g0 g1)
  have hw2 : ∀ q, M6 q ≠ none → q ≠ x → M12 q = M6 q := fun q g0 g1 => (ho q g1).trans (hw2 q g0 g1)
  have hw3 : ∀ q, M9 q ≠ none → q ≠ x → M12 q = M9 q := fun q g0 g1 => (ho q g1).trans (hw3 q g0 g1)
  have mo3 := hw3
  have hw4 : ∀ q, M12 q ≠ none → q ≠ x → M12 q = M12 q := fun q _ _ => rfl
  have h_x4 := h_x
  have k_al := h_al
  have k_a1 := h_a1
  have k_a2 := h_a2
  have k_a3 := h_a3
  refine lv_aload_n hx hb d_AM_init_48 rfl (lv_at hl 0 rfl) ?_
  refine zq_new (ci := 5) (fs := [.null, .null, .int (iI 0), .int (iI 0)]) hx hb hts i_ET t_ET t_ET_ok hown (hts _ tw_81) (hts _ tw_82) (hts _ tw_5) hK hw hA rfl (fun j hj => by rcases (show j = 0 ∨ j = 1 ∨ j = 2 ∨ j = 3 by omega) with rfl | rfl | rfl | rfl <;> rfl) (Nat.le_of_ble_eq_true rfl) (Nat.le_of_ble_eq_true rfl) d_AM_init_49 (fun et M13 H hqet hs ho hw => ?_)
  have hmet : M et = none := Classical.byContradiction fun z => z ((hfr et z (zq_nn hqet h_x).symm).symm.trans hqet)
  have hmet_hw0 : M et = none := Classical.byContradiction fun z => z ((hw0 et z (zq_nn hqet h_x).symm).symm.trans hqet)
  have hmet_hw1 : M3 et = none := Classical.byContradiction fun z => z ((hw1 et z (zq_nn hqet h_x).symm).symm.trans hqet)
  have hmet_hw2 : M6 et = none := Classical.byContradiction fun z => z ((hw2 et z (zq_nn hqet h_x).symm).symm.trans hqet)
  have hmet_hw3 : M9 et = none := Classical.byContradiction fun z => z ((hw3 et z (zq_nn hqet h_x).symm).symm.trans hqet)
  have hmet_hw4 : M12 et = none := Classical.byContradiction fun z => z ((hw4 et z (zq_nn hqet h_x).symm).symm.trans hqet)
  have h_x : M13 x = some (.inr (0, [.ref pi, .ref di, .ref ru, .ref al, .null, .null, .null, .null, .int (iI 0), .int (iI 0)])) := (ho _ (zq_nn hqet h_x)).trans h_x
  have h_pi : M13 pi = some (.inr (2, [.ref pis, .ref pil, .int (iI 0)])) := (ho _ (zq_nn hqet h_pi)).trans h_pi
  have h_pis : M13 pis = some (cI (K 0) 12 (fun _ => 0)) := (ho _ (zq_nn hqet h_pis)).trans h_pis
  have h_pil : M13 pil = some (cI (K 0) 48 (fun _ => 0)) := (ho _ (zq_nn hqet h_pil)).trans h_pil
  have h_di : M13 di = some (.inr (2, [.ref dis, .ref dil, .int (iI 0)])) := (ho _ (zq_nn hqet h_di)).trans h_di
  have h_dis : M13 dis = some (cI (K 0) 12 (fun _ => 0)) := (ho _ (zq_nn hqet h_dis)).trans h_dis
  have h_dil : M13 dil = some (cI (K 0) 48 (fun _ => 0)) := (ho _ (zq_nn hqet h_dil)).trans h_dil
  have h_ru : M13 ru = some (.inr (4, [.ref r1, .ref r2, .ref r3, .ref r4])) := (ho _ (zq_nn hqet h_ru)).trans h_ru
  have h_r1 : M13 r1 = some (cI (K 0) 48 (fun _ => 0)) := (ho _ (zq_nn hqet h_r1)).trans h_r1
  have h_r2 : M13 r2 = some (cI (K 0) 12 (fun _ => 0)) := (ho _ (zq_nn hqet h_r2)).trans h_r2
  have h_r3 : M13 r3 = some (cI (K 0) 12 (fun _ => 0)) := (ho _ (zq_nn hqet h_r3)).trans h_r3
  have h_r4 : M13 r4 = some (cI (K 2) 48 (fun _ => 0)) := (ho _ (zq_nn hqet h_r4)).trans h_r4
  have h_al : M13 al = some (.inr (1, [.ref a1, .ref a2, .ref a3, .int (iI 0), .int (iI 0)])) := (ho _ (zq_nn hqet h_al)).trans h_al
  have h_a1 : M13 a1 = some (cI (K 0) 48 (fun _ => 0)) := (ho _ (zq_nn hqet h_a1)).trans h_a1
  have h_a2 : M13 a2 = some (cI (K 0) 48 (fun _ => 0)) := (ho _ (zq_nn hqet h_a2)).trans h_a2
  have h_a3 : M13 a3 = some (cI (K 0) 33 (fun _ => 0)) := (ho _ (zq_nn hqet h_a3)).trans h_a3
  have h_et : M13 et = some (.inr (5, [.null, .null, .int (iI 0), .int (iI 0)])) := hs
  have hfr : ∀ q, M q ≠ none → q ≠ x → M13 q = M q := fun q g0 g1 => (ho q (fun z9 => g0 (by rw [z9]; exact hmet))).trans (hfr q g0 g1)
  have hw0 : ∀ q, M q ≠ none → q ≠ x → M13 q = M q := fun q g0 g1 => (ho q (fun z9 => g0 (by rw [z9]; exact hmet_hw0))).trans (hw0 q g0 g1)
  have hw1 : ∀ q, M3 q ≠ none → q ≠ x → M13 q = M3 q := fun q g0 g1 => (ho q (fun z9 => g0 (by rw [z9]; exact hmet_hw1))).trans (hw1 q g0 g1)
  have hw2 : ∀ q, M6 q ≠ none → q ≠ x → M13 q = M6 q := fun q g0 g1 => (ho q (fun z9 => g0 (by rw [z9]; exact hmet_hw2))).trans (hw2 q g0 g1)
  have hw3 : ∀ q, M9 q ≠ none → q ≠ x → M13 q = M9 q := fun q g0 g1 => (ho q (fun z9 => g0 (by rw [z9]; exact hmet_hw3))).trans (hw3 q g0 g1)
  have hw4 : ∀ q, M12 q ≠ none → q ≠ x → M13 q = M12 q := fun q g0 g1 => (ho q (fun z9 => g0 (by rw [z9]; exact hmet_hw4))).trans (hw4 q g0 g1)
  refine lv_dup hx hb d_AM_init_52 rfl ?_
  have hb5 := hw4
  refine zq_callI (C := "") (As := []) (rest := [.ref et, .ref x]) ⟨hx, hb, hml, hown, hts⟩ (c_ET_init l D K M13 et h_et) (cwI 0 hts (zg_I tw_85) rfl rfl rfl (hts _ tw_5) (hts _ tw_83) (hts _ tw_84) rfl (by decide +kernel) ⟨Nat.le_of_ble_eq_true rfl, Nat.le_of_ble_eq_true rfl⟩) hZ hw hA rfl rfl hl.1 (Nat.le_of_ble_eq_true rfl) d_AM_init_53 ⟨Nat.le_of_ble_eq_true rfl, Nat.le_of_ble_eq_true rfl⟩ (fun v M14 H locs hp hw => ?_)
  obtain ⟨rfl, e1, e2, ea, eb, hqe1, hqe2, hqea, hqeb, hdab, hde, hs1, hGa, hGb, ho⟩ := hp
  have h_et0 := h_et
  have hs_o := hs1
  have hme1 : M e1 = none := Classical.byContradiction fun z => z ((hfr e1 z (zq_nn hqe1 h_x).symm).symm.trans hqe1)
  have hme1_hw0 : M e1 = none := Classical.byContradiction fun z => z ((hw0 e1 z (zq_nn hqe1 h_x).symm).symm.trans hqe1)
  have hme1_hw1 : M3 e1 = none := Classical.byContradiction fun z => z ((hw1 e1 z (zq_nn hqe1 h_x).symm).symm.trans hqe1)
  have hme1_hw2 : M6 e1 = none := Classical.byContradiction fun z => z ((hw2 e1 z (zq_nn hqe1 h_x).symm).symm.trans hqe1)
  have hme1_hw3 : M9 e1 = none := Classical.byContradiction fun z => z ((hw3 e1 z (zq_nn hqe1 h_x).symm).symm.trans hqe1)
  have hme1_hw4 : M12 e1 = none := Classical.byContradiction fun z => z ((hw4 e1 z (zq_nn hqe1 h_x).symm).symm.trans hqe1)
  have hme2 : M e2 = none := Classical.byContradiction fun z => z ((hfr e2 z (zq_nn hqe2 h_x).symm).symm.trans hqe2)
  have hme2_hw0 : M e2 = none := Classical.byContradiction fun z => z ((hw0 e2 z (zq_nn hqe2 h_x).symm).symm.trans hqe2)
  have hme2_hw1 : M3 e2 = none := Classical.byContradiction fun z => z ((hw1 e2 z (zq_nn hqe2 h_x).symm).symm.trans hqe2)
  have hme2_hw2 : M6 e2 = none := Classical.byContradiction fun z => z ((hw2 e2 z (zq_nn hqe2 h_x).symm).symm.trans hqe2)
  have hme2_hw3 : M9 e2 = none := Classical.byContradiction fun z => z ((hw3 e2 z (zq_nn hqe2 h_x).symm).symm.trans hqe2)
  have hme2_hw4 : M12 e2 = none := Classical.byContradiction fun z => z ((hw4 e2 z (zq_nn hqe2 h_x).symm).symm.trans hqe2)
  have h_x : M14 x = some (.inr (0, [.ref pi, .ref di, .ref ru, .ref al, .null, .null, .null, .null, .int (iI 0), .int (iI 0)])) := (ho _ (by rw [h_x]; nofun) (zq_ne h_x h_et (by simp))).trans h_x
  have h_pi : M14 pi = some (.inr (2, [.ref pis, .ref pil, .int (iI 0)])) := (ho _ (by rw [h_pi]; nofun) (zq_ne h_pi h_et (by simp))).trans h_pi
  have h_pis : M14 pis = some (cI (K 0) 12 (fun _ => 0)) := (ho _ (by rw [h_pis]; nofun) (zq_ne h_pis h_et (by simp))).trans h_pis
  have h_pil : M14 pil = some (cI (K 0) 48 (fun _ => 0)) := (ho _ (by rw [h_pil]; nofun) (zq_ne h_pil h_et (by simp))).trans h_pil
  have h_di : M14 di = some (.inr (2, [.ref dis, .ref dil, .int (iI 0)])) := (ho _ (by rw [h_di]; nofun) (zq_ne h_di h_et (by simp))).trans h_di
  have h_dis : M14 dis = some (cI (K 0) 12 (fun _ => 0)) := (ho _ (by rw [h_dis]; nofun) (zq_ne h_dis h_et (by simp))).trans h_dis
  have h_dil : M14 dil = some (cI (K 0) 48 (fun _ => 0)) := (ho _ (by rw [h_dil]; nofun) (zq_ne h_dil h_et (by simp))).trans h_dil
  have h_ru : M14 ru = some (.inr (4, [.ref r1, .ref r2, .ref r3, .ref r4])) := (ho _ (by rw [h_ru]; nofun) (zq_ne h_ru h_et (by simp))).trans h_ru
  have h_r1 : M14 r1 = some (cI (K 0) 48 (fun _ => 0)) := (ho _ (by rw [h_r1]; nofun) (zq_ne h_r1 h_et (by simp))).trans h_r1
  have h_r2 : M14 r2 = some (cI (K 0) 12 (fun _ => 0)) := (ho _ (by rw [h_r2]; nofun) (zq_ne h_r2 h_et (by simp))).trans h_r2
  have h_r3 : M14 r3 = some (cI (K 0) 12 (fun _ => 0)) := (ho _ (by rw [h_r3]; nofun) (zq_ne h_r3 h_et (by simp))).trans h_r3
  have h_r4 : M14 r4 = some (cI (K 2) 48 (fun _ => 0)) := (ho _ (by rw [h_r4]; nofun) (zq_ne h_r4 h_et (by simp))).trans h_r4
  have h_al : M14 al = some (.inr (1, [.ref a1, .ref a2, .ref a3, .int (iI 0), .int (iI 0)])) := (ho _ (by rw [h_al]; nofun) (zq_ne h_al h_et (by simp))).trans h_al
  have h_a1 : M14 a1 = some (cI (K 0) 48 (fun _ => 0)) := (ho _ (by rw [h_a1]; nofun) (zq_ne h_a1 h_et (by simp))).trans h_a1
  have h_a2 : M14 a2 = some (cI (K 0) 48 (fun _ => 0)) := (ho _ (by rw [h_a2]; nofun) (zq_ne h_a2 h_et (by simp))).trans h_a2
  have h_a3 : M14 a3 = some (cI (K 0) 33 (fun _ => 0)) := (ho _ (by rw [h_a3]; nofun) (zq_ne h_a3 h_et (by simp))).trans h_a3
  have h_et : M14 et = some (.inr (5, [.ref e1, .ref e2, .int (iI 0), .int (iI 0)])) := hs_o
  have hfr : ∀ q, M q ≠ none → q ≠ x → M14 q = M q := fun q g0 g1 => (ho q (by rw [hfr q g0 g1]; exact g0) (fun z9 => g0 (by rw [z9]; exact hmet))).trans (hfr q g0 g1)
  have hw0 : ∀ q, M q ≠ none → q ≠ x → M14 q = M q := fun q g0 g1 => (ho q (by rw [hw0 q g0 g1]; exact g0) (fun z9 => g0 (by rw [z9]; exact hmet_hw0))).trans (hw0 q g0 g1)
  have hw1 : ∀ q, M3 q ≠ none → q ≠ x → M14 q = M3 q := fun q g0 g1 => (ho q (by rw [hw1 q g0 g1]; exact g0) (fun z9 => g0 (by rw [z9]; exact hmet_hw1))).trans (hw1 q g0 g1)
  have hw2 : ∀ q, M6 q ≠ none → q ≠ x → M14 q = M6 q := fun q g0 g1 => (ho q (by rw [hw2 q g0 g1]; exact g0) (fun z9 => g0 (by rw [z9]; exact hmet_hw2))).trans (hw2 q g0 g1)
  have hw3 : ∀ q, M9 q ≠ none → q ≠ x → M14 q = M9 q := fun q g0 g1 => (ho q (by rw [hw3 q g0 g1]; exact g0) (fun z9 => g0 (by rw [z9]; exact hmet_hw3))).trans (hw3 q g0 g1)
  have hw4 : ∀ q, M12 q ≠ none → q ≠ x → M14 q = M12 q := fun q g0 g1 => (ho q (by rw [hw4 q g0 g1]; exact g0) (fun z9 => g0 (by rw [z9]; exact hmet_hw4))).trans (hw4 q g0 g1)
  refine W.eq (g2 := F0 m 56 ls [.ref et, .ref x]) rfl ?_
  have hg5 : ∀ q, M14 q ≠ none → q ≠ x → M14 q = M14 q := fun q _ _ => rfl
  have h_xg5 := h_x
  refine zq_putF (ci := 0) (v := .ref et) (ty := .object "AlexanderMatrix$EntryTable") hx hb hts i_AM t_AM t_AM_ok n_AM hown hK hw h_x rfl 4 (by decide) (hts _ tw_186) rfl hnm rfl (by decide +kernel) rfl rfl (Nat.le_of_ble_eq_true rfl) d_AM_init_56 (fun M15 H locs hs ho hw => ?_)
  have h_pi : M15 pi = some (.inr (2, [.ref pis, .ref pil, .int (iI 0)])) := (ho _ (zq_ne h_pi h_x (by simp))).trans h_pi
  have h_pis : M15 pis = some (cI (K 0) 12 (fun _ => 0)) := (ho _ (zq_ne h_pis h_x (by simp))).trans h_pis
  have h_pil : M15 pil = some (cI (K 0) 48 (fun _ => 0)) := (ho _ (zq_ne h_pil h_x (by simp))).trans h_pil
  have h_di : M15 di = some (.inr (2, [.ref dis, .ref dil, .int (iI 0)])) := (ho _ (zq_ne h_di h_x (by simp))).trans h_di
  have h_dis : M15 dis = some (cI (K 0) 12 (fun _ => 0)) := (ho _ (zq_ne h_dis h_x (by simp))).trans h_dis
  have h_dil : M15 dil = some (cI (K 0) 48 (fun _ => 0)) := (ho _ (zq_ne h_dil h_x (by simp))).trans h_dil
  have h_ru : M15 ru = some (.inr (4, [.ref r1, .ref r2, .ref r3, .ref r4])) := (ho _ (zq_ne h_ru h_x (by simp))).trans h_ru
  have h_r1 : M15 r1 = some (cI (K 0) 48 (fun _ => 0)) := (ho _ (zq_ne h_r1 h_x (by simp))).trans h_r1
  have h_r2 : M15 r2 = some (cI (K 0) 12 (fun _ => 0)) := (ho _ (zq_ne h_r2 h_x (by simp))).trans h_r2
  have h_r3 : M15 r3 = some (cI (K 0) 12 (fun _ => 0)) := (ho _ (zq_ne h_r3 h_x (by simp))).trans h_r3
  have h_r4 : M15 r4 = some (cI (K 2) 48 (fun _ => 0)) := (ho _ (zq_ne h_r4 h_x (by simp))).trans h_r4
  have h_al : M15 al = some (.inr (1, [.ref a1, .ref a2, .ref a3, .int (iI 0), .int (iI 0)])) := (ho _ (zq_ne h_al h_x (by simp))).trans h_al
  have h_a1 : M15 a1 = some (cI (K 0) 48 (fun _ => 0)) := (ho _ (zq_ne h_a1 h_x (by simp))).trans h_a1
  have h_a2 : M15 a2 = some (cI (K 0) 48 (fun _ => 0)) := (ho _ (zq_ne h_a2 h_x (by simp))).trans h_a2
  have h_a3 : M15 a3 = some (cI (K 0) 33 (fun _ => 0)) := (ho _ (zq_ne h_a3 h_x (by simp))).trans h_a3
  have h_et : M15 et = some (.inr (5, [.ref e1, .ref e2, .int (iI 0), .int (iI 0)])) := (ho _ (zq_ne h_et h_x (by simp))).trans h_et
  have h_x : M15 x = some (.inr (0, [.ref pi, .ref di, .ref ru, .ref al, .ref et, .null, .null, .null, .int (iI 0), .int (iI 0)])) := hs
  have hfr : ∀ q, M q ≠ none → q ≠ x → M15 q = M q := fun q g0 g1 => (ho q g1).trans (hfr q g0 g1)
  have hw0 : ∀ q, M q ≠ none → q ≠ x → M15 q = M q := fun q g0 g1 => (ho q g1).trans (hw0 q g0 g1)
  have hw1 : ∀ q, M3 q ≠ none → q ≠ x → M15 q = M3 q := fun q g0 g1 => (ho q g1).trans (hw1 q g0 g1)
  have hw2 : ∀ q, M6 q ≠ none → q ≠ x → M15 q = M6 q := fun q g0 g1 => (ho q g1).trans (hw2 q g0 g1)
  have hw3 : ∀ q, M9 q ≠ none → q ≠ x → M15 q = M9 q := fun q g0 g1 => (ho q g1).trans (hw3 q g0 g1)
  have hw4 : ∀ q, M12 q ≠ none → q ≠ x → M15 q = M12 q := fun q g0 g1 => (ho q g1).trans (hw4 q g0 g1)
  have hg5 : ∀ q, M14 q ≠ none → q ≠ x → M15 q = M14 q := fun q g0 g1 => (ho q g1).trans (hg5 q g0 g1)
  have hGa := zG_new hGa h_xg5 hg5
  have hGb := zG_new hGb h_xg5 hg5
  have mo4 := hw4
  have hw5 : ∀ q, M15 q ≠ none → q ≠ x → M15 q = M15 q := fun q _ _ => rfl
  have h_x5 := h_x
  have k_et := h_et
  refine lv_aload_n hx hb d_AM_init_59 rfl (lv_at hl 0 rfl) ?_
  refine zq_new (ci := 6) (fs := [.null, .null, .int (iI 0), .int (iI 0), .int (iI 0)]) hx hb hts i_MT t_MT t_MT_ok hown (hts _ tw_102) (hts _ tw_103) (hts _ tw_6) hK hw hA rfl (fun j hj => by rcases (show j = 0 ∨ j = 1 ∨ j = 2 ∨ j = 3 ∨ j = 4 by omega) with rfl | rfl | rfl | rfl | rfl <;> rfl) (Nat.le_of_ble_eq_true rfl) (Nat.le_of_ble_eq_true rfl) d_AM_init_60 (fun mt M16 H hqmt hs ho hw => ?_)
  have hmmt : M mt = none := Classical.byContradiction fun z => z ((hfr mt z (zq_nn hqmt h_x).symm).symm.trans hqmt)
  have hmmt_hw0 : M mt = none := Classical.byContradiction fun z => z ((hw0 mt z (zq_nn hqmt h_x).symm).symm.trans hqmt)
  have hmmt_hw1 : M3 mt = none := Classical.byContradiction fun z => z ((hw1 mt z (zq_nn hqmt h_x).symm).symm.trans hqmt)
  have hmmt_hw2 : M6 mt = none := Classical.byContradiction fun z => z ((hw2 mt z (zq_nn hqmt h_x).symm).symm.trans hqmt)
  have hmmt_hw3 : M9 mt = none := Classical.byContradiction fun z => z ((hw3 mt z (zq_nn hqmt h_x).symm).symm.trans hqmt)
  have hmmt_hw4 : M12 mt = none := Classical.byContradiction fun z => z ((hw4 mt z (zq_nn hqmt h_x).symm).symm.trans hqmt)
  have hmmt_hg5 : M14 mt = none := Classical.byContradiction fun z => z ((hg5 mt z (zq_nn hqmt h_x).symm).symm.trans hqmt)
  have hmmt_hw5 : M15 mt = none := Classical.byContradiction fun z => z ((hw5 mt z (zq_nn hqmt h_x).symm).symm.trans hqmt)
  have h_x : M16 x = some (.inr (0, [.ref pi, .ref di, .ref ru, .ref al, .ref et, .null, .null, .null, .int (iI 0), .int (iI 0)])) := (ho _ (zq_nn hqmt h_x)).trans h_x
  have h_pi : M16 pi = some (.inr (2, [.ref pis, .ref pil, .int (iI 0)])) := (ho _ (zq_nn hqmt h_pi)).trans h_pi
  have h_pis : M16 pis = some (cI (K 0) 12 (fun _ => 0)) := (ho _ (zq_nn hqmt h_pis)).trans h_pis
  have h_pil : M16 pil = some (cI (K 0) 48 (fun _ => 0)) := (ho _ (zq_nn hqmt h_pil)).trans h_pil
  have h_di : M16 di = some (.inr (2, [.ref dis, .ref dil, .int (iI 0)])) := (ho _ (zq_nn hqmt h_di)).trans h_di
  have h_dis : M16 dis = some (cI (K 0) 12 (fun _ => 0)) := (ho _ (zq_nn hqmt h_dis)).trans h_dis
  have h_dil : M16 dil = some (cI (K 0) 48 (fun _ => 0)) := (ho _ (zq_nn hqmt h_dil)).trans h_dil
  have h_ru : M16 ru = some (.inr (4, [.ref r1, .ref r2, .ref r3, .ref r4])) := (ho _ (zq_nn hqmt h_ru)).trans h_ru
  have h_r1 : M16 r1 = some (cI (K 0) 48 (fun _ => 0)) := (ho _ (zq_nn hqmt h_r1)).trans h_r1
  have h_r2 : M16 r2 = some (cI (K 0) 12 (fun _ => 0)) := (ho _ (zq_nn hqmt h_r2)).trans h_r2
  have h_r3 : M16 r3 = some (cI (K 0) 12 (fun _ => 0)) := (ho _ (zq_nn hqmt h_r3)).trans h_r3
  have h_r4 : M16 r4 = some (cI (K 2) 48 (fun _ => 0)) := (ho _ (zq_nn hqmt h_r4)).trans h_r4
  have h_al : M16 al = some (.inr (1, [.ref a1, .ref a2, .ref a3, .int (iI 0), .int (iI 0)])) := (ho _ (zq_nn hqmt h_al)).trans h_al
  have h_a1 : M16 a1 = some (cI (K 0) 48 (fun _ => 0)) := (ho _ (zq_nn hqmt h_a1)).trans h_a1
  have h_a2 : M16 a2 = some (cI (K 0) 48 (fun _ => 0)) := (ho _ (zq_nn hqmt h_a2)).trans h_a2
  have h_a3 : M16 a3 = some (cI (K 0) 33 (fun _ => 0)) := (ho _ (zq_nn hqmt h_a3)).trans h_a3
  have h_et : M16 et = some (.inr (5, [.ref e1, .ref e2, .int (iI 0), .int (iI 0)])) := (ho _ (zq_nn hqmt h_et)).trans h_et
  have h_mt : M16 mt = some (.inr (6, [.null, .null, .int (iI 0), .int (iI 0), .int (iI 0)])) := hs
  have hfr : ∀ q, M q ≠ none → q ≠ x → M16 q = M q := fun q g0 g1 => (ho q (fun z9 => g0 (by rw [z9]; exact hmmt))).trans (hfr q g0 g1)
  have hw0 : ∀ q, M q ≠ none → q ≠ x → M16 q = M q := fun q g0 g1 => (ho q (fun z9 => g0 (by rw [z9]; exact hmmt_hw0))).trans (hw0 q g0 g1)
  have hw1 : ∀ q, M3 q ≠ none → q ≠ x → M16 q = M3 q := fun q g0 g1 => (ho q (fun z9 => g0 (by rw [z9]; exact hmmt_hw1))).trans (hw1 q g0 g1)
  have hw2 : ∀ q, M6 q ≠ none → q ≠ x → M16 q = M6 q := fun q g0 g1 => (ho q (fun z9 => g0 (by rw [z9]; exact hmmt_hw2))).trans (hw2 q g0 g1)
  have hw3 : ∀ q, M9 q ≠ none → q ≠ x → M16 q = M9 q := fun q g0 g1 => (ho q (fun z9 => g0 (by rw [z9]; exact hmmt_hw3))).trans (hw3 q g0 g1)
  have hw4 : ∀ q, M12 q ≠ none → q ≠ x → M16 q = M12 q := fun q g0 g1 => (ho q (fun z9 => g0 (by rw [z9]; exact hmmt_hw4))).trans (hw4 q g0 g1)
  have hg5 : ∀ q, M14 q ≠ none → q ≠ x → M16 q = M14 q := fun q g0 g1 => (ho q (fun z9 => g0 (by rw [z9]; exact hmmt_hg5))).trans (hg5 q g0 g1)
  have hw5 : ∀ q, M15 q ≠ none → q ≠ x → M16 q = M15 q := fun q g0 g1 => (ho q (fun z9 => g0 (by rw [z9]; exact hmmt_hw5))).trans (hw5 q g0 g1)
  refine lv_dup hx hb d_AM_init_63 rfl ?_
  have hb6 := hw5
  refine zq_callI (C := "") (As := []) (rest := [.ref mt, .ref x]) ⟨hx, hb, hml, hown, hts⟩ (c_MT_init l D K M16 mt h_mt) (cwI 0 hts (zg_I tw_106) rfl rfl rfl (hts _ tw_6) (hts _ tw_104) (hts _ tw_105) rfl (by decide +kernel) ⟨Nat.le_of_ble_eq_true rfl, Nat.le_of_ble_eq_true rfl⟩) hZ hw hA rfl rfl hl.1 (Nat.le_of_ble_eq_true rfl) d_AM_init_64 ⟨Nat.le_of_ble_eq_true rfl, Nat.le_of_ble_eq_true rfl⟩ (fun v M17 H locs hp hw => ?_)
  obtain ⟨rfl, dt, cA, pr, on, pa, qa, qpr, qon, la, qla, hqdt, hqcA, hqpr, hqqpr, hqon, hqqon, hqla, hqqla, hqpa, hPGn, hs1, hs2, hs3, hs4, hs5, hs6, hs7, hs8, hd1, hd2, hd3, hd4, hd5, hd6, ho⟩ := hp
  have h_mt0 := h_mt
  have hs_o := hs1
  have hmdt : M dt = none := Classical.byContradiction fun z => z ((hfr dt z (zq_nn hqdt h_x).symm).symm.trans hqdt)
  have hmdt_hw0 : M dt = none := Classical.byContradiction fun z => z ((hw0 dt z (zq_nn hqdt h_x).symm).symm.trans hqdt)
  have hmdt_hw1 : M3 dt = none := Classical.byContradiction fun z => z ((hw1 dt z (zq_nn hqdt h_x).symm).symm.trans hqdt)
  have hmdt_hw2 : M6 dt = none := Classical.byContradiction fun z => z ((hw2 dt z (zq_nn hqdt h_x).symm).symm.trans hqdt)
  have hmdt_hw3 : M9 dt = none := Classical.byContradiction fun z => z ((hw3 dt z (zq_nn hqdt h_x).symm).symm.trans hqdt)
  have hmdt_hw4 : M12 dt = none := Classical.byContradiction fun z => z ((hw4 dt z (zq_nn hqdt h_x).symm).symm.trans hqdt)
  have hmdt_hg5 : M14 dt = none := Classical.byContradiction fun z => z ((hg5 dt z (zq_nn hqdt h_x).symm).symm.trans hqdt)
  have hmdt_hw5 : M15 dt = none := Classical.byContradiction fun z => z ((hw5 dt z (zq_nn hqdt h_x).symm).symm.trans hqdt)
  have hmcA : M cA = none := Classical.byContradiction fun z => z ((hfr cA z (zq_nn hqcA h_x).symm).symm.trans hqcA)
  have hmcA_hw0 : M cA = none := Classical.byContradiction fun z => z ((hw0 cA z (zq_nn hqcA h_x).symm).symm.trans hqcA)
  have hmcA_hw1 : M3 cA = none := Classical.byContradiction fun z => z ((hw1 cA z (zq_nn hqcA h_x).symm).symm.trans hqcA)
  have hmcA_hw2 : M6 cA = none := Classical.byContradiction fun z => z ((hw2 cA z (zq_nn hqcA h_x).symm).symm.trans hqcA)
  have hmcA_hw3 : M9 cA = none := Classical.byContradiction fun z => z ((hw3 cA z (zq_nn hqcA h_x).symm).symm.trans hqcA)
  have hmcA_hw4 : M12 cA = none := Classical.byContradiction fun z => z ((hw4 cA z (zq_nn hqcA h_x).symm).symm.trans hqcA)
  have hmcA_hg5 : M14 cA = none := Classical.byContradiction fun z => z ((hg5 cA z (zq_nn hqcA h_x).symm).symm.trans hqcA)
  have hmcA_hw5 : M15 cA = none := Classical.byContradiction fun z => z ((hw5 cA z (zq_nn hqcA h_x).symm).symm.trans hqcA)
  have hmpr : M pr = none := Classical.byContradiction fun z => z ((hfr pr z (zq_nn hqpr h_x).symm).symm.trans hqpr)
  have hmpr_hw0 : M pr = none := Classical.byContradiction fun z => z ((hw0 pr z (zq_nn hqpr h_x).symm).symm.trans hqpr)
  have hmpr_hw1 : M3 pr = none := Classical.byContradiction fun z => z ((hw1 pr z (zq_nn hqpr h_x).symm).symm.trans hqpr)
  have hmpr_hw2 : M6 pr = none := Classical.byContradiction fun z => z ((hw2 pr z (zq_nn hqpr h_x).symm).symm.trans hqpr)
  have hmpr_hw3 : M9 pr = none := Classical.byContradiction fun z => z ((hw3 pr z (zq_nn hqpr h_x).symm).symm.trans hqpr)
  have hmpr_hw4 : M12 pr = none := Classical.byContradiction fun z => z ((hw4 pr z (zq_nn hqpr h_x).symm).symm.trans hqpr)
  have hmpr_hg5 : M14 pr = none := Classical.byContradiction fun z => z ((hg5 pr z (zq_nn hqpr h_x).symm).symm.trans hqpr)
  have hmpr_hw5 : M15 pr = none := Classical.byContradiction fun z => z ((hw5 pr z (zq_nn hqpr h_x).symm).symm.trans hqpr)
  have hmqpr : M qpr = none := Classical.byContradiction fun z => z ((hfr qpr z (zq_nn hqqpr h_x).symm).symm.trans hqqpr)
  have hmqpr_hw0 : M qpr = none := Classical.byContradiction fun z => z ((hw0 qpr z (zq_nn hqqpr h_x).symm).symm.trans hqqpr)
  have hmqpr_hw1 : M3 qpr = none := Classical.byContradiction fun z => z ((hw1 qpr z (zq_nn hqqpr h_x).symm).symm.trans hqqpr)
  have hmqpr_hw2 : M6 qpr = none := Classical.byContradiction fun z => z ((hw2 qpr z (zq_nn hqqpr h_x).symm).symm.trans hqqpr)
  have hmqpr_hw3 : M9 qpr = none := Classical.byContradiction fun z => z ((hw3 qpr z (zq_nn hqqpr h_x).symm).symm.trans hqqpr)
  have hmqpr_hw4 : M12 qpr = none := Classical.byContradiction fun z => z ((hw4 qpr z (zq_nn hqqpr h_x).symm).symm.trans hqqpr)
  have hmqpr_hg5 : M14 qpr = none := Classical.byContradiction fun z => z ((hg5 qpr z (zq_nn hqqpr h_x).symm).symm.trans hqqpr)
  have hmqpr_hw5 : M15 qpr = none := Classical.byContradiction fun z => z ((hw5 qpr z (zq_nn hqqpr h_x).symm).symm.trans hqqpr)
  have hmon : M on = none := Classical.byContradiction fun z => z ((hfr on z (zq_nn hqon h_x).symm).symm.trans hqon)
  have hmon_hw0 : M on = none := Classical.byContradiction fun z => z ((hw0 on z (zq_nn hqon h_x).symm).symm.trans hqon)
  have hmon_hw1 : M3 on = none := Classical.byContradiction fun z => z ((hw1 on z (zq_nn hqon h_x).symm).symm.trans hqon)
  have hmon_hw2 : M6 on = none := Classical.byContradiction fun z => z ((hw2 on z (zq_nn hqon h_x).symm).symm.trans hqon)
  have hmon_hw3 : M9 on = none := Classical.byContradiction fun z => z ((hw3 on z (zq_nn hqon h_x).symm).symm.trans hqon)
  have hmon_hw4 : M12 on = none := Classical.byContradiction fun z => z ((hw4 on z (zq_nn hqon h_x).symm).symm.trans hqon)
  have hmon_hg5 : M14 on = none := Classical.byContradiction fun z => z ((hg5 on z (zq_nn hqon h_x).symm).symm.trans hqon)
  have hmon_hw5 : M15 on = none := Classical.byContradiction fun z => z ((hw5 on z (zq_nn hqon h_x).symm).symm.trans hqon)
  have hmqon : M qon = none := Classical.byContradiction fun z => z ((hfr qon z (zq_nn hqqon h_x).symm).symm.trans hqqon)
  have hmqon_hw0 : M qon = none := Classical.byContradiction fun z => z ((hw0 qon z (zq_nn hqqon h_x).symm).symm.trans hqqon)
  have hmqon_hw1 : M3 qon = none := Classical.byContradiction fun z => z ((hw1 qon z (zq_nn hqqon h_x).symm).symm.trans hqqon)
  have hmqon_hw2 : M6 qon = none := Classical.byContradiction fun z => z ((hw2 qon z (zq_nn hqqon h_x).symm).symm.trans hqqon)
  have hmqon_hw3 : M9 qon = none := Classical.byContradiction fun z => z ((hw3 qon z (zq_nn hqqon h_x).symm).symm.trans hqqon)
  have hmqon_hw4 : M12 qon = none := Classical.byContradiction fun z => z ((hw4 qon z (zq_nn hqqon h_x).symm).symm.trans hqqon)
  have hmqon_hg5 : M14 qon = none := Classical.byContradiction fun z => z ((hg5 qon z (zq_nn hqqon h_x).symm).symm.trans hqqon)
  have hmqon_hw5 : M15 qon = none := Classical.byContradiction fun z => z ((hw5 qon z (zq_nn hqqon h_x).symm).symm.trans hqqon)
  have hmla : M la = none := Classical.byContradiction fun z => z ((hfr la z (zq_nn hqla h_x).symm).symm.trans hqla)
  have hmla_hw0 : M la = none := Classical.byContradiction fun z => z ((hw0 la z (zq_nn hqla h_x).symm).symm.trans hqla)
  have hmla_hw1 : M3 la = none := Classical.byContradiction fun z => z ((hw1 la z (zq_nn hqla h_x).symm).symm.trans hqla)
  have hmla_hw2 : M6 la = none := Classical.byContradiction fun z => z ((hw2 la z (zq_nn hqla h_x).symm).symm.trans hqla)
  have hmla_hw3 : M9 la = none := Classical.byContradiction fun z => z ((hw3 la z (zq_nn hqla h_x).symm).symm.trans hqla)
  have hmla_hw4 : M12 la = none := Classical.byContradiction fun z => z ((hw4 la z (zq_nn hqla h_x).symm).symm.trans hqla)
  have hmla_hg5 : M14 la = none := Classical.byContradiction fun z => z ((hg5 la z (zq_nn hqla h_x).symm).symm.trans hqla)
  have hmla_hw5 : M15 la = none := Classical.byContradiction fun z => z ((hw5 la z (zq_nn hqla h_x).symm).symm.trans hqla)
  have hmqla : M qla = none := Classical.byContradiction fun z => z ((hfr qla z (zq_nn hqqla h_x).symm).symm.trans hqqla)
  have hmqla_hw0 : M qla = none := Classical.byContradiction fun z => z ((hw0 qla z (zq_nn hqqla h_x).symm).symm.trans hqqla)
  have hmqla_hw1 : M3 qla = none := Classical.byContradiction fun z => z ((hw1 qla z (zq_nn hqqla h_x).symm).symm.trans hqqla)
  have hmqla_hw2 : M6 qla = none := Classical.byContradiction fun z => z ((hw2 qla z (zq_nn hqqla h_x).symm).symm.trans hqqla)
  have hmqla_hw3 : M9 qla = none := Classical.byContradiction fun z => z ((hw3 qla z (zq_nn hqqla h_x).symm).symm.trans hqqla)
  have hmqla_hw4 : M12 qla = none := Classical.byContradiction fun z => z ((hw4 qla z (zq_nn hqqla h_x).symm).symm.trans hqqla)
  have hmqla_hg5 : M14 qla = none := Classical.byContradiction fun z => z ((hg5 qla z (zq_nn hqqla h_x).symm).symm.trans hqqla)
  have hmqla_hw5 : M15 qla = none := Classical.byContradiction fun z => z ((hw5 qla z (zq_nn hqqla h_x).symm).symm.trans hqqla)
  have h_x : M17 x = some (.inr (0, [.ref pi, .ref di, .ref ru, .ref al, .ref et, .null, .null, .null, .int (iI 0), .int (iI 0)])) := (ho _ (by rw [h_x]; nofun) (zq_ne h_x h_mt (by simp))).trans h_x
  have h_pi : M17 pi = some (.inr (2, [.ref pis, .ref pil, .int (iI 0)])) := (ho _ (by rw [h_pi]; nofun) (zq_ne h_pi h_mt (by simp))).trans h_pi
  have h_pis : M17 pis = some (cI (K 0) 12 (fun _ => 0)) := (ho _ (by rw [h_pis]; nofun) (zq_ne h_pis h_mt (by simp))).trans h_pis
  have h_pil : M17 pil = some (cI (K 0) 48 (fun _ => 0)) := (ho _ (by rw [h_pil]; nofun) (zq_ne h_pil h_mt (by simp))).trans h_pil
  have h_di : M17 di = some (.inr (2, [.ref dis, .ref dil, .int (iI 0)])) := (ho _ (by rw [h_di]; nofun) (zq_ne h_di h_mt (by simp))).trans h_di
  have h_dis : M17 dis = some (cI (K 0) 12 (fun _ => 0)) := (ho _ (by rw [h_dis]; nofun) (zq_ne h_dis h_mt (by simp))).trans h_dis
  have h_dil : M17 dil = some (cI (K 0) 48 (fun _ => 0)) := (ho _ (by rw [h_dil]; nofun) (zq_ne h_dil h_mt (by simp))).trans h_dil
  have h_ru : M17 ru = some (.inr (4, [.ref r1, .ref r2, .ref r3, .ref r4])) := (ho _ (by rw [h_ru]; nofun) (zq_ne h_ru h_mt (by simp))).trans h_ru
  have h_r1 : M17 r1 = some (cI (K 0) 48 (fun _ => 0)) := (ho _ (by rw [h_r1]; nofun) (zq_ne h_r1 h_mt (by simp))).trans h_r1
  have h_r2 : M17 r2 = some (cI (K 0) 12 (fun _ => 0)) := (ho _ (by rw [h_r2]; nofun) (zq_ne h_r2 h_mt (by simp))).trans h_r2
  have h_r3 : M17 r3 = some (cI (K 0) 12 (fun _ => 0)) := (ho _ (by rw [h_r3]; nofun) (zq_ne h_r3 h_mt (by simp))).trans h_r3
  have h_r4 : M17 r4 = some (cI (K 2) 48 (fun _ => 0)) := (ho _ (by rw [h_r4]; nofun) (zq_ne h_r4 h_mt (by simp))).trans h_r4
  have h_al : M17 al = some (.inr (1, [.ref a1, .ref a2, .ref a3, .int (iI 0), .int (iI 0)])) := (ho _ (by rw [h_al]; nofun) (zq_ne h_al h_mt (by simp))).trans h_al
  have h_a1 : M17 a1 = some (cI (K 0) 48 (fun _ => 0)) := (ho _ (by rw [h_a1]; nofun) (zq_ne h_a1 h_mt (by simp))).trans h_a1
  have h_a2 : M17 a2 = some (cI (K 0) 48 (fun _ => 0)) := (ho _ (by rw [h_a2]; nofun) (zq_ne h_a2 h_mt (by simp))).trans h_a2
  have h_a3 : M17 a3 = some (cI (K 0) 33 (fun _ => 0)) := (ho _ (by rw [h_a3]; nofun) (zq_ne h_a3 h_mt (by simp))).trans h_a3
  have h_et : M17 et = some (.inr (5, [.ref e1, .ref e2, .int (iI 0), .int (iI 0)])) := (ho _ (by rw [h_et]; nofun) (zq_ne h_et h_mt (by simp))).trans h_et
  have h_mt : M17 mt = some (.inr (6, [.ref dt, .ref la, .int (iI 0), .int (iI 0), .int (iI 0)])) := hs_o
  have hfr : ∀ q, M q ≠ none → q ≠ x → M17 q = M q := fun q g0 g1 => (ho q (by rw [hfr q g0 g1]; exact g0) (fun z9 => g0 (by rw [z9]; exact hmmt))).trans (hfr q g0 g1)
  have hw0 : ∀ q, M q ≠ none → q ≠ x → M17 q = M q := fun q g0 g1 => (ho q (by rw [hw0 q g0 g1]; exact g0) (fun z9 => g0 (by rw [z9]; exact hmmt_hw0))).trans (hw0 q g0 g1)
  have hw1 : ∀ q, M3 q ≠ none → q ≠ x → M17 q = M3 q := fun q g0 g1 => (ho q (by rw [hw1 q g0 g1]; exact g0) (fun z9 => g0 (by rw [z9]; exact hmmt_hw1))).trans (hw1 q g0 g1)
  have hw2 : ∀ q, M6 q ≠ none → q ≠ x → M17 q = M6 q := fun q g0 g1 => (ho q (by rw [hw2 q g0 g1]; exact g0) (fun z9 => g0 (by rw [z9]; exact hmmt_hw2))).trans (hw2 q g0 g1)
  have hw3 : ∀ q, M9 q ≠ none → q ≠ x → M17 q = M9 q := fun q g0 g1 => (ho q (by rw [hw3 q g0 g1]; exact g0) (fun z9 => g0 (by rw [z9]; exact hmmt_hw3))).trans (hw3 q g0 g1)
  have hw4 : ∀ q, M12 q ≠ none → q ≠ x → M17 q = M12 q := fun q g0 g1 => (ho q (by rw [hw4 q g0 g1]; exact g0) (fun z9 => g0 (by rw [z9]; exact hmmt_hw4))).trans (hw4 q g0 g1)
  have hg5 : ∀ q, M14 q ≠ none → q ≠ x → M17 q = M14 q := fun q g0 g1 => (ho q (by rw [hg5 q g0 g1]; exact g0) (fun z9 => g0 (by rw [z9]; exact hmmt_hg5))).trans (hg5 q g0 g1)
  have hw5 : ∀ q, M15 q ≠ none → q ≠ x → M17 q = M15 q := fun q g0 g1 => (ho q (by rw [hw5 q g0 g1]; exact g0) (fun z9 => g0 (by rw [z9]; exact hmmt_hw5))).trans (hw5 q g0 g1)
  have h_dt : M17 dt = some (.inr (3, [.ref cA, .ref pr, .ref on])) := hs2
  have h_pr : M17 pr = some (.inr (8, [.ref qpr, .int (iI (-1))])) := hs3
  have h_qpr : M17 qpr = some (cJ (K 1) 25 (fun _ => 0)) := hs4
  have h_on : M17 on = some (.inr (8, [.ref qon, .int (iI 0)])) := hs5
  have h_qon : M17 qon = some (cJ (K 1) 25 (zu (zu (fun _ => 0) 0 1) 1 0)) := hs6
  have h_la : M17 la = some (.inr (8, [.ref qla, .int (iI (-1))])) := hs7
  have h_qla : M17 qla = some (cJ (K 1) 25 (fun _ => 0)) := hs8
  refine W.eq (g2 := F0 m 67 ls [.ref mt, .ref x]) rfl ?_
  have hg6 : ∀ q, M17 q ≠ none → q ≠ x → M17 q = M17 q := fun q _ _ => rfl
  have h_xg6 := h_x
  refine zq_putF (ci := 0) (v := .ref mt) (ty := .object "AlexanderMatrix$MinorTaker") hx hb hts i_AM t_AM t_AM_ok n_AM hown hK hw h_x rfl 5 (by decide) (hts _ tw_187) rfl hnm rfl (by decide +kernel) rfl rfl (Nat.le_of_ble_eq_true rfl) d_AM_init_67 (fun M18 H locs hs ho hw => ?_)
  have h_pi : M18 pi = some (.inr (2, [.ref pis, .ref pil, .int (iI 0)])) := (ho _ (zq_ne h_pi h_x (by simp))).trans h_pi
  have h_pis : M18 pis = some (cI (K 0) 12 (fun _ => 0)) := (ho _ (zq_ne h_pis h_x (by simp))).trans h_pis
  have h_pil : M18 pil = some (cI (K 0) 48 (fun _ => 0)) := (ho _ (zq_ne h_pil h_x (by simp))).trans h_pil
  have h_di : M18 di = some (.inr (2, [.ref dis, .ref dil, .int (iI 0)])) := (ho _ (zq_ne h_di h_x (by simp))).trans h_di
  have h_dis : M18 dis = some (cI (K 0) 12 (fun _ => 0)) := (ho _ (zq_ne h_dis h_x (by simp))).trans h_dis
  have h_dil : M18 dil = some (cI (K 0) 48 (fun _ => 0)) := (ho _ (zq_ne h_dil h_x (by simp))).trans h_dil
  have h_ru : M18 ru = some (.inr (4, [.ref r1, .ref r2, .ref r3, .ref r4])) := (ho _ (zq_ne h_ru h_x (by simp))).trans h_ru
  have h_r1 : M18 r1 = some (cI (K 0) 48 (fun _ => 0)) := (ho _ (zq_ne h_r1 h_x (by simp))).trans h_r1
  have h_r2 : M18 r2 = some (cI (K 0) 12 (fun _ => 0)) := (ho _ (zq_ne h_r2 h_x (by simp))).trans h_r2
  have h_r3 : M18 r3 = some (cI (K 0) 12 (fun _ => 0)) := (ho _ (zq_ne h_r3 h_x (by simp))).trans h_r3
  have h_r4 : M18 r4 = some (cI (K 2) 48 (fun _ => 0)) := (ho _ (zq_ne h_r4 h_x (by simp))).trans h_r4
  have h_al : M18 al = some (.inr (1, [.ref a1, .ref a2, .ref a3, .int (iI 0), .int (iI 0)])) := (ho _ (zq_ne h_al h_x (by simp))).trans h_al
  have h_a1 : M18 a1 = some (cI (K 0) 48 (fun _ => 0)) := (ho _ (zq_ne h_a1 h_x (by simp))).trans h_a1
  have h_a2 : M18 a2 = some (cI (K 0) 48 (fun _ => 0)) := (ho _ (zq_ne h_a2 h_x (by simp))).trans h_a2
  have h_a3 : M18 a3 = some (cI (K 0) 33 (fun _ => 0)) := (ho _ (zq_ne h_a3 h_x (by simp))).trans h_a3
  have h_et : M18 et = some (.inr (5, [.ref e1, .ref e2, .int (iI 0), .int (iI 0)])) := (ho _ (zq_ne h_et h_x (by simp))).trans h_et
  have h_mt : M18 mt = some (.inr (6, [.ref dt, .ref la, .int (iI 0), .int (iI 0), .int (iI 0)])) := (ho _ (zq_ne h_mt h_x (by simp))).trans h_mt
  have h_dt : M18 dt = some (.inr (3, [.ref cA, .ref pr, .ref on])) := (ho _ (zq_ne h_dt h_x (by simp))).trans h_dt
  have h_pr : M18 pr = some (.inr (8, [.ref qpr, .int (iI (-1))])) := (ho _ (zq_ne h_pr h_x (by simp))).trans h_pr
  have h_qpr : M18 qpr = some (cJ (K 1) 25 (fun _ => 0)) := (ho _ (zq_ne h_qpr h_x (by simp))).trans h_qpr
  have h_on : M18 on = some (.inr (8, [.ref qon, .int (iI 0)])) := (ho _ (zq_ne h_on h_x (by simp))).trans h_on
  have h_qon : M18 qon = some (cJ (K 1) 25 (zu (zu (fun _ => 0) 0 1) 1 0)) := (ho _ (zq_ne h_qon h_x (by simp))).trans h_qon
  have h_la : M18 la = some (.inr (8, [.ref qla, .int (iI (-1))])) := (ho _ (zq_ne h_la h_x (by simp))).trans h_la
  have h_qla : M18 qla = some (cJ (K 1) 25 (fun _ => 0)) := (ho _ (zq_ne h_qla h_x (by simp))).trans h_qla
  have h_x : M18 x = some (.inr (0, [.ref pi, .ref di, .ref ru, .ref al, .ref et, .ref mt, .null, .null, .int (iI 0), .int (iI 0)])) := hs
  have hfr : ∀ q, M q ≠ none → q ≠ x → M18 q = M q := fun q g0 g1 => (ho q g1).trans (hfr q g0 g1)
  have hw0 : ∀ q, M q ≠ none → q ≠ x → M18 q = M q := fun q g0 g1 => (ho q g1).trans (hw0 q g0 g1)
  have hw1 : ∀ q, M3 q ≠ none → q ≠ x → M18 q = M3 q := fun q g0 g1 => (ho q g1).trans (hw1 q g0 g1)
  have hw2 : ∀ q, M6 q ≠ none → q ≠ x → M18 q = M6 q := fun q g0 g1 => (ho q g1).trans (hw2 q g0 g1)
  have hw3 : ∀ q, M9 q ≠ none → q ≠ x → M18 q = M9 q := fun q g0 g1 => (ho q g1).trans (hw3 q g0 g1)
  have hw4 : ∀ q, M12 q ≠ none → q ≠ x → M18 q = M12 q := fun q g0 g1 => (ho q g1).trans (hw4 q g0 g1)
  have hg5 : ∀ q, M14 q ≠ none → q ≠ x → M18 q = M14 q := fun q g0 g1 => (ho q g1).trans (hg5 q g0 g1)
  have hw5 : ∀ q, M15 q ≠ none → q ≠ x → M18 q = M15 q := fun q g0 g1 => (ho q g1).trans (hw5 q g0 g1)
  have hg6 : ∀ q, M17 q ≠ none → q ≠ x → M18 q = M17 q := fun q g0 g1 => (ho q g1).trans (hg6 q g0 g1)
  have hPGn := zPG_new hPGn h_xg6 hg6
  have mo5 := hw5
  have hw6 : ∀ q, M18 q ≠ none → q ≠ x → M18 q = M18 q := fun q _ _ => rfl
  have h_x6 := h_x
  have k_mt := h_mt
  have k_dt := h_dt
  have k_la := h_la
  have k_qla := h_qla
  have k_pr := h_pr
  have k_qpr := h_qpr
  have k_on := h_on
  have k_qon := h_qon
  refine lv_aload_n hx hb d_AM_init_70 rfl (lv_at hl 0 rfl) ?_
  refine zq_new (ci := 7) (fs := [.null]) hx hb hts i_MR t_MR t_MR_ok hown (hts _ tw_169) (hts _ tw_170) (hts _ tw_9) hK hw hA rfl (fun j hj => by rcases (show j = 0 by omega) with rfl <;> rfl) (Nat.le_of_ble_eq_true rfl) (Nat.le_of_ble_eq_true rfl) d_AM_init_71 (fun mr M19 H hqmr hs ho hw => ?_)
  have hmmr : M mr = none := Classical.byContradiction fun z => z ((hfr mr z (zq_nn hqmr h_x).symm).symm.trans hqmr)
  have hmmr_hw0 : M mr = none := Classical.byContradiction fun z => z ((hw0 mr z (zq_nn hqmr h_x).symm).symm.trans hqmr)
  have hmmr_hw1 : M3 mr = none := Classical.byContradiction fun z => z ((hw1 mr z (zq_nn hqmr h_x).symm).symm.trans hqmr)
  have hmmr_hw2 : M6 mr = none := Classical.byContradiction fun z => z ((hw2 mr z (zq_nn hqmr h_x).symm).symm.trans hqmr)
  have hmmr_hw3 : M9 mr = none := Classical.byContradiction fun z => z ((hw3 mr z (zq_nn hqmr h_x).symm).symm.trans hqmr)
  have hmmr_hw4 : M12 mr = none := Classical.byContradiction fun z => z ((hw4 mr z (zq_nn hqmr h_x).symm).symm.trans hqmr)
  have hmmr_hg5 : M14 mr = none := Classical.byContradiction fun z => z ((hg5 mr z (zq_nn hqmr h_x).symm).symm.trans hqmr)
  have hmmr_hw5 : M15 mr = none := Classical.byContradiction fun z => z ((hw5 mr z (zq_nn hqmr h_x).symm).symm.trans hqmr)
  have hmmr_hg6 : M17 mr = none := Classical.byContradiction fun z => z ((hg6 mr z (zq_nn hqmr h_x).symm).symm.trans hqmr)
  have hmmr_hw6 : M18 mr = none := Classical.byContradiction fun z => z ((hw6 mr z (zq_nn hqmr h_x).symm).symm.trans hqmr)
  have h_x : M19 x = some (.inr (0, [.ref pi, .ref di, .ref ru, .ref al, .ref et, .ref mt, .null, .null, .int (iI 0), .int (iI 0)])) := (ho _ (zq_nn hqmr h_x)).trans h_x
  have h_pi : M19 pi = some (.inr (2, [.ref pis, .ref pil, .int (iI 0)])) := (ho _ (zq_nn hqmr h_pi)).trans h_pi
  have h_pis : M19 pis = some (cI (K 0) 12 (fun _ => 0)) := (ho _ (zq_nn hqmr h_pis)).trans h_pis
  have h_pil : M19 pil = some (cI (K 0) 48 (fun _ => 0)) := (ho _ (zq_nn hqmr h_pil)).trans h_pil
  have h_di : M19 di = some (.inr (2, [.ref dis, .ref dil, .int (iI 0)])) := (ho _ (zq_nn hqmr h_di)).trans h_di
  have h_dis : M19 dis = some (cI (K 0) 12 (fun _ => 0)) := (ho _ (zq_nn hqmr h_dis)).trans h_dis
  have h_dil : M19 dil = some (cI (K 0) 48 (fun _ => 0)) := (ho _ (zq_nn hqmr h_dil)).trans h_dil
  have h_ru : M19 ru = some (.inr (4, [.ref r1, .ref r2, .ref r3, .ref r4])) := (ho _ (zq_nn hqmr h_ru)).trans h_ru
  have h_r1 : M19 r1 = some (cI (K 0) 48 (fun _ => 0)) := (ho _ (zq_nn hqmr h_r1)).trans h_r1
  have h_r2 : M19 r2 = some (cI (K 0) 12 (fun _ => 0)) := (ho _ (zq_nn hqmr h_r2)).trans h_r2
  have h_r3 : M19 r3 = some (cI (K 0) 12 (fun _ => 0)) := (ho _ (zq_nn hqmr h_r3)).trans h_r3
  have h_r4 : M19 r4 = some (cI (K 2) 48 (fun _ => 0)) := (ho _ (zq_nn hqmr h_r4)).trans h_r4
  have h_al : M19 al = some (.inr (1, [.ref a1, .ref a2, .ref a3, .int (iI 0), .int (iI 0)])) := (ho _ (zq_nn hqmr h_al)).trans h_al
  have h_a1 : M19 a1 = some (cI (K 0) 48 (fun _ => 0)) := (ho _ (zq_nn hqmr h_a1)).trans h_a1
  have h_a2 : M19 a2 = some (cI (K 0) 48 (fun _ => 0)) := (ho _ (zq_nn hqmr h_a2)).trans h_a2
  have h_a3 : M19 a3 = some (cI (K 0) 33 (fun _ => 0)) := (ho _ (zq_nn hqmr h_a3)).trans h_a3
  have h_et : M19 et = some (.inr (5, [.ref e1, .ref e2, .int (iI 0), .int (iI 0)])) := (ho _ (zq_nn hqmr h_et)).trans h_et
  have h_mt : M19 mt = some (.inr (6, [.ref dt, .ref la, .int (iI 0), .int (iI 0), .int (iI 0)])) := (ho _ (zq_nn hqmr h_mt)).trans h_mt
  have h_dt : M19 dt = some (.inr (3, [.ref cA, .ref pr, .ref on])) := (ho _ (zq_nn hqmr h_dt)).trans h_dt
  have h_pr : M19 pr = some (.inr (8, [.ref qpr, .int (iI (-1))])) := (ho _ (zq_nn hqmr h_pr)).trans h_pr
  have h_qpr : M19 qpr = some (cJ (K 1) 25 (fun _ => 0)) := (ho _ (zq_nn hqmr h_qpr)).trans h_qpr
  have h_on : M19 on = some (.inr (8, [.ref qon, .int (iI 0)])) := (ho _ (zq_nn hqmr h_on)).trans h_on
  have h_qon : M19 qon = some (cJ (K 1) 25 (zu (zu (fun _ => 0) 0 1) 1 0)) := (ho _ (zq_nn hqmr h_qon)).trans h_qon
  have h_la : M19 la = some (.inr (8, [.ref qla, .int (iI (-1))])) := (ho _ (zq_nn hqmr h_la)).trans h_la
  have h_qla : M19 qla = some (cJ (K 1) 25 (fun _ => 0)) := (ho _ (zq_nn hqmr h_qla)).trans h_qla
  have h_mr : M19 mr = some (.inr (7, [.null])) := hs
  have hfr : ∀ q, M q ≠ none → q ≠ x → M19 q = M q := fun q g0 g1 => (ho q (fun z9 => g0 (by rw [z9]; exact hmmr))).trans (hfr q g0 g1)
  have hw0 : ∀ q, M q ≠ none → q ≠ x → M19 q = M q := fun q g0 g1 => (ho q (fun z9 => g0 (by rw [z9]; exact hmmr_hw0))).trans (hw0 q g0 g1)
  have hw1 : ∀ q, M3 q ≠ none → q ≠ x → M19 q = M3 q := fun q g0 g1 => (ho q (fun z9 => g0 (by rw [z9]; exact hmmr_hw1))).trans (hw1 q g0 g1)
  have hw2 : ∀ q, M6 q ≠ none → q ≠ x → M19 q = M6 q := fun q g0 g1 => (ho q (fun z9 => g0 (by rw [z9]; exact hmmr_hw2))).trans (hw2 q g0 g1)
  have hw3 : ∀ q, M9 q ≠ none → q ≠ x → M19 q = M9 q := fun q g0 g1 => (ho q (fun z9 => g0 (by rw [z9]; exact hmmr_hw3))).trans (hw3 q g0 g1)
  have hw4 : ∀ q, M12 q ≠ none → q ≠ x → M19 q = M12 q := fun q g0 g1 => (ho q (fun z9 => g0 (by rw [z9]; exact hmmr_hw4))).trans (hw4 q g0 g1)
  have hg5 : ∀ q, M14 q ≠ none → q ≠ x → M19 q = M14 q := fun q g0 g1 => (ho q (fun z9 => g0 (by rw [z9]; exact hmmr_hg5))).trans (hg5 q g0 g1)
  have hw5 : ∀ q, M15 q ≠ none → q ≠ x → M19 q = M15 q := fun q g0 g1 => (ho q (fun z9 => g0 (by rw [z9]; exact hmmr_hw5))).trans (hw5 q g0 g1)
  have hg6 : ∀ q, M17 q ≠ none → q ≠ x → M19 q = M17 q := fun q g0 g1 => (ho q (fun z9 => g0 (by rw [z9]; exact hmmr_hg6))).trans (hg6 q g0 g1)
  have hw6 : ∀ q, M18 q ≠ none → q ≠ x → M19 q = M18 q := fun q g0 g1 => (ho q (fun z9 => g0 (by rw [z9]; exact hmmr_hw6))).trans (hw6 q g0 g1)
  refine lv_dup hx hb d_AM_init_74 rfl ?_
  have hb7 := hw6
  refine zq_callI (C := "") (As := []) (rest := [.ref mr, .ref x]) ⟨hx, hb, hml, hown, hts⟩ (c_MR_init l D K M19 mr h_mr) (cwI 0 hts (zg_I tw_173) rfl rfl rfl (hts _ tw_9) (hts _ tw_171) (hts _ tw_172) rfl (by decide +kernel) ⟨Nat.le_of_ble_eq_true rfl, Nat.le_of_ble_eq_true rfl⟩) hZ hw hA rfl rfl hl.1 (Nat.le_of_ble_eq_true rfl) d_AM_init_75 ⟨Nat.le_of_ble_eq_true rfl, Nat.le_of_ble_eq_true rfl⟩ (fun v M20 H locs hp hw => ?_)
  obtain ⟨rfl, m1, rm, hqm1, hqrm, hs1, hGm, ho⟩ := hp
  have h_mr0 := h_mr
  have hs_o := hs1
  have hmm1 : M m1 = none := Classical.byContradiction fun z => z ((hfr m1 z (zq_nn hqm1 h_x).symm).symm.trans hqm1)
  have hmm1_hw0 : M m1 = none := Classical.byContradiction fun z => z ((hw0 m1 z (zq_nn hqm1 h_x).symm).symm.trans hqm1)
  have hmm1_hw1 : M3 m1 = none := Classical.byContradiction fun z => z ((hw1 m1 z (zq_nn hqm1 h_x).symm).symm.trans hqm1)
  have hmm1_hw2 : M6 m1 = none := Classical.byContradiction fun z => z ((hw2 m1 z (zq_nn hqm1 h_x).symm).symm.trans hqm1)
  have hmm1_hw3 : M9 m1 = none := Classical.byContradiction fun z => z ((hw3 m1 z (zq_nn hqm1 h_x).symm).symm.trans hqm1)
  have hmm1_hw4 : M12 m1 = none := Classical.byContradiction fun z => z ((hw4 m1 z (zq_nn hqm1 h_x).symm).symm.trans hqm1)
  have hmm1_hg5 : M14 m1 = none := Classical.byContradiction fun z => z ((hg5 m1 z (zq_nn hqm1 h_x).symm).symm.trans hqm1)
  have hmm1_hw5 : M15 m1 = none := Classical.byContradiction fun z => z ((hw5 m1 z (zq_nn hqm1 h_x).symm).symm.trans hqm1)
  have hmm1_hg6 : M17 m1 = none := Classical.byContradiction fun z => z ((hg6 m1 z (zq_nn hqm1 h_x).symm).symm.trans hqm1)
  have hmm1_hw6 : M18 m1 = none := Classical.byContradiction fun z => z ((hw6 m1 z (zq_nn hqm1 h_x).symm).symm.trans hqm1)
  have h_x : M20 x = some (.inr (0, [.ref pi, .ref di, .ref ru, .ref al, .ref et, .ref mt, .null, .null, .int (iI 0), .int (iI 0)])) := (ho _ (by rw [h_x]; nofun) (zq_ne h_x h_mr (by simp))).trans h_x
  have h_pi : M20 pi = some (.inr (2, [.ref pis, .ref pil, .int (iI 0)])) := (ho _ (by rw [h_pi]; nofun) (zq_ne h_pi h_mr (by simp))).trans h_pi
  have h_pis : M20 pis = some (cI (K 0) 12 (fun _ => 0)) := (ho _ (by rw [h_pis]; nofun) (zq_ne h_pis h_mr (by simp))).trans h_pis
  have h_pil : M20 pil = some (cI (K 0) 48 (fun _ => 0)) := (ho _ (by rw [h_pil]; nofun) (zq_ne h_pil h_mr (by simp))).trans h_pil
  have h_di : M20 di = some (.inr (2, [.ref dis, .ref dil, .int (iI 0)])) := (ho _ (by rw [h_di]; nofun) (zq_ne h_di h_mr (by simp))).trans h_di
  have h_dis : M20 dis = some (cI (K 0) 12 (fun _ => 0)) := (ho _ (by rw [h_dis]; nofun) (zq_ne h_dis h_mr (by simp))).trans h_dis
  have h_dil : M20 dil = some (cI (K 0) 48 (fun _ => 0)) := (ho _ (by rw [h_dil]; nofun) (zq_ne h_dil h_mr (by simp))).trans h_dil
  have h_ru : M20 ru = some (.inr (4, [.ref r1, .ref r2, .ref r3, .ref r4])) := (ho _ (by rw [h_ru]; nofun) (zq_ne h_ru h_mr (by simp))).trans h_ru
  have h_r1 : M20 r1 = some (cI (K 0) 48 (fun _ => 0)) := (ho _ (by rw [h_r1]; nofun) (zq_ne h_r1 h_mr (by simp))).trans h_r1
  have h_r2 : M20 r2 = some (cI (K 0) 12 (fun _ => 0)) := (ho _ (by rw [h_r2]; nofun) (zq_ne h_r2 h_mr (by simp))).trans h_r2
  have h_r3 : M20 r3 = some (cI (K 0) 12 (fun _ => 0)) := (ho _ (by rw [h_r3]; nofun) (zq_ne h_r3 h_mr (by simp))).trans h_r3
  have h_r4 : M20 r4 = some (cI (K 2) 48 (fun _ => 0)) := (ho _ (by rw [h_r4]; nofun) (zq_ne h_r4 h_mr (by simp))).trans h_r4
  have h_al : M20 al = some (.inr (1, [.ref a1, .ref a2, .ref a3, .int (iI 0), .int (iI 0)])) := (ho _ (by rw [h_al]; nofun) (zq_ne h_al h_mr (by simp))).trans h_al
  have h_a1 : M20 a1 = some (cI (K 0) 48 (fun _ => 0)) := (ho _ (by rw [h_a1]; nofun) (zq_ne h_a1 h_mr (by simp))).trans h_a1
  have h_a2 : M20 a2 = some (cI (K 0) 48 (fun _ => 0)) := (ho _ (by rw [h_a2]; nofun) (zq_ne h_a2 h_mr (by simp))).trans h_a2
  have h_a3 : M20 a3 = some (cI (K 0) 33 (fun _ => 0)) := (ho _ (by rw [h_a3]; nofun) (zq_ne h_a3 h_mr (by simp))).trans h_a3
  have h_et : M20 et = some (.inr (5, [.ref e1, .ref e2, .int (iI 0), .int (iI 0)])) := (ho _ (by rw [h_et]; nofun) (zq_ne h_et h_mr (by simp))).trans h_et
  have h_mt : M20 mt = some (.inr (6, [.ref dt, .ref la, .int (iI 0), .int (iI 0), .int (iI 0)])) := (ho _ (by rw [h_mt]; nofun) (zq_ne h_mt h_mr (by simp))).trans h_mt
  have h_dt : M20 dt = some (.inr (3, [.ref cA, .ref pr, .ref on])) := (ho _ (by rw [h_dt]; nofun) (zq_ne h_dt h_mr (by simp))).trans h_dt
  have h_pr : M20 pr = some (.inr (8, [.ref qpr, .int (iI (-1))])) := (ho _ (by rw [h_pr]; nofun) (zq_ne h_pr h_mr (by simp))).trans h_pr
  have h_qpr : M20 qpr = some (cJ (K 1) 25 (fun _ => 0)) := (ho _ (by rw [h_qpr]; nofun) (zq_ne h_qpr h_mr (by simp))).trans h_qpr
  have h_on : M20 on = some (.inr (8, [.ref qon, .int (iI 0)])) := (ho _ (by rw [h_on]; nofun) (zq_ne h_on h_mr (by simp))).trans h_on
  have h_qon : M20 qon = some (cJ (K 1) 25 (zu (zu (fun _ => 0) 0 1) 1 0)) := (ho _ (by rw [h_qon]; nofun) (zq_ne h_qon h_mr (by simp))).trans h_qon
  have h_la : M20 la = some (.inr (8, [.ref qla, .int (iI (-1))])) := (ho _ (by rw [h_la]; nofun) (zq_ne h_la h_mr (by simp))).trans h_la
  have h_qla : M20 qla = some (cJ (K 1) 25 (fun _ => 0)) := (ho _ (by rw [h_qla]; nofun) (zq_ne h_qla h_mr (by simp))).trans h_qla
  have h_mr : M20 mr = some (.inr (7, [.ref m1])) := hs_o
  have hfr : ∀ q, M q ≠ none → q ≠ x → M20 q = M q := fun q g0 g1 => (ho q (by rw [hfr q g0 g1]; exact g0) (fun z9 => g0 (by rw [z9]; exact hmmr))).trans (hfr q g0 g1)
  have hw0 : ∀ q, M q ≠ none → q ≠ x → M20 q = M q := fun q g0 g1 => (ho q (by rw [hw0 q g0 g1]; exact g0) (fun z9 => g0 (by rw [z9]; exact hmmr_hw0))).trans (hw0 q g0 g1)
  have hw1 : ∀ q, M3 q ≠ none → q ≠ x → M20 q = M3 q := fun q g0 g1 => (ho q (by rw [hw1 q g0 g1]; exact g0) (fun z9 => g0 (by rw [z9]; exact hmmr_hw1))).trans (hw1 q g0 g1)
  have hw2 : ∀ q, M6 q ≠ none → q ≠ x → M20 q = M6 q := fun q g0 g1 => (ho q (by rw [hw2 q g0 g1]; exact g0) (fun z9 => g0 (by rw [z9]; exact hmmr_hw2))).trans (hw2 q g0 g1)
  have hw3 : ∀ q, M9 q ≠ none → q ≠ x → M20 q = M9 q := fun q g0 g1 => (ho q (by rw [hw3 q g0 g1]; exact g0) (fun z9 => g0 (by rw [z9]; exact hmmr_hw3))).trans (hw3 q g0 g1)
  have hw4 : ∀ q, M12 q ≠ none → q ≠ x → M20 q = M12 q := fun q g0 g1 => (ho q (by rw [hw4 q g0 g1]; exact g0) (fun z9 => g0 (by rw [z9]; exact hmmr_hw4))).trans (hw4 q g0 g1)
  have hg5 : ∀ q, M14 q ≠ none → q ≠ x → M20 q = M14 q := fun q g0 g1 => (ho q (by rw [hg5 q g0 g1]; exact g0) (fun z9 => g0 (by rw [z9]; exact hmmr_hg5))).trans (hg5 q g0 g1)
  have hw5 : ∀ q, M15 q ≠ none → q ≠ x → M20 q = M15 q := fun q g0 g1 => (ho q (by rw [hw5 q g0 g1]; exact g0) (fun z9 => g0 (by rw [z9]; exact hmmr_hw5))).trans (hw5 q g0 g1)
  have hg6 : ∀ q, M17 q ≠ none → q ≠ x → M20 q = M17 q := fun q g0 g1 => (ho q (by rw [hg6 q g0 g1]; exact g0) (fun z9 => g0 (by rw [z9]; exact hmmr_hg6))).trans (hg6 q g0 g1)
  have hw6 : ∀ q, M18 q ≠ none → q ≠ x → M20 q = M18 q := fun q g0 g1 => (ho q (by rw [hw6 q g0 g1]; exact g0) (fun z9 => g0 (by rw [z9]; exact hmmr_hw6))).trans (hw6 q g0 g1)
  refine W.eq (g2 := F0 m 78 ls [.ref mr, .ref x]) rfl ?_
  have hg7 : ∀ q, M20 q ≠ none → q ≠ x → M20 q = M20 q := fun q _ _ => rfl
  have h_xg7 := h_x
  refine zq_putF (ci := 0) (v := .ref mr) (ty := .object "AlexanderMatrix$ModularRank") hx hb hts i_AM t_AM t_AM_ok n_AM hown hK hw h_x rfl 6 (by decide) (hts _ tw_188) rfl hnm rfl (by decide +kernel) rfl rfl (Nat.le_of_ble_eq_true rfl) d_AM_init_78 (fun M21 H locs hs ho hw => ?_)
  have h_pi : M21 pi = some (.inr (2, [.ref pis, .ref pil, .int (iI 0)])) := (ho _ (zq_ne h_pi h_x (by simp))).trans h_pi
  have h_pis : M21 pis = some (cI (K 0) 12 (fun _ => 0)) := (ho _ (zq_ne h_pis h_x (by simp))).trans h_pis
  have h_pil : M21 pil = some (cI (K 0) 48 (fun _ => 0)) := (ho _ (zq_ne h_pil h_x (by simp))).trans h_pil
  have h_di : M21 di = some (.inr (2, [.ref dis, .ref dil, .int (iI 0)])) := (ho _ (zq_ne h_di h_x (by simp))).trans h_di
  have h_dis : M21 dis = some (cI (K 0) 12 (fun _ => 0)) := (ho _ (zq_ne h_dis h_x (by simp))).trans h_dis
  have h_dil : M21 dil = some (cI (K 0) 48 (fun _ => 0)) := (ho _ (zq_ne h_dil h_x (by simp))).trans h_dil
  have h_ru : M21 ru = some (.inr (4, [.ref r1, .ref r2, .ref r3, .ref r4])) := (ho _ (zq_ne h_ru h_x (by simp))).trans h_ru
  have h_r1 : M21 r1 = some (cI (K 0) 48 (fun _ => 0)) := (ho _ (zq_ne h_r1 h_x (by simp))).trans h_r1
  have h_r2 : M21 r2 = some (cI (K 0) 12 (fun _ => 0)) := (ho _ (zq_ne h_r2 h_x (by simp))).trans h_r2
  have h_r3 : M21 r3 = some (cI (K 0) 12 (fun _ => 0)) := (ho _ (zq_ne h_r3 h_x (by simp))).trans h_r3
  have h_r4 : M21 r4 = some (cI (K 2) 48 (fun _ => 0)) := (ho _ (zq_ne h_r4 h_x (by simp))).trans h_r4
  have h_al : M21 al = some (.inr (1, [.ref a1, .ref a2, .ref a3, .int (iI 0), .int (iI 0)])) := (ho _ (zq_ne h_al h_x (by simp))).trans h_al
  have h_a1 : M21 a1 = some (cI (K 0) 48 (fun _ => 0)) := (ho _ (zq_ne h_a1 h_x (by simp))).trans h_a1
  have h_a2 : M21 a2 = some (cI (K 0) 48 (fun _ => 0)) := (ho _ (zq_ne h_a2 h_x (by simp))).trans h_a2
  have h_a3 : M21 a3 = some (cI (K 0) 33 (fun _ => 0)) := (ho _ (zq_ne h_a3 h_x (by simp))).trans h_a3
  have h_et : M21 et = some (.inr (5, [.ref e1, .ref e2, .int (iI 0), .int (iI 0)])) := (ho _ (zq_ne h_et h_x (by simp))).trans h_et
  have h_mt : M21 mt = some (.inr (6, [.ref dt, .ref la, .int (iI 0), .int (iI 0), .int (iI 0)])) := (ho _ (zq_ne h_mt h_x (by simp))).trans h_mt
  have h_dt : M21 dt = some (.inr (3, [.ref cA, .ref pr, .ref on])) := (ho _ (zq_ne h_dt h_x (by simp))).trans h_dt
  have h_pr : M21 pr = some (.inr (8, [.ref qpr, .int (iI (-1))])) := (ho _ (zq_ne h_pr h_x (by simp))).trans h_pr
  have h_qpr : M21 qpr = some (cJ (K 1) 25 (fun _ => 0)) := (ho _ (zq_ne h_qpr h_x (by simp))).trans h_qpr
  have h_on : M21 on = some (.inr (8, [.ref qon, .int (iI 0)])) := (ho _ (zq_ne h_on h_x (by simp))).trans h_on
  have h_qon : M21 qon = some (cJ (K 1) 25 (zu (zu (fun _ => 0) 0 1) 1 0)) := (ho _ (zq_ne h_qon h_x (by simp))).trans h_qon
  have h_la : M21 la = some (.inr (8, [.ref qla, .int (iI (-1))])) := (ho _ (zq_ne h_la h_x (by simp))).trans h_la
  have h_qla : M21 qla = some (cJ (K 1) 25 (fun _ => 0)) := (ho _ (zq_ne h_qla h_x (by simp))).trans h_qla
  have h_mr : M21 mr = some (.inr (7, [.ref m1])) := (ho _ (zq_ne h_mr h_x (by simp))).trans h_mr
  have h_x : M21 x = some (.inr (0, [.ref pi, .ref di, .ref ru, .ref al, .ref et, .ref mt, .ref mr, .null, .int (iI 0), .int (iI 0)])) := hs
  have hfr : ∀ q, M q ≠ none → q ≠ x → M21 q = M q := fun q g0 g1 => (ho q g1).trans (hfr q g0 g1)
  have hw0 : ∀ q, M q ≠ none → q ≠ x → M21 q = M q := fun q g0 g1 => (ho q g1).trans (hw0 q g0 g1)
  have hw1 : ∀ q, M3 q ≠ none → q ≠ x → M21 q = M3 q := fun q g0 g1 => (ho q g1).trans (hw1 q g0 g1)
  have hw2 : ∀ q, M6 q ≠ none → q ≠ x → M21 q = M6 q := fun q g0 g1 => (ho q g1).trans (hw2 q g0 g1)
  have hw3 : ∀ q, M9 q ≠ none → q ≠ x → M21 q = M9 q := fun q g0 g1 => (ho q g1).trans (hw3 q g0 g1)
  have hw4 : ∀ q, M12 q ≠ none → q ≠ x → M21 q = M12 q := fun q g0 g1 => (ho q g1).trans (hw4 q g0 g1)
  have hg5 : ∀ q, M14 q ≠ none → q ≠ x → M21 q = M14 q := fun q g0 g1 => (ho q g1).trans (hg5 q g0 g1)
  have hw5 : ∀ q, M15 q ≠ none → q ≠ x → M21 q = M15 q := fun q g0 g1 => (ho q g1).trans (hw5 q g0 g1)
  have hg6 : ∀ q, M17 q ≠ none → q ≠ x → M21 q = M17 q := fun q g0 g1 => (ho q g1).trans (hg6 q g0 g1)
  have hw6 : ∀ q, M18 q ≠ none → q ≠ x → M21 q = M18 q := fun q g0 g1 => (ho q g1).trans (hw6 q g0 g1)
  have hg7 : ∀ q, M20 q ≠ none → q ≠ x → M21 q = M20 q := fun q g0 g1 => (ho q g1).trans (hg7 q g0 g1)
  have hGm := zG_new hGm h_xg7 hg7
  have mo6 := hw6
  have hw7 : ∀ q, M21 q ≠ none → q ≠ x → M21 q = M21 q := fun q _ _ => rfl
  have h_x7 := h_x
  have k_mr := h_mr
  refine lv_aload_n hx hb d_AM_init_81 rfl (lv_at hl 0 rfl) ?_
  refine zq_new (ci := 8) (fs := [.null, .int (iI 0)]) hx hb hts i_PO t_PO t_PO_ok hown (hts _ tw_180) (hts _ tw_116) (hts _ tw_8) hK hw hA rfl (fun j hj => by rcases (show j = 0 ∨ j = 1 by omega) with rfl | rfl <;> rfl) (Nat.le_of_ble_eq_true rfl) (Nat.le_of_ble_eq_true rfl) d_AM_init_82 (fun no M22 H hqno hs ho hw => ?_)
  have hmno : M no = none := Classical.byContradiction fun z => z ((hfr no z (zq_nn hqno h_x).symm).symm.trans hqno)
  have hmno_hw0 : M no = none := Classical.byContradiction fun z => z ((hw0 no z (zq_nn hqno h_x).symm).symm.trans hqno)
  have hmno_hw1 : M3 no = none := Classical.byContradiction fun z => z ((hw1 no z (zq_nn hqno h_x).symm).symm.trans hqno)
  have hmno_hw2 : M6 no = none := Classical.byContradiction fun z => z ((hw2 no z (zq_nn hqno h_x).symm).symm.trans hqno)
  have hmno_hw3 : M9 no = none := Classical.byContradiction fun z => z ((hw3 no z (zq_nn hqno h_x).symm).symm.trans hqno)
  have hmno_hw4 : M12 no = none := Classical.byContradiction fun z => z ((hw4 no z (zq_nn hqno h_x).symm).symm.trans hqno)
  have hmno_hg5 : M14 no = none := Classical.byContradiction fun z => z ((hg5 no z (zq_nn hqno h_x).symm).symm.trans hqno)
  have hmno_hw5 : M15 no = none := Classical.byContradiction fun z => z ((hw5 no z (zq_nn hqno h_x).symm).symm.trans hqno)
  have hmno_hg6 : M17 no = none := Classical.byContradiction fun z => z ((hg6 no z (zq_nn hqno h_x).symm).symm.trans hqno)
  have hmno_hw6 : M18 no = none := Classical.byContradiction fun z => z ((hw6 no z (zq_nn hqno h_x).symm).symm.trans hqno)
  have hmno_hg7 : M20 no = none := Classical.byContradiction fun z => z ((hg7 no z (zq_nn hqno h_x).symm).symm.trans hqno)
  have hmno_hw7 : M21 no = none := Classical.byContradiction fun z => z ((hw7 no z (zq_nn hqno h_x).symm).symm.trans hqno)
  have h_x : M22 x = some (.inr (0, [.ref pi, .ref di, .ref ru, .ref al, .ref et, .ref mt, .ref mr, .null, .int (iI 0), .int (iI 0)])) := (ho _ (zq_nn hqno h_x)).trans h_x
  have h_pi : M22 pi = some (.inr (2, [.ref pis, .ref pil, .int (iI 0)])) := (ho _ (zq_nn hqno h_pi)).trans h_pi
  have h_pis : M22 pis = some (cI (K 0) 12 (fun _ => 0)) := (ho _ (zq_nn hqno h_pis)).trans h_pis
  have h_pil : M22 pil = some (cI (K 0) 48 (fun _ => 0)) := (ho _ (zq_nn hqno h_pil)).trans h_pil
  have h_di : M22 di = some (.inr (2, [.ref dis, .ref dil, .int (iI 0)])) := (ho _ (zq_nn hqno h_di)).trans h_di
  have h_dis : M22 dis = some (cI (K 0) 12 (fun _ => 0)) := (ho _ (zq_nn hqno h_dis)).trans h_dis
  have h_dil : M22 dil = some (cI (K 0) 48 (fun _ => 0)) := (ho _ (zq_nn hqno h_dil)).trans h_dil
  have h_ru : M22 ru = some (.inr (4, [.ref r1, .ref r2, .ref r3, .ref r4])) := (ho _ (zq_nn hqno h_ru)).trans h_ru
  have h_r1 : M22 r1 = some (cI (K 0) 48 (fun _ => 0)) := (ho _ (zq_nn hqno h_r1)).trans h_r1
  have h_r2 : M22 r2 = some (cI (K 0) 12 (fun _ => 0)) := (ho _ (zq_nn hqno h_r2)).trans h_r2
  have h_r3 : M22 r3 = some (cI (K 0) 12 (fun _ => 0)) := (ho _ (zq_nn hqno h_r3)).trans h_r3
  have h_r4 : M22 r4 = some (cI (K 2) 48 (fun _ => 0)) := (ho _ (zq_nn hqno h_r4)).trans h_r4
  have h_al : M22 al = some (.inr (1, [.ref a1, .ref a2, .ref a3, .int (iI 0), .int (iI 0)])) := (ho _ (zq_nn hqno h_al)).trans h_al
  have h_a1 : M22 a1 = some (cI (K 0) 48 (fun _ => 0)) := (ho _ (zq_nn hqno h_a1)).trans h_a1
  have h_a2 : M22 a2 = some (cI (K 0) 48 (fun _ => 0)) := (ho _ (zq_nn hqno h_a2)).trans h_a2
  have h_a3 : M22 a3 = some (cI (K 0) 33 (fun _ => 0)) := (ho _ (zq_nn hqno h_a3)).trans h_a3
  have h_et : M22 et = some (.inr (5, [.ref e1, .ref e2, .int (iI 0), .int (iI 0)])) := (ho _ (zq_nn hqno h_et)).trans h_et
  have h_mt : M22 mt = some (.inr (6, [.ref dt, .ref la, .int (iI 0), .int (iI 0), .int (iI 0)])) := (ho _ (zq_nn hqno h_mt)).trans h_mt
  have h_dt : M22 dt = some (.inr (3, [.ref cA, .ref pr, .ref on])) := (ho _ (zq_nn hqno h_dt)).trans h_dt
  have h_pr : M22 pr = some (.inr (8, [.ref qpr, .int (iI (-1))])) := (ho _ (zq_nn hqno h_pr)).trans h_pr
  have h_qpr : M22 qpr = some (cJ (K 1) 25 (fun _ => 0)) := (ho _ (zq_nn hqno h_qpr)).trans h_qpr
  have h_on : M22 on = some (.inr (8, [.ref qon, .int (iI 0)])) := (ho _ (zq_nn hqno h_on)).trans h_on
  have h_qon : M22 qon = some (cJ (K 1) 25 (zu (zu (fun _ => 0) 0 1) 1 0)) := (ho _ (zq_nn hqno h_qon)).trans h_qon
  have h_la : M22 la = some (.inr (8, [.ref qla, .int (iI (-1))])) := (ho _ (zq_nn hqno h_la)).trans h_la
  have h_qla : M22 qla = some (cJ (K 1) 25 (fun _ => 0)) := (ho _ (zq_nn hqno h_qla)).trans h_qla
  have h_mr : M22 mr = some (.inr (7, [.ref m1])) := (ho _ (zq_nn hqno h_mr)).trans h_mr
  have h_no : M22 no = some (.inr (8, [.null, .int (iI 0)])) := hs
  have hfr : ∀ q, M q ≠ none → q ≠ x → M22 q = M q := fun q g0 g1 => (ho q (fun z9 => g0 (by rw [z9]; exact hmno))).trans (hfr q g0 g1)
  have hw0 : ∀ q, M q ≠ none → q ≠ x → M22 q = M q := fun q g0 g1 => (ho q (fun z9 => g0 (by rw [z9]; exact hmno_hw0))).trans (hw0 q g0 g1)
  have hw1 : ∀ q, M3 q ≠ none → q ≠ x → M22 q = M3 q := fun q g0 g1 => (ho q (fun z9 => g0 (by rw [z9]; exact hmno_hw1))).trans (hw1 q g0 g1)
  have hw2 : ∀ q, M6 q ≠ none → q ≠ x → M22 q = M6 q := fun q g0 g1 => (ho q (fun z9 => g0 (by rw [z9]; exact hmno_hw2))).trans (hw2 q g0 g1)
  have hw3 : ∀ q, M9 q ≠ none → q ≠ x → M22 q = M9 q := fun q g0 g1 => (ho q (fun z9 => g0 (by rw [z9]; exact hmno_hw3))).trans (hw3 q g0 g1)
  have hw4 : ∀ q, M12 q ≠ none → q ≠ x → M22 q = M12 q := fun q g0 g1 => (ho q (fun z9 => g0 (by rw [z9]; exact hmno_hw4))).trans (hw4 q g0 g1)
  have hg5 : ∀ q, M14 q ≠ none → q ≠ x → M22 q = M14 q := fun q g0 g1 => (ho q (fun z9 => g0 (by rw [z9]; exact hmno_hg5))).trans (hg5 q g0 g1)
  have hw5 : ∀ q, M15 q ≠ none → q ≠ x → M22 q = M15 q := fun q g0 g1 => (ho q (fun z9 => g0 (by rw [z9]; exact hmno_hw5))).trans (hw5 q g0 g1)
  have hg6 : ∀ q, M17 q ≠ none → q ≠ x → M22 q = M17 q := fun q g0 g1 => (ho q (fun z9 => g0 (by rw [z9]; exact hmno_hg6))).trans (hg6 q g0 g1)
  have hw6 : ∀ q, M18 q ≠ none → q ≠ x → M22 q = M18 q := fun q g0 g1 => (ho q (fun z9 => g0 (by rw [z9]; exact hmno_hw6))).trans (hw6 q g0 g1)
  have hg7 : ∀ q, M20 q ≠ none → q ≠ x → M22 q = M20 q := fun q g0 g1 => (ho q (fun z9 => g0 (by rw [z9]; exact hmno_hg7))).trans (hg7 q g0 g1)
  have hw7 : ∀ q, M21 q ≠ none → q ≠ x → M22 q = M21 q := fun q g0 g1 => (ho q (fun z9 => g0 (by rw [z9]; exact hmno_hw7))).trans (hw7 q g0 g1)
  refine lv_dup hx hb d_AM_init_85 rfl ?_
  refine zq_callI (C := "") (As := []) (rest := [.ref no, .ref x]) ⟨hx, hb, hml, hown, hts⟩ (c_PO_init l D K M22 no h_no) (cwI 0 hts (zg_I tw_119) rfl rfl rfl (hts _ tw_8) (hts _ tw_181) (hts _ tw_118) rfl (by decide +kernel) ⟨Nat.le_of_ble_eq_true rfl, Nat.le_of_ble_eq_true rfl⟩) hZ hw hA rfl rfl hl.1 (Nat.le_of_ble_eq_true rfl) d_AM_init_86 ⟨Nat.le_of_ble_eq_true rfl, Nat.le_of_ble_eq_true rfl⟩ (fun v M23 H locs hp hw => ?_)
  obtain ⟨rfl, qno, hb1, hbo, hs1, hs2, ho⟩ := hp
  have hqqno := hb1
  have hs_o := hs1
  have ho : ∀ q, M22 q ≠ none → q ≠ no → M23 q = M22 q := fun q g0 g1 => ho q g1 (fun z => g0 (by rw [z]; exact hb1))
  have hmqno : M qno = none := Classical.byContradiction fun z => z ((hfr qno z (zq_nn hqqno h_x).symm).symm.trans hqqno)
  have hmqno_hw0 : M qno = none := Classical.byContradiction fun z => z ((hw0 qno z (zq_nn hqqno h_x).symm).symm.trans hqqno)
  have hmqno_hw1 : M3 qno = none := Classical.byContradiction fun z => z ((hw1 qno z (zq_nn hqqno h_x).symm).symm.trans hqqno)
  have hmqno_hw2 : M6 qno = none := Classical.byContradiction fun z => z ((hw2 qno z (zq_nn hqqno h_x).symm).symm.trans hqqno)
  have hmqno_hw3 : M9 qno = none := Classical.byContradiction fun z => z ((hw3 qno z (zq_nn hqqno h_x).symm).symm.trans hqqno)
  have hmqno_hw4 : M12 qno = none := Classical.byContradiction fun z => z ((hw4 qno z (zq_nn hqqno h_x).symm).symm.trans hqqno)
  have hmqno_hg5 : M14 qno = none := Classical.byContradiction fun z => z ((hg5 qno z (zq_nn hqqno h_x).symm).symm.trans hqqno)
  have hmqno_hw5 : M15 qno = none := Classical.byContradiction fun z => z ((hw5 qno z (zq_nn hqqno h_x).symm).symm.trans hqqno)
  have hmqno_hg6 : M17 qno = none := Classical.byContradiction fun z => z ((hg6 qno z (zq_nn hqqno h_x).symm).symm.trans hqqno)
  have hmqno_hw6 : M18 qno = none := Classical.byContradiction fun z => z ((hw6 qno z (zq_nn hqqno h_x).symm).symm.trans hqqno)
  have hmqno_hg7 : M20 qno = none := Classical.byContradiction fun z => z ((hg7 qno z (zq_nn hqqno h_x).symm).symm.trans hqqno)
  have hmqno_hw7 : M21 qno = none := Classical.byContradiction fun z => z ((hw7 qno z (zq_nn hqqno h_x).symm).symm.trans hqqno)
  have h_x : M23 x = some (.inr (0, [.ref pi, .ref di, .ref ru, .ref al, .ref et, .ref mt, .ref mr, .null, .int (iI 0), .int (iI 0)])) := (ho _ (by rw [h_x]; nofun) (zq_ne h_x h_no (by simp))).trans h_x
  have h_pi : M23 pi = some (.inr (2, [.ref pis, .ref pil, .int (iI 0)])) := (ho _ (by rw [h_pi]; nofun) (zq_ne h_pi h_no (by simp))).trans h_pi
  have h_pis : M23 pis = some (cI (K 0) 12 (fun _ => 0)) := (ho _ (by rw [h_pis]; nofun) (zq_ne h_pis h_no (by simp))).trans h_pis
  have h_pil : M23 pil = some (cI (K 0) 48 (fun _ => 0)) := (ho _ (by rw [h_pil]; nofun) (zq_ne h_pil h_no (by simp))).trans h_pil
  have h_di : M23 di = some (.inr (2, [.ref dis, .ref dil, .int (iI 0)])) := (ho _ (by rw [h_di]; nofun) (zq_ne h_di h_no (by simp))).trans h_di
  have h_dis : M23 dis = some (cI (K 0) 12 (fun _ => 0)) := (ho _ (by rw [h_dis]; nofun) (zq_ne h_dis h_no (by simp))).trans h_dis
  have h_dil : M23 dil = some (cI (K 0) 48 (fun _ => 0)) := (ho _ (by rw [h_dil]; nofun) (zq_ne h_dil h_no (by simp))).trans h_dil
  have h_ru : M23 ru = some (.inr (4, [.ref r1, .ref r2, .ref r3, .ref r4])) := (ho _ (by rw [h_ru]; nofun) (zq_ne h_ru h_no (by simp))).trans h_ru
  have h_r1 : M23 r1 = some (cI (K 0) 48 (fun _ => 0)) := (ho _ (by rw [h_r1]; nofun) (zq_ne h_r1 h_no (by simp))).trans h_r1
  have h_r2 : M23 r2 = some (cI (K 0) 12 (fun _ => 0)) := (ho _ (by rw [h_r2]; nofun) (zq_ne h_r2 h_no (by simp))).trans h_r2
  have h_r3 : M23 r3 = some (cI (K 0) 12 (fun _ => 0)) := (ho _ (by rw [h_r3]; nofun) (zq_ne h_r3 h_no (by simp))).trans h_r3
  have h_r4 : M23 r4 = some (cI (K 2) 48 (fun _ => 0)) := (ho _ (by rw [h_r4]; nofun) (zq_ne h_r4 h_no (by simp))).trans h_r4
  have h_al : M23 al = some (.inr (1, [.ref a1, .ref a2, .ref a3, .int (iI 0), .int (iI 0)])) := (ho _ (by rw [h_al]; nofun) (zq_ne h_al h_no (by simp))).trans h_al
  have h_a1 : M23 a1 = some (cI (K 0) 48 (fun _ => 0)) := (ho _ (by rw [h_a1]; nofun) (zq_ne h_a1 h_no (by simp))).trans h_a1
  have h_a2 : M23 a2 = some (cI (K 0) 48 (fun _ => 0)) := (ho _ (by rw [h_a2]; nofun) (zq_ne h_a2 h_no (by simp))).trans h_a2
  have h_a3 : M23 a3 = some (cI (K 0) 33 (fun _ => 0)) := (ho _ (by rw [h_a3]; nofun) (zq_ne h_a3 h_no (by simp))).trans h_a3
  have h_et : M23 et = some (.inr (5, [.ref e1, .ref e2, .int (iI 0), .int (iI 0)])) := (ho _ (by rw [h_et]; nofun) (zq_ne h_et h_no (by simp))).trans h_et
  have h_mt : M23 mt = some (.inr (6, [.ref dt, .ref la, .int (iI 0), .int (iI 0), .int (iI 0)])) := (ho _ (by rw [h_mt]; nofun) (zq_ne h_mt h_no (by simp))).trans h_mt
  have h_dt : M23 dt = some (.inr (3, [.ref cA, .ref pr, .ref on])) := (ho _ (by rw [h_dt]; nofun) (zq_ne h_dt h_no (by simp))).trans h_dt
  have h_pr : M23 pr = some (.inr (8, [.ref qpr, .int (iI (-1))])) := (ho _ (by rw [h_pr]; nofun) (zq_ne h_pr h_no (by simp))).trans h_pr
  have h_qpr : M23 qpr = some (cJ (K 1) 25 (fun _ => 0)) := (ho _ (by rw [h_qpr]; nofun) (zq_ne h_qpr h_no (by simp))).trans h_qpr
  have h_on : M23 on = some (.inr (8, [.ref qon, .int (iI 0)])) := (ho _ (by rw [h_on]; nofun) (zq_ne h_on h_no (by simp))).trans h_on
  have h_qon : M23 qon = some (cJ (K 1) 25 (zu (zu (fun _ => 0) 0 1) 1 0)) := (ho _ (by rw [h_qon]; nofun) (zq_ne h_qon h_no (by simp))).trans h_qon
  have h_la : M23 la = some (.inr (8, [.ref qla, .int (iI (-1))])) := (ho _ (by rw [h_la]; nofun) (zq_ne h_la h_no (by simp))).trans h_la
  have h_qla : M23 qla = some (cJ (K 1) 25 (fun _ => 0)) := (ho _ (by rw [h_qla]; nofun) (zq_ne h_qla h_no (by simp))).trans h_qla
  have h_mr : M23 mr = some (.inr (7, [.ref m1])) := (ho _ (by rw [h_mr]; nofun) (zq_ne h_mr h_no (by simp))).trans h_mr
  have h_no : M23 no = some (.inr (8, [.ref qno, .int (iI (-1))])) := hs_o
  have hfr : ∀ q, M q ≠ none → q ≠ x → M23 q = M q := fun q g0 g1 => (ho q (by rw [hfr q g0 g1]; exact g0) (fun z9 => g0 (by rw [z9]; exact hmno))).trans (hfr q g0 g1)
  have hw0 : ∀ q, M q ≠ none → q ≠ x → M23 q = M q := fun q g0 g1 => (ho q (by rw [hw0 q g0 g1]; exact g0) (fun z9 => g0 (by rw [z9]; exact hmno_hw0))).trans (hw0 q g0 g1)
  have hw1 : ∀ q, M3 q ≠ none → q ≠ x → M23 q = M3 q := fun q g0 g1 => (ho q (by rw [hw1 q g0 g1]; exact g0) (fun z9 => g0 (by rw [z9]; exact hmno_hw1))).trans (hw1 q g0 g1)
  have hw2 : ∀ q, M6 q ≠ none → q ≠ x → M23 q = M6 q := fun q g0 g1 => (ho q (by rw [hw2 q g0 g1]; exact g0) (fun z9 => g0 (by rw [z9]; exact hmno_hw2))).trans (hw2 q g0 g1)
  have hw3 : ∀ q, M9 q ≠ none → q ≠ x → M23 q = M9 q := fun q g0 g1 => (ho q (by rw [hw3 q g0 g1]; exact g0) (fun z9 => g0 (by rw [z9]; exact hmno_hw3))).trans (hw3 q g0 g1)
  have hw4 : ∀ q, M12 q ≠ none → q ≠ x → M23 q = M12 q := fun q g0 g1 => (ho q (by rw [hw4 q g0 g1]; exact g0) (fun z9 => g0 (by rw [z9]; exact hmno_hw4))).trans (hw4 q g0 g1)
  have hg5 : ∀ q, M14 q ≠ none → q ≠ x → M23 q = M14 q := fun q g0 g1 => (ho q (by rw [hg5 q g0 g1]; exact g0) (fun z9 => g0 (by rw [z9]; exact hmno_hg5))).trans (hg5 q g0 g1)
  have hw5 : ∀ q, M15 q ≠ none → q ≠ x → M23 q = M15 q := fun q g0 g1 => (ho q (by rw [hw5 q g0 g1]; exact g0) (fun z9 => g0 (by rw [z9]; exact hmno_hw5))).trans (hw5 q g0 g1)
  have hg6 : ∀ q, M17 q ≠ none → q ≠ x → M23 q = M17 q := fun q g0 g1 => (ho q (by rw [hg6 q g0 g1]; exact g0) (fun z9 => g0 (by rw [z9]; exact hmno_hg6))).trans (hg6 q g0 g1)
  have hw6 : ∀ q, M18 q ≠ none → q ≠ x → M23 q = M18 q := fun q g0 g1 => (ho q (by rw [hw6 q g0 g1]; exact g0) (fun z9 => g0 (by rw [z9]; exact hmno_hw6))).trans (hw6 q g0 g1)
  have hg7 : ∀ q, M20 q ≠ none → q ≠ x → M23 q = M20 q := fun q g0 g1 => (ho q (by rw [hg7 q g0 g1]; exact g0) (fun z9 => g0 (by rw [z9]; exact hmno_hg7))).trans (hg7 q g0 g1)
  have hw7 : ∀ q, M21 q ≠ none → q ≠ x → M23 q = M21 q := fun q g0 g1 => (ho q (by rw [hw7 q g0 g1]; exact g0) (fun z9 => g0 (by rw [z9]; exact hmno_hw7))).trans (hw7 q g0 g1)
  have h_qno : M23 qno = some (cJ (K 1) 25 (fun _ => 0)) := hs2
  refine W.eq (g2 := F0 m 89 ls [.ref no, .ref x]) rfl ?_
  refine zq_putF (ci := 0) (v := .ref no) (ty := .object "AlexanderMatrix$Polynomial") hx hb hts i_AM t_AM t_AM_ok n_AM hown hK hw h_x rfl 7 (by decide) (hts _ tw_189) rfl hnm rfl (by decide +kernel) rfl rfl (Nat.le_of_ble_eq_true rfl) d_AM_init_89 (fun M24 H locs hs ho hw => ?_)
  have h_pi : M24 pi = some (.inr (2, [.ref pis, .ref pil, .int (iI 0)])) := (ho _ (zq_ne h_pi h_x (by simp))).trans h_pi
  have h_pis : M24 pis = some (cI (K 0) 12 (fun _ => 0)) := (ho _ (zq_ne h_pis h_x (by simp))).trans h_pis
  have h_pil : M24 pil = some (cI (K 0) 48 (fun _ => 0)) := (ho _ (zq_ne h_pil h_x (by simp))).trans h_pil
  have h_di : M24 di = some (.inr (2, [.ref dis, .ref dil, .int (iI 0)])) := (ho _ (zq_ne h_di h_x (by simp))).trans h_di
  have h_dis : M24 dis = some (cI (K 0) 12 (fun _ => 0)) := (ho _ (zq_ne h_dis h_x (by simp))).trans h_dis
  have h_dil : M24 dil = some (cI (K 0) 48 (fun _ => 0)) := (ho _ (zq_ne h_dil h_x (by simp))).trans h_dil
  have h_ru : M24 ru = some (.inr (4, [.ref r1, .ref r2, .ref r3, .ref r4])) := (ho _ (zq_ne h_ru h_x (by simp))).trans h_ru
  have h_r1 : M24 r1 = some (cI (K 0) 48 (fun _ => 0)) := (ho _ (zq_ne h_r1 h_x (by simp))).trans h_r1
  have h_r2 : M24 r2 = some (cI (K 0) 12 (fun _ => 0)) := (ho _ (zq_ne h_r2 h_x (by simp))).trans h_r2
  have h_r3 : M24 r3 = some (cI (K 0) 12 (fun _ => 0)) := (ho _ (zq_ne h_r3 h_x (by simp))).trans h_r3
  have h_r4 : M24 r4 = some (cI (K 2) 48 (fun _ => 0)) := (ho _ (zq_ne h_r4 h_x (by simp))).trans h_r4
  have h_al : M24 al = some (.inr (1, [.ref a1, .ref a2, .ref a3, .int (iI 0), .int (iI 0)])) := (ho _ (zq_ne h_al h_x (by simp))).trans h_al
  have h_a1 : M24 a1 = some (cI (K 0) 48 (fun _ => 0)) := (ho _ (zq_ne h_a1 h_x (by simp))).trans h_a1
  have h_a2 : M24 a2 = some (cI (K 0) 48 (fun _ => 0)) := (ho _ (zq_ne h_a2 h_x (by simp))).trans h_a2
  have h_a3 : M24 a3 = some (cI (K 0) 33 (fun _ => 0)) := (ho _ (zq_ne h_a3 h_x (by simp))).trans h_a3
  have h_et : M24 et = some (.inr (5, [.ref e1, .ref e2, .int (iI 0), .int (iI 0)])) := (ho _ (zq_ne h_et h_x (by simp))).trans h_et
  have h_mt : M24 mt = some (.inr (6, [.ref dt, .ref la, .int (iI 0), .int (iI 0), .int (iI 0)])) := (ho _ (zq_ne h_mt h_x (by simp))).trans h_mt
  have h_dt : M24 dt = some (.inr (3, [.ref cA, .ref pr, .ref on])) := (ho _ (zq_ne h_dt h_x (by simp))).trans h_dt
  have h_pr : M24 pr = some (.inr (8, [.ref qpr, .int (iI (-1))])) := (ho _ (zq_ne h_pr h_x (by simp))).trans h_pr
  have h_qpr : M24 qpr = some (cJ (K 1) 25 (fun _ => 0)) := (ho _ (zq_ne h_qpr h_x (by simp))).trans h_qpr
  have h_on : M24 on = some (.inr (8, [.ref qon, .int (iI 0)])) := (ho _ (zq_ne h_on h_x (by simp))).trans h_on
  have h_qon : M24 qon = some (cJ (K 1) 25 (zu (zu (fun _ => 0) 0 1) 1 0)) := (ho _ (zq_ne h_qon h_x (by simp))).trans h_qon
  have h_la : M24 la = some (.inr (8, [.ref qla, .int (iI (-1))])) := (ho _ (zq_ne h_la h_x (by simp))).trans h_la
  have h_qla : M24 qla = some (cJ (K 1) 25 (fun _ => 0)) := (ho _ (zq_ne h_qla h_x (by simp))).trans h_qla
  have h_mr : M24 mr = some (.inr (7, [.ref m1])) := (ho _ (zq_ne h_mr h_x (by simp))).trans h_mr
  have h_no : M24 no = some (.inr (8, [.ref qno, .int (iI (-1))])) := (ho _ (zq_ne h_no h_x (by simp))).trans h_no
  have h_qno : M24 qno = some (cJ (K 1) 25 (fun _ => 0)) := (ho _ (zq_ne h_qno h_x (by simp))).trans h_qno
  have h_x : M24 x = some (.inr (0, [.ref pi, .ref di, .ref ru, .ref al, .ref et, .ref mt, .ref mr, .ref no, .int (iI 0), .int (iI 0)])) := hs
  have hfr : ∀ q, M q ≠ none → q ≠ x → M24 q = M q := fun q g0 g1 => (ho q g1).trans (hfr q g0 g1)
  have hw0 : ∀ q, M q ≠ none → q ≠ x → M24 q = M q := fun q g0 g1 => (ho q g1).trans (hw0 q g0 g1)
  have hw1 : ∀ q, M3 q ≠ none → q ≠ x → M24 q = M3 q := fun q g0 g1 => (ho q g1).trans (hw1 q g0 g1)
  have hw2 : ∀ q, M6 q ≠ none → q ≠ x → M24 q = M6 q := fun q g0 g1 => (ho q g1).trans (hw2 q g0 g1)
  have hw3 : ∀ q, M9 q ≠ none → q ≠ x → M24 q = M9 q := fun q g0 g1 => (ho q g1).trans (hw3 q g0 g1)
  have hw4 : ∀ q, M12 q ≠ none → q ≠ x → M24 q = M12 q := fun q g0 g1 => (ho q g1).trans (hw4 q g0 g1)
  have hg5 : ∀ q, M14 q ≠ none → q ≠ x → M24 q = M14 q := fun q g0 g1 => (ho q g1).trans (hg5 q g0 g1)
  have hw5 : ∀ q, M15 q ≠ none → q ≠ x → M24 q = M15 q := fun q g0 g1 => (ho q g1).trans (hw5 q g0 g1)
  have hg6 : ∀ q, M17 q ≠ none → q ≠ x → M24 q = M17 q := fun q g0 g1 => (ho q g1).trans (hg6 q g0 g1)
  have hw6 : ∀ q, M18 q ≠ none → q ≠ x → M24 q = M18 q := fun q g0 g1 => (ho q g1).trans (hw6 q g0 g1)
  have hg7 : ∀ q, M20 q ≠ none → q ≠ x → M24 q = M20 q := fun q g0 g1 => (ho q g1).trans (hg7 q g0 g1)
  have hw7 : ∀ q, M21 q ≠ none → q ≠ x → M24 q = M21 q := fun q g0 g1 => (ho q g1).trans (hw7 q g0 g1)
  have mo7 := hw7
  have hw8 : ∀ q, M24 q ≠ none → q ≠ x → M24 q = M24 q := fun q _ _ => rfl
  have h_x8 := h_x
  have k_no := h_no
  have k_qno := h_qno
  refine lv_aload_n hx hb d_AM_init_92 rfl (lv_at hl 0 rfl) ?_
  refine lv_iconst (v := iI 0) hx hb d_AM_init_93 rfl ?_
  refine zq_put (ci := 0) (v := .int (iI 0)) (ty := .int) hx hb hts i_AM t_AM t_AM_ok n_AM hown hK hw h_x rfl 8 (by decide) (hts _ tw_190) rfl (by decide +kernel) rfl rfl (Nat.le_of_ble_eq_true rfl) d_AM_init_94 (fun M25 H locs hs ho hw => ?_)
  have h_pi : M25 pi = some (.inr (2, [.ref pis, .ref pil, .int (iI 0)])) := (ho _ (zq_ne h_pi h_x (by simp))).trans h_pi
  have h_pis : M25 pis = some (cI (K 0) 12 (fun _ => 0)) := (ho _ (zq_ne h_pis h_x (by simp))).trans h_pis
  have h_pil : M25 pil = some (cI (K 0) 48 (fun _ => 0)) := (ho _ (zq_ne h_pil h_x (by simp))).trans h_pil
  have h_di : M25 di = some (.inr (2, [.ref dis, .ref dil, .int (iI 0)])) := (ho _ (zq_ne h_di h_x (by simp))).trans h_di
  have h_dis : M25 dis = some (cI (K 0) 12 (fun _ => 0)) := (ho _ (zq_ne h_dis h_x (by simp))).trans h_dis
  have h_dil : M25 dil = some (cI (K 0) 48 (fun _ => 0)) := (ho _ (zq_ne h_dil h_x (by simp))).trans h_dil
  have h_ru : M25 ru = some (.inr (4, [.ref r1, .ref r2, .ref r3, .ref r4])) := (ho _ (zq_ne h_ru h_x (by simp))).trans h_ru
  have h_r1 : M25 r1 = some (cI (K 0) 48 (fun _ => 0)) := (ho _ (zq_ne h_r1 h_x (by simp))).trans h_r1
  have h_r2 : M25 r2 = some (cI (K 0) 12 (fun _ => 0)) := (ho _ (zq_ne h_r2 h_x (by simp))).trans h_r2
  have h_r3 : M25 r3 = some (cI (K 0) 12 (fun _ => 0)) := (ho _ (zq_ne h_r3 h_x (by simp))).trans h_r3
  have h_r4 : M25 r4 = some (cI (K 2) 48 (fun _ => 0)) := (ho _ (zq_ne h_r4 h_x (by simp))).trans h_r4
  have h_al : M25 al = some (.inr (1, [.ref a1, .ref a2, .ref a3, .int (iI 0), .int (iI 0)])) := (ho _ (zq_ne h_al h_x (by simp))).trans h_al
  have h_a1 : M25 a1 = some (cI (K 0) 48 (fun _ => 0)) := (ho _ (zq_ne h_a1 h_x (by simp))).trans h_a1
  have h_a2 : M25 a2 = some (cI (K 0) 48 (fun _ => 0)) := (ho _ (zq_ne h_a2 h_x (by simp))).trans h_a2
  have h_a3 : M25 a3 = some (cI (K 0) 33 (fun _ => 0)) := (ho _ (zq_ne h_a3 h_x (by simp))).trans h_a3
  have h_et : M25 et = some (.inr (5, [.ref e1, .ref e2, .int (iI 0), .int (iI 0)])) := (ho _ (zq_ne h_et h_x (by simp))).trans h_et
  have h_mt : M25 mt = some (.inr (6, [.ref dt, .ref la, .int (iI 0), .int (iI 0), .int (iI 0)])) := (ho _ (zq_ne h_mt h_x (by simp))).trans h_mt
  have h_dt : M25 dt = some (.inr (3, [.ref cA, .ref pr, .ref on])) := (ho _ (zq_ne h_dt h_x (by simp))).trans h_dt
  have h_pr : M25 pr = some (.inr (8, [.ref qpr, .int (iI (-1))])) := (ho _ (zq_ne h_pr h_x (by simp))).trans h_pr
  have h_qpr : M25 qpr = some (cJ (K 1) 25 (fun _ => 0)) := (ho _ (zq_ne h_qpr h_x (by simp))).trans h_qpr
  have h_on : M25 on = some (.inr (8, [.ref qon, .int (iI 0)])) := (ho _ (zq_ne h_on h_x (by simp))).trans h_on
  have h_qon : M25 qon = some (cJ (K 1) 25 (zu (zu (fun _ => 0) 0 1) 1 0)) := (ho _ (zq_ne h_qon h_x (by simp))).trans h_qon
  have h_la : M25 la = some (.inr (8, [.ref qla, .int (iI (-1))])) := (ho _ (zq_ne h_la h_x (by simp))).trans h_la
  have h_qla : M25 qla = some (cJ (K 1) 25 (fun _ => 0)) := (ho _ (zq_ne h_qla h_x (by simp))).trans h_qla
  have h_mr : M25 mr = some (.inr (7, [.ref m1])) := (ho _ (zq_ne h_mr h_x (by simp))).trans h_mr
  have h_no : M25 no = some (.inr (8, [.ref qno, .int (iI (-1))])) := (ho _ (zq_ne h_no h_x (by simp))).trans h_no
  have h_qno : M25 qno = some (cJ (K 1) 25 (fun _ => 0)) := (ho _ (zq_ne h_qno h_x (by simp))).trans h_qno
  have h_x : M25 x = some (.inr (0, [.ref pi, .ref di, .ref ru, .ref al, .ref et, .ref mt, .ref mr, .ref no, .int (iI 0), .int (iI 0)])) := hs
  have hfr : ∀ q, M q ≠ none → q ≠ x → M25 q = M q := fun q g0 g1 => (ho q g1).trans (hfr q g0 g1)
  have hw0 : ∀ q, M q ≠ none → q ≠ x → M25 q = M q := fun q g0 g1 => (ho q g1).trans (hw0 q g0 g1)
  have hw1 : ∀ q, M3 q ≠ none → q ≠ x → M25 q = M3 q := fun q g0 g1 => (ho q g1).trans (hw1 q g0 g1)
  have hw2 : ∀ q, M6 q ≠ none → q ≠ x → M25 q = M6 q := fun q g0 g1 => (ho q g1).trans (hw2 q g0 g1)
  have hw3 : ∀ q, M9 q ≠ none → q ≠ x → M25 q = M9 q := fun q g0 g1 => (ho q g1).trans (hw3 q g0 g1)
  have hw4 : ∀ q, M12 q ≠ none → q ≠ x → M25 q = M12 q := fun q g0 g1 => (ho q g1).trans (hw4 q g0 g1)
  have hg5 : ∀ q, M14 q ≠ none → q ≠ x → M25 q = M14 q := fun q g0 g1 => (ho q g1).trans (hg5 q g0 g1)
  have hw5 : ∀ q, M15 q ≠ none → q ≠ x → M25 q = M15 q := fun q g0 g1 => (ho q g1).trans (hw5 q g0 g1)
  have hg6 : ∀ q, M17 q ≠ none → q ≠ x → M25 q = M17 q := fun q g0 g1 => (ho q g1).trans (hg6 q g0 g1)
  have hw6 : ∀ q, M18 q ≠ none → q ≠ x → M25 q = M18 q := fun q g0 g1 => (ho q g1).trans (hw6 q g0 g1)
  have hg7 : ∀ q, M20 q ≠ none → q ≠ x → M25 q = M20 q := fun q g0 g1 => (ho q g1).trans (hg7 q g0 g1)
  have hw7 : ∀ q, M21 q ≠ none → q ≠ x → M25 q = M21 q := fun q g0 g1 => (ho q g1).trans (hw7 q g0 g1)
  have hw8 : ∀ q, M24 q ≠ none → q ≠ x → M25 q = M24 q := fun q g0 g1 => (ho q g1).trans (hw8 q g0 g1)
  refine lv_aload_n hx hb d_AM_init_97 rfl (lv_at hl 0 rfl) ?_
  refine lv_iconst (v := iI 0) hx hb d_AM_init_98 rfl ?_
  refine zq_put (ci := 0) (v := .int (iI 0)) (ty := .boolean) hx hb hts i_AM t_AM t_AM_ok n_AM hown hK hw h_x rfl 9 (by decide) (hts _ tw_191) rfl (by decide +kernel) rfl rfl (Nat.le_of_ble_eq_true rfl) d_AM_init_99 (fun M26 H locs hs ho hw => ?_)
  have h_pi : M26 pi = some (.inr (2, [.ref pis, .ref pil, .int (iI 0)])) := (ho _ (zq_ne h_pi h_x (by simp))).trans h_pi
  have h_pis : M26 pis = some (cI (K 0) 12 (fun _ => 0)) := (ho _ (zq_ne h_pis h_x (by simp))).trans h_pis
  have h_pil : M26 pil = some (cI (K 0) 48 (fun _ => 0)) := (ho _ (zq_ne h_pil h_x (by simp))).trans h_pil
  have h_di : M26 di = some (.inr (2, [.ref dis, .ref dil, .int (iI 0)])) := (ho _ (zq_ne h_di h_x (by simp))).trans h_di
  have h_dis : M26 dis = some (cI (K 0) 12 (fun _ => 0)) := (ho _ (zq_ne h_dis h_x (by simp))).trans h_dis
  have h_dil : M26 dil = some (cI (K 0) 48 (fun _ => 0)) := (ho _ (zq_ne h_dil h_x (by simp))).trans h_dil
  have h_ru : M26 ru = some (.inr (4, [.ref r1, .ref r2, .ref r3, .ref r4])) := (ho _ (zq_ne h_ru h_x (by simp))).trans h_ru
  have h_r1 : M26 r1 = some (cI (K 0) 48 (fun _ => 0)) := (ho _ (zq_ne h_r1 h_x (by simp))).trans h_r1
  have h_r2 : M26 r2 = some (cI (K 0) 12 (fun _ => 0)) := (ho _ (zq_ne h_r2 h_x (by simp))).trans h_r2
  have h_r3 : M26 r3 = some (cI (K 0) 12 (fun _ => 0)) := (ho _ (zq_ne h_r3 h_x (by simp))).trans h_r3
  have h_r4 : M26 r4 = some (cI (K 2) 48 (fun _ => 0)) := (ho _ (zq_ne h_r4 h_x (by simp))).trans h_r4
  have h_al : M26 al = some (.inr (1, [.ref a1, .ref a2, .ref a3, .int (iI 0), .int (iI 0)])) := (ho _ (zq_ne h_al h_x (by simp))).trans h_al
  have h_a1 : M26 a1 = some (cI (K 0) 48 (fun _ => 0)) := (ho _ (zq_ne h_a1 h_x (by simp))).trans h_a1
  have h_a2 : M26 a2 = some (cI (K 0) 48 (fun _ => 0)) := (ho _ (zq_ne h_a2 h_x (by simp))).trans h_a2
  have h_a3 : M26 a3 = some (cI (K 0) 33 (fun _ => 0)) := (ho _ (zq_ne h_a3 h_x (by simp))).trans h_a3
  have h_et : M26 et = some (.inr (5, [.ref e1, .ref e2, .int (iI 0), .int (iI 0)])) := (ho _ (zq_ne h_et h_x (by simp))).trans h_et
  have h_mt : M26 mt = some (.inr (6, [.ref dt, .ref la, .int (iI 0), .int (iI 0), .int (iI 0)])) := (ho _ (zq_ne h_mt h_x (by simp))).trans h_mt
  have h_dt : M26 dt = some (.inr (3, [.ref cA, .ref pr, .ref on])) := (ho _ (zq_ne h_dt h_x (by simp))).trans h_dt
  have h_pr : M26 pr = some (.inr (8, [.ref qpr, .int (iI (-1))])) := (ho _ (zq_ne h_pr h_x (by simp))).trans h_pr
  have h_qpr : M26 qpr = some (cJ (K 1) 25 (fun _ => 0)) := (ho _ (zq_ne h_qpr h_x (by simp))).trans h_qpr
  have h_on : M26 on = some (.inr (8, [.ref qon, .int (iI 0)])) := (ho _ (zq_ne h_on h_x (by simp))).trans h_on
  have h_qon : M26 qon = some (cJ (K 1) 25 (zu (zu (fun _ => 0) 0 1) 1 0)) := (ho _ (zq_ne h_qon h_x (by simp))).trans h_qon
  have h_la : M26 la = some (.inr (8, [.ref qla, .int (iI (-1))])) := (ho _ (zq_ne h_la h_x (by simp))).trans h_la
  have h_qla : M26 qla = some (cJ (K 1) 25 (fun _ => 0)) := (ho _ (zq_ne h_qla h_x (by simp))).trans h_qla
  have h_mr : M26 mr = some (.inr (7, [.ref m1])) := (ho _ (zq_ne h_mr h_x (by simp))).trans h_mr
  have h_no : M26 no = some (.inr (8, [.ref qno, .int (iI (-1))])) := (ho _ (zq_ne h_no h_x (by simp))).trans h_no
  have h_qno : M26 qno = some (cJ (K 1) 25 (fun _ => 0)) := (ho _ (zq_ne h_qno h_x (by simp))).trans h_qno
  have h_x : M26 x = some (.inr (0, [.ref pi, .ref di, .ref ru, .ref al, .ref et, .ref mt, .ref mr, .ref no, .int (iI 0), .int (iI 0)])) := hs
  have hfr : ∀ q, M q ≠ none → q ≠ x → M26 q = M q := fun q g0 g1 => (ho q g1).trans (hfr q g0 g1)
  have hw0 : ∀ q, M q ≠ none → q ≠ x → M26 q = M q := fun q g0 g1 => (ho q g1).trans (hw0 q g0 g1)
  have hw1 : ∀ q, M3 q ≠ none → q ≠ x → M26 q = M3 q := fun q g0 g1 => (ho q g1).trans (hw1 q g0 g1)
  have hw2 : ∀ q, M6 q ≠ none → q ≠ x → M26 q = M6 q := fun q g0 g1 => (ho q g1).trans (hw2 q g0 g1)
  have hw3 : ∀ q, M9 q ≠ none → q ≠ x → M26 q = M9 q := fun q g0 g1 => (ho q g1).trans (hw3 q g0 g1)
  have hw4 : ∀ q, M12 q ≠ none → q ≠ x → M26 q = M12 q := fun q g0 g1 => (ho q g1).trans (hw4 q g0 g1)
  have hg5 : ∀ q, M14 q ≠ none → q ≠ x → M26 q = M14 q := fun q g0 g1 => (ho q g1).trans (hg5 q g0 g1)
  have hw5 : ∀ q, M15 q ≠ none → q ≠ x → M26 q = M15 q := fun q g0 g1 => (ho q g1).trans (hw5 q g0 g1)
  have hg6 : ∀ q, M17 q ≠ none → q ≠ x → M26 q = M17 q := fun q g0 g1 => (ho q g1).trans (hg6 q g0 g1)
  have hw6 : ∀ q, M18 q ≠ none → q ≠ x → M26 q = M18 q := fun q g0 g1 => (ho q g1).trans (hw6 q g0 g1)
  have hg7 : ∀ q, M20 q ≠ none → q ≠ x → M26 q = M20 q := fun q g0 g1 => (ho q g1).trans (hg7 q g0 g1)
  have hw7 : ∀ q, M21 q ≠ none → q ≠ x → M26 q = M21 q := fun q g0 g1 => (ho q g1).trans (hw7 q g0 g1)
  have hw8 : ∀ q, M24 q ≠ none → q ≠ x → M26 q = M24 q := fun q g0 g1 => (ho q g1).trans (hw8 q g0 g1)
  have mo8 := hw8
  have hGa9 := zG_new hGa h_x5 hw5
  have hGb9 := zG_new hGb h_x5 hw5
  have hPG9 := zPG_new hPGn h_x6 hw6
  have hGm9 := zG_new hGm h_x7 hw7
  have nn8 : ∀ q, q ≠ x → M24 q = none → M21 q = none := fun q hx hq => zmo mo7 hq hx
  have nn7 : ∀ q, q ≠ x → M21 q = none → M18 q = none := fun q hx hq => zmo mo6 hq hx
  have nn6 : ∀ q, q ≠ x → M18 q = none → M15 q = none := fun q hx hq => zmo mo5 hq hx
  have nn5 : ∀ q, q ≠ x → M15 q = none → M12 q = none := fun q hx hq => zmo mo4 hq hx
  have nn4 : ∀ q, q ≠ x → M12 q = none → M9 q = none := fun q hx hq => zmo mo3 hq hx
  have nn3 : ∀ q, q ≠ x → M9 q = none → M6 q = none := fun q hx hq => zmo mo2 hq hx
  have nn2 : ∀ q, q ≠ x → M6 q = none → M3 q = none := fun q hx hq => zmo mo1 hq hx
  have nn1 : ∀ q, q ≠ x → M3 q = none → M q = none := fun q hx hq => zmo mo0 hq hx
  have ow_pi : (zon x M M3 M6 M9 M12 M15 M18 M21 M24) pi = 1 := zon1 (zq_ne h_pi h_x (by simp)) hmpi k_pi
  have ow_pis : (zon x M M3 M6 M9 M12 M15 M18 M21 M24) pis = 1 := zon1 (zq_ne h_pis h_x (by simp)) hmpis k_pis
  have ow_pil : (zon x M M3 M6 M9 M12 M15 M18 M21 M24) pil = 1 := zon1 (zq_ne h_pil h_x (by simp)) hmpil k_pil
  have ow_di : (zon x M M3 M6 M9 M12 M15 M18 M21 M24) di = 2 := zon2 (zq_ne h_di h_x (by simp)) hmdi hmdi_hw1 k_di
  have ow_dis : (zon x M M3 M6 M9 M12 M15 M18 M21 M24) dis = 2 := zon2 (zq_ne h_dis h_x (by simp)) hmdis hmdis_hw1 k_dis
  have ow_dil : (zon x M M3 M6 M9 M12 M15 M18 M21 M24) dil = 2 := zon2 (zq_ne h_dil h_x (by simp)) hmdil hmdil_hw1 k_dil
  have ow_ru : (zon x M M3 M6 M9 M12 M15 M18 M21 M24) ru = 3 := zon3 (zq_ne h_ru h_x (by simp)) hmru hmru_hw1 hmru_hw2 k_ru
  have ow_r1 : (zon x M M3 M6 M9 M12 M15 M18 M21 M24) r1 = 3 := zon3 (zq_ne h_r1 h_x (by simp)) hmr1 hmr1_hw1 hmr1_hw2 k_r1
  have ow_r2 : (zon x M M3 M6 M9 M12 M15 M18 M21 M24) r2 = 3 := zon3 (zq_ne h_r2 h_x (by simp)) hmr2 hmr2_hw1 hmr2_hw2 k_r2
  have ow_r3 : (zon x M M3 M6 M9 M12 M15 M18 M21 M24) r3 = 3 := zon3 (zq_ne h_r3 h_x (by simp)) hmr3 hmr3_hw1 hmr3_hw2 k_r3
  have ow_r4 : (zon x M M3 M6 M9 M12 M15 M18 M21 M24) r4 = 3 := zon3 (zq_ne h_r4 h_x (by simp)) hmr4 hmr4_hw1 hmr4_hw2 k_r4
  have ow_al : (zon x M M3 M6 M9 M12 M15 M18 M21 M24) al = 4 := zon4 (zq_ne h_al h_x (by simp)) hmal hmal_hw1 hmal_hw2 hmal_hw3 k_al
  have ow_a1 : (zon x M M3 M6 M9 M12 M15 M18 M21 M24) a1 = 4 := zon4 (zq_ne h_a1 h_x (by simp)) hma1 hma1_hw1 hma1_hw2 hma1_hw3 k_a1
  have ow_a2 : (zon x M M3 M6 M9 M12 M15 M18 M21 M24) a2 = 4 := zon4 (zq_ne h_a2 h_x (by simp)) hma2 hma2_hw1 hma2_hw2 hma2_hw3 k_a2
  have ow_a3 : (zon x M M3 M6 M9 M12 M15 M18 M21 M24) a3 = 4 := zon4 (zq_ne h_a3 h_x (by simp)) hma3 hma3_hw1 hma3_hw2 hma3_hw3 k_a3
  have ow_et : (zon x M M3 M6 M9 M12 M15 M18 M21 M24) et = 5 := zon5 (zq_ne h_et h_x (by simp)) hmet hmet_hw1 hmet_hw2 hmet_hw3 hmet_hw4 k_et
  have ow_e1 : (zon x M M3 M6 M9 M12 M15 M18 M21 M24) e1 = 5 := zon5 (zq_ne hGa.1 h_x5 (by simp)) hme1 hme1_hw1 hme1_hw2 hme1_hw3 hme1_hw4 hGa.1
  have ow_e2 : (zon x M M3 M6 M9 M12 M15 M18 M21 M24) e2 = 5 := zon5 (zq_ne hGb.1 h_x5 (by simp)) hme2 hme2_hw1 hme2_hw2 hme2_hw3 hme2_hw4 hGb.1
  have ow_mt : (zon x M M3 M6 M9 M12 M15 M18 M21 M24) mt = 6 := zon6 (zq_ne h_mt h_x (by simp)) hmmt hmmt_hw1 hmmt_hw2 hmmt_hw3 hmmt_hw4 hmmt_hw5 k_mt
  have ow_dt : (zon x M M3 M6 M9 M12 M15 M18 M21 M24) dt = 6 := zon6 (zq_ne h_dt h_x (by simp)) hmdt hmdt_hw1 hmdt_hw2 hmdt_hw3 hmdt_hw4 hmdt_hw5 k_dt
  have ow_la : (zon x M M3 M6 M9 M12 M15 M18 M21 M24) la = 6 := zon6 (zq_ne h_la h_x (by simp)) hmla hmla_hw1 hmla_hw2 hmla_hw3 hmla_hw4 hmla_hw5 k_la
  have ow_qla : (zon x M M3 M6 M9 M12 M15 M18 M21 M24) qla = 6 := zon6 (zq_ne h_qla h_x (by simp)) hmqla hmqla_hw1 hmqla_hw2 hmqla_hw3 hmqla_hw4 hmqla_hw5 k_qla
  have ow_cA : (zon x M M3 M6 M9 M12 M15 M18 M21 M24) cA = 6 := zon6 (zq_ne hPGn.1 h_x6 (by simp)) hmcA hmcA_hw1 hmcA_hw2 hmcA_hw3 hmcA_hw4 hmcA_hw5 hPGn.1
  have ow_pr : (zon x M M3 M6 M9 M12 M15 M18 M21 M24) pr = 6 := zon6 (zq_ne h_pr h_x (by simp)) hmpr hmpr_hw1 hmpr_hw2 hmpr_hw3 hmpr_hw4 hmpr_hw5 k_pr
  have ow_qpr : (zon x M M3 M6 M9 M12 M15 M18 M21 M24) qpr = 6 := zon6 (zq_ne h_qpr h_x (by simp)) hmqpr hmqpr_hw1 hmqpr_hw2 hmqpr_hw3 hmqpr_hw4 hmqpr_hw5 k_qpr
  have ow_on : (zon x M M3 M6 M9 M12 M15 M18 M21 M24) on = 6 := zon6 (zq_ne h_on h_x (by simp)) hmon hmon_hw1 hmon_hw2 hmon_hw3 hmon_hw4 hmon_hw5 k_on
  have ow_qon : (zon x M M3 M6 M9 M12 M15 M18 M21 M24) qon = 6 := zon6 (zq_ne h_qon h_x (by simp)) hmqon hmqon_hw1 hmqon_hw2 hmqon_hw3 hmqon_hw4 hmqon_hw5 k_qon
  have ow_mr : (zon x M M3 M6 M9 M12 M15 M18 M21 M24) mr = 7 := zon7 (zq_ne h_mr h_x (by simp)) hmmr hmmr_hw1 hmmr_hw2 hmmr_hw3 hmmr_hw4 hmmr_hw5 hmmr_hw6 k_mr
  have ow_m1 : (zon x M M3 M6 M9 M12 M15 M18 M21 M24) m1 = 7 := zon7 (zq_ne hGm.1 h_x7 (by simp)) hmm1 hmm1_hw1 hmm1_hw2 hmm1_hw3 hmm1_hw4 hmm1_hw5 hmm1_hw6 hGm.1
  have ow_no : (zon x M M3 M6 M9 M12 M15 M18 M21 M24) no = 8 := zon8 (zq_ne h_no h_x (by simp)) hmno hmno_hw1 hmno_hw2 hmno_hw3 hmno_hw4 hmno_hw5 hmno_hw6 hmno_hw7 k_no
  have ow_qno : (zon x M M3 M6 M9 M12 M15 M18 M21 M24) qno = 8 := zon8 (zq_ne h_qno h_x (by simp)) hmqno hmqno_hw1 hmqno_hw2 hmqno_hw3 hmqno_hw4 hmqno_hw5 hmqno_hw6 hmqno_hw7 k_qno
  have ow_ea : ∀ i, 0 ≤ i → i < 12 → (zon x M M3 M6 M9 M12 M15 M18 M21 M24) (ea i) = 5 := fun i h1 h2 => (by have n0 := zmo hb5 (hqea i h1 h2) (zq_ne ((fun i h1 h2 => hGa.2.1 i h1 h2) i h1 h2) h_x5 (by simp)); have nx := zq_ne ((fun i h1 h2 => hGa.2.1 i h1 h2) i h1 h2) h_x5 (by simp); have n1 := nn4 _ nx n0; have n2 := nn3 _ nx n1; have n3 := nn2 _ nx n2; have n4 := nn1 _ nx n3; exact zon5 nx n4 n3 n2 n1 n0 ((fun i h1 h2 => hGa.2.1 i h1 h2) i h1 h2))
  have ow_eb : ∀ i, 0 ≤ i → i < 12 → (zon x M M3 M6 M9 M12 M15 M18 M21 M24) (eb i) = 5 := fun i h1 h2 => (by have n0 := zmo hb5 (hqeb i h1 h2) (zq_ne ((fun i h1 h2 => hGb.2.1 i h1 h2) i h1 h2) h_x5 (by simp)); have nx := zq_ne ((fun i h1 h2 => hGb.2.1 i h1 h2) i h1 h2) h_x5 (by simp); have n1 := nn4 _ nx n0; have n2 := nn3 _ nx n1; have n3 := nn2 _ nx n2; have n4 := nn1 _ nx n3; exact zon5 nx n4 n3 n2 n1 n0 ((fun i h1 h2 => hGb.2.1 i h1 h2) i h1 h2))
  have ow_rm : ∀ i, 0 ≤ i → i < 12 → (zon x M M3 M6 M9 M12 M15 M18 M21 M24) (rm i) = 7 := fun i h1 h2 => (by have n0 := zmo hb7 (hqrm i h1 h2) (zq_ne ((fun i h1 h2 => hGm.2.1 i h1 h2) i h1 h2) h_x7 (by simp)); have nx := zq_ne ((fun i h1 h2 => hGm.2.1 i h1 h2) i h1 h2) h_x7 (by simp); have n1 := nn6 _ nx n0; have n2 := nn5 _ nx n1; have n3 := nn4 _ nx n2; have n4 := nn3 _ nx n3; have n5 := nn2 _ nx n4; have n6 := nn1 _ nx n5; exact zon7 nx n6 n5 n4 n3 n2 n1 n0 ((fun i h1 h2 => hGm.2.1 i h1 h2) i h1 h2))
  have ow_pa : ∀ i, 0 ≤ i → i < 144 → (zon x M M3 M6 M9 M12 M15 M18 M21 M24) (pa i) = 6 := fun i h1 h2 => (by have nx := zq_ne (hPGn.2.1 i h1 h2).1 h_x6 (by simp); have n0 := zmo hb6 (hqpa i h1 h2).1 nx; have n1 := nn5 _ nx n0; have n2 := nn4 _ nx n1; have n3 := nn3 _ nx n2; have n4 := nn2 _ nx n3; have n5 := nn1 _ nx n4; exact zon6 nx n5 n4 n3 n2 n1 n0 (hPGn.2.1 i h1 h2).1)
  have ow_qa : ∀ i, 0 ≤ i → i < 144 → (zon x M M3 M6 M9 M12 M15 M18 M21 M24) (qa i) = 6 := fun i h1 h2 => (by have nx := zq_ne (hPGn.2.1 i h1 h2).2 h_x6 (by simp); have n0 := zmo hb6 (hqpa i h1 h2).2 nx; have n1 := nn5 _ nx n0; have n2 := nn4 _ nx n1; have n3 := nn3 _ nx n2; have n4 := nn2 _ nx n3; have n5 := nn1 _ nx n4; exact zon6 nx n5 n4 n3 n2 n1 n0 (hPGn.2.1 i h1 h2).2)
  exact zq_vret hx hb hr hlocks hZ hw ⟨rfl, ((x, pi, pis, pil, di, dis, dil, ru, r1, r2, r3, r4, al, a1, a2, a3, et, e1, e2, mt, dt, la, qla, cA, pr, qpr, on, qon, mr, m1, no, qno, ea, eb, rm, pa, qa) : zAd), (zon x M M3 M6 M9 M12 M15 M18 M21 M24), rfl, zIni ⟨ow_pi, ow_pis, ow_pil, h_pi, h_pis, h_pil, ⟨by decide, by decide, fun _ => zi0, fun _ => zi0⟩⟩ ⟨ow_di, ow_dis, ow_dil, h_di, h_dis, h_dil, ⟨by decide, by decide, fun _ => zi0, fun _ => zi0⟩⟩ ⟨ow_ru, ow_r1, ow_r2, ow_r3, ow_r4, hbc, had, (fun _ => 0), (fun _ => 0), (fun _ => 0), (fun _ => 0), h_ru, h_r1, h_r2, h_r3, h_r4, fun _ => zi0, fun _ => Or.inl rfl⟩ ⟨ow_al, ow_a1, ow_a2, ow_a3, hab, h_al, h_a1, h_a2, h_a3, ⟨by decide, by decide, by decide, by decide, fun _ => zi0, fun _ => zi0, fun _ => zi0⟩⟩ ⟨ow_et, ow_e1, ow_e2, ow_ea, ow_eb, h_et, hGa9, hGb9, ⟨by decide, by decide, by decide, by decide, fun _ _ => zi0, fun _ _ => zi0, hdab⟩, fun _ _ => ⟨(show (-4 : Int) ≤ 0 by decide), (show (0 : Int) ≤ 4 by decide)⟩, fun _ _ => ⟨(show (-4 : Int) ≤ 0 by decide), (show (0 : Int) ≤ 4 by decide)⟩⟩ ⟨ow_mt, ow_dt, ow_la, ow_qla, ow_cA, ow_pr, ow_qpr, ow_on, ow_qon, fun i h1 h2 => ⟨ow_pa i h1 h2, ow_qa i h1 h2⟩, (fun _ => -1), (fun _ _ => 0), -1, (fun _ => 0), h_mt, h_dt, hPG9, zPI_0, h_pr, h_qpr, zU_new (by decide) (by decide), h_on, h_qon, h_la, h_qla, zD_0, hd1, hd2, hd4, hd3, hd5, hd6⟩ ⟨ow_mr, ow_m1, ow_rm, (fun _ _ => 0), h_mr, hGm9, fun _ _ => ⟨Int.le_refl _, (show (0 : Int) ≤ 96 by decide)⟩⟩ ⟨ow_no, ow_qno, h_no, h_qno, zD_0⟩ (zon0 _ _ _ _ _ _ _ _ _) h_x, fun q h1 h2 => ⟨zon10 h2 h1, hfr q h1 h2⟩, fun q hq => zon_le hw1 hw2 hw3 hw4 hw5 hw6 hw7 hw8 (by rw [h_x]; nofun) q hq⟩ d_AM_init_102
