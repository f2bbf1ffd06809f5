abbrev P_MT_init (K : Nat → ClassId) (M : zq_M) (o : Nat) : Option Value → zq_M → Prop := fun v M' => v = none ∧ ∃ dt cA pr on pa qa qpr qon la qla, M dt = none ∧ M cA = none ∧ M pr = none ∧ M qpr = none ∧ M on = none ∧ M qon = none ∧ M la = none ∧ M qla = none ∧ (∀ i, 0 ≤ i → i < 144 → M (pa i) = none ∧ M (qa i) = none) ∧ zPG K M' cA pa qa (fun _ => -1) (fun _ _ => 0) ∧ M' o = some (.inr (6, [.ref dt, .ref la, .int (iI 0), .int (iI 0), .int (iI 0)])) ∧ M' dt = some (.inr (3, [.ref cA, .ref pr, .ref on])) ∧ M' pr = some (.inr (8, [.ref qpr, .int (iI (-1))])) ∧ M' qpr = some (cJ (K 1) 25 (fun _ => 0)) ∧ M' on = some (.inr (8, [.ref qon, .int (iI 0)])) ∧ M' qon = some (cJ (K 1) 25 (zu (zu (fun _ => 0) 0 1) 1 0)) ∧ M' la = some (.inr (8, [.ref qla, .int (iI (-1))])) ∧ M' qla = some (cJ (K 1) 25 (fun _ => 0)) ∧ (∀ i, 0 ≤ i → i < 144 → pa i ≠ pr ∧ qa i ≠ qpr) ∧ (∀ i, 0 ≤ i → i < 144 → pa i ≠ on ∧ qa i ≠ qon) ∧ (on ≠ pr ∧ qon ≠ qpr) ∧ (∀ i, 0 ≤ i → i < 144 → pa i ≠ la ∧ qa i ≠ qla) ∧ (on ≠ la ∧ qon ≠ qla) ∧ (la ≠ pr ∧ qla ≠ qpr) ∧ ∀ q, M q ≠ none → q ≠ o → M' q = M q
set_option maxHeartbeats 4000000 in
set_option maxRecDepth 100000 in
theorem c_MT_init (l : Launch) (D : va_G) (K : Nat → ClassId) (M : zq_M) (o : Nat) (h_o : M o = some (.inr (6, [.null, .null, .int (iI 0), .int (iI 0), .int (iI 0)]))) : zq_Met l y_MT_init (.code y_MT_init b_MT_init 1 none :: lw_gd) { frames := 3, cells := 296, slots := 4116, locals := 67 } D vwCl (zT K) [.ref o] M (P_MT_init K M o) 296 4116 := by
  refine zq_start (cc := b_MT_init) (maxL := 1) (ret := none) (by decide) rfl (Nat.le_of_ble_eq_true rfl) ?_
  intro p e s m below meth co A ls hx hb hr hml hts hown hnm hlocks hA hZ hw hl
  have hts : ∀ w ∈ lw_gd, w.before [.ref o].toArray s = true := fun w h => hts w (List.mem_cons_of_mem _ h)
  have hown : s.vm.findClass R_MT = some m.cls := hown
  have hK := hZ.1
  have hnm : meth.name = "<init>" := hnm
  have hl : lv_has ls 1 [(0, .ref o)] := hl
  have hfr : ∀ q, M q ≠ none → q ≠ o → M q = M q := fun q _ _ => rfl
  refine lv_aload_n hx hb d_MT_init_0 rfl (lv_at hl 0 rfl) ?_
  refine W.objInit hx hb hown (hts _ tw_107) (hts _ tw_20) (hts _ tw_21) rfl (by rw [hml]; exact hl.1) rfl d_MT_init_1 (Nat.le_of_ble_eq_true rfl) (Nat.le_of_ble_eq_true rfl) ?_
  refine W.eq (g2 := F0 m 4 ls []) rfl ?_
  refine lv_aload_n hx hb d_MT_init_4 rfl (lv_at hl 0 rfl) ?_
  refine zq_new (ci := 3) (fs := [.null, .null, .null]) hx hb hts i_DT t_DT t_DT_ok hown (hts _ tw_108) (hts _ tw_109) (hts _ tw_7) hK hw hA rfl (fun j hj => by rcases (show j = 0 ∨ j = 1 ∨ j = 2 by omega) with rfl | rfl | rfl <;> rfl) (Nat.le_of_ble_eq_true rfl) (Nat.le_of_ble_eq_true rfl) d_MT_init_5 (fun dt M1 H hqdt hs ho hw => ?_)
  have hmdt : M dt = none := Classical.byContradiction fun z => z ((hfr dt z (zq_nn hqdt h_o).symm).symm.trans hqdt)
  have h_o : M1 o = some (.inr (6, [.null, .null, .int (iI 0), .int (iI 0), .int (iI 0)])) := (ho _ (zq_nn hqdt h_o)).trans h_o
  have h_dt : M1 dt = some (.inr (3, [.null, .null, .null])) := hs
  have hfr : ∀ q, M q ≠ none → q ≠ o → M1 q = M q := fun q g0 g1 => (ho q (fun z9 => g0 (by rw [z9]; exact hmdt))).trans (hfr q g0 g1)
  refine lv_dup hx hb d_MT_init_8 rfl ?_
  have hfr0 := hfr
  have h_o0 := h_o
  refine zq_callI (C := "") (As := []) (rest := [.ref dt, .ref o]) ⟨hx, hb, hml, hown, hts⟩ (c_DT_init l D K M1 dt h_dt) (cwI 0 hts (zg_I tw_112) rfl rfl rfl (hts _ tw_7) (hts _ tw_110) (hts _ tw_111) rfl (by decide +kernel) ⟨Nat.le_of_ble_eq_true rfl, Nat.le_of_ble_eq_true rfl⟩) hZ hw hA rfl rfl hl.1 (Nat.le_of_ble_eq_true rfl) d_MT_init_9 ⟨Nat.le_of_ble_eq_true rfl, Nat.le_of_ble_eq_true rfl⟩ (fun v M2 H locs hp hw => ?_)
  obtain ⟨rfl, cA, pr, on, pa, qa, qpr, qon, hqcA, hqpr, hqqpr, hqon, hqqon, hqp, hPGn, hs1, hs2, hs3, hs4, hs5, hd1, hd2, hd3, ho⟩ := hp
  have hs_o := hs1
  have hmcA : M cA = none := Classical.byContradiction fun z => z ((hfr cA z (zq_nn hqcA h_o).symm).symm.trans hqcA)
  have hmpr : M pr = none := Classical.byContradiction fun z => z ((hfr pr z (zq_nn hqpr h_o).symm).symm.trans hqpr)
  have hmqpr : M qpr = none := Classical.byContradiction fun z => z ((hfr qpr z (zq_nn hqqpr h_o).symm).symm.trans hqqpr)
  have hmon : M on = none := Classical.byContradiction fun z => z ((hfr on z (zq_nn hqon h_o).symm).symm.trans hqon)
  have hmqon : M qon = none := Classical.byContradiction fun z => z ((hfr qon z (zq_nn hqqon h_o).symm).symm.trans hqqon)
  have h_o : M2 o = some (.inr (6, [.null, .null, .int (iI 0), .int (iI 0), .int (iI 0)])) := (ho _ (by rw [h_o]; nofun) (zq_ne h_o h_dt (by simp))).trans h_o
  have h_dt : M2 dt = some (.inr (3, [.ref cA, .ref pr, .ref on])) := hs_o
  have hfr : ∀ q, M q ≠ none → q ≠ o → M2 q = M q := fun q g0 g1 => (ho q (by rw [hfr q g0 g1]; exact g0) (fun z9 => g0 (by rw [z9]; exact hmdt))).trans (hfr q g0 g1)
  have h_pr : M2 pr = some (.inr (8, [.ref qpr, .int (iI (-1))])) := hs2
  have h_qpr : M2 qpr = some (cJ (K 1) 25 (fun _ => 0)) := hs3
  have h_on : M2 on = some (.inr (8, [.ref qon, .int (iI 0)])) := hs4
  have h_qon : M2 qon = some (cJ (K 1) 25 (zu (zu (fun _ => 0) 0 1) 1 0)) := hs5
  have hqpa : ∀ i, 0 ≤ i → i < 144 → M (pa i) = none ∧ M (qa i) = none := fun i h1 h2 => ⟨Classical.byContradiction fun z => (by have z2 := (hqp i h1 h2).1; rw [hfr0 _ z (fun y => by rw [y, h_o0] at z2; cases z2)] at z2; exact z z2), Classical.byContradiction fun z => (by have z2 := (hqp i h1 h2).2; rw [hfr0 _ z (fun y => by rw [y, h_o0] at z2; cases z2)] at z2; exact z z2)⟩
  have hfp : ∀ q, M2 q ≠ none → q ≠ o → M2 q = M2 q := fun q _ _ => rfl
  have h_oP := h_o
  refine W.eq (g2 := F0 m 12 ls [.ref dt, .ref o]) rfl ?_
  refine zq_putF (ci := 6) (v := .ref dt) (ty := .object "AlexanderMatrix$Determinant") hx hb hts i_MT t_MT t_MT_ok n_MT hown hK hw h_o rfl 0 (by decide) (hts _ tw_153) rfl hnm rfl (by decide +kernel) rfl rfl (Nat.le_of_ble_eq_true rfl) d_MT_init_12 (fun M3 H locs hs ho hw => ?_)
  have h_dt : M3 dt = some (.inr (3, [.ref cA, .ref pr, .ref on])) := (ho _ (zq_ne h_dt h_o (by simp))).trans h_dt
  have h_pr : M3 pr = some (.inr (8, [.ref qpr, .int (iI (-1))])) := (ho _ (zq_ne h_pr h_o (by simp))).trans h_pr
  have h_qpr : M3 qpr = some (cJ (K 1) 25 (fun _ => 0)) := (ho _ (zq_ne h_qpr h_o (by simp))).trans h_qpr
  have h_on : M3 on = some (.inr (8, [.ref qon, .int (iI 0)])) := (ho _ (zq_ne h_on h_o (by simp))).trans h_on
  have h_qon : M3 qon = some (cJ (K 1) 25 (zu (zu (fun _ => 0) 0 1) 1 0)) := (ho _ (zq_ne h_qon h_o (by simp))).trans h_qon
  have h_o : M3 o = some (.inr (6, [.ref dt, .null, .int (iI 0), .int (iI 0), .int (iI 0)])) := hs
  have hfr : ∀ q, M q ≠ none → q ≠ o → M3 q = M q := fun q g0 g1 => (ho q g1).trans (hfr q g0 g1)
  have hfp : ∀ q, M2 q ≠ none → q ≠ o → M3 q = M2 q := fun q g0 g1 => (ho q g1).trans (hfp q g0 g1)
  refine lv_aload_n hx hb d_MT_init_15 rfl (lv_at hl 0 rfl) ?_
  refine zq_new (ci := 8) (fs := [.null, .int (iI 0)]) hx hb hts i_PO t_PO t_PO_ok hown (hts _ tw_151) (hts _ tw_116) (hts _ tw_8) hK hw hA rfl (fun j hj => by rcases (show j = 0 ∨ j = 1 by omega) with rfl | rfl <;> rfl) (Nat.le_of_ble_eq_true rfl) (Nat.le_of_ble_eq_true rfl) d_MT_init_16 (fun la M4 H hqla hs ho hw => ?_)
  have hmla : M la = none := Classical.byContradiction fun z => z ((hfr la z (zq_nn hqla h_o).symm).symm.trans hqla)
  have hmla_hfp : M2 la = none := Classical.byContradiction fun z => z ((hfp la z (zq_nn hqla h_o).symm).symm.trans hqla)
  have h_o : M4 o = some (.inr (6, [.ref dt, .null, .int (iI 0), .int (iI 0), .int (iI 0)])) := (ho _ (zq_nn hqla h_o)).trans h_o
  have h_dt : M4 dt = some (.inr (3, [.ref cA, .ref pr, .ref on])) := (ho _ (zq_nn hqla h_dt)).trans h_dt
  have h_pr : M4 pr = some (.inr (8, [.ref qpr, .int (iI (-1))])) := (ho _ (zq_nn hqla h_pr)).trans h_pr
  have h_qpr : M4 qpr = some (cJ (K 1) 25 (fun _ => 0)) := (ho _ (zq_nn hqla h_qpr)).trans h_qpr
  have h_on : M4 on = some (.inr (8, [.ref qon, .int (iI 0)])) := (ho _ (zq_nn hqla h_on)).trans h_on
  have h_qon : M4 qon = some (cJ (K 1) 25 (zu (zu (fun _ => 0) 0 1) 1 0)) := (ho _ (zq_nn hqla h_qon)).trans h_qon
  have h_la : M4 la = some (.inr (8, [.null, .int (iI 0)])) := hs
  have hfr : ∀ q, M q ≠ none → q ≠ o → M4 q = M q := fun q g0 g1 => (ho q (fun z9 => g0 (by rw [z9]; exact hmla))).trans (hfr q g0 g1)
  have hfp : ∀ q, M2 q ≠ none → q ≠ o → M4 q = M2 q := fun q g0 g1 => (ho q (fun z9 => g0 (by rw [z9]; exact hmla_hfp))).trans (hfp q g0 g1)
  have hlp : la ≠ pr := zq_ne h_la h_pr (by simp)
  have hlo : la ≠ on := zq_ne h_la h_on (by simp)
  have h_qprX := h_qpr
  have h_qonX := h_qon
  refine lv_dup hx hb d_MT_init_19 rfl ?_
  refine zq_callI (C := "") (As := []) (rest := [.ref la, .ref o]) ⟨hx, hb, hml, hown, hts⟩ (c_PO_init l D K M4 la h_la) (cwI 0 hts (zg_I tw_119) rfl rfl rfl (hts _ tw_8) (hts _ tw_152) (hts _ tw_118) rfl (by decide +kernel) ⟨Nat.le_of_ble_eq_true rfl, Nat.le_of_ble_eq_true rfl⟩) hZ hw hA rfl rfl hl.1 (Nat.le_of_ble_eq_true rfl) d_MT_init_20 ⟨Nat.le_of_ble_eq_true rfl, Nat.le_of_ble_eq_true rfl⟩ (fun v M5 H locs hp hw => ?_)
  obtain ⟨rfl, qla, hb1, hbo, hs1, hs2, ho⟩ := hp
  have hqqla := hb1
  have hs_o := hs1
  have ho : ∀ q, M4 q ≠ none → q ≠ la → M5 q = M4 q := fun q g0 g1 => ho q g1 (fun z => g0 (by rw [z]; exact hb1))
  have hmqla : M qla = none := Classical.byContradiction fun z => z ((hfr qla z (zq_nn hqqla h_o).symm).symm.trans hqqla)
  have hmqla_hfp : M2 qla = none := Classical.byContradiction fun z => z ((hfp qla z (zq_nn hqqla h_o).symm).symm.trans hqqla)
  have h_o : M5 o = some (.inr (6, [.ref dt, .null, .int (iI 0), .int (iI 0), .int (iI 0)])) := (ho _ (by rw [h_o]; nofun) (zq_ne h_o h_la (by simp))).trans h_o
  have h_dt : M5 dt = some (.inr (3, [.ref cA, .ref pr, .ref on])) := (ho _ (by rw [h_dt]; nofun) (zq_ne h_dt h_la (by simp))).trans h_dt
  have h_pr : M5 pr = some (.inr (8, [.ref qpr, .int (iI (-1))])) := (ho _ (by rw [h_pr]; nofun) (Ne.symm hlp)).trans h_pr
  have h_qpr : M5 qpr = some (cJ (K 1) 25 (fun _ => 0)) := (ho _ (by rw [h_qpr]; nofun) (zq_ne h_qpr h_la (by simp))).trans h_qpr
  have h_on : M5 on = some (.inr (8, [.ref qon, .int (iI 0)])) := (ho _ (by rw [h_on]; nofun) (Ne.symm hlo)).trans h_on
  have h_qon : M5 qon = some (cJ (K 1) 25 (zu (zu (fun _ => 0) 0 1) 1 0)) := (ho _ (by rw [h_qon]; nofun) (zq_ne h_qon h_la (by simp))).trans h_qon
  have h_la : M5 la = some (.inr (8, [.ref qla, .int (iI (-1))])) := hs_o
  have hfr : ∀ q, M q ≠ none → q ≠ o → M5 q = M q := fun q g0 g1 => (ho q (by rw [hfr q g0 g1]; exact g0) (fun z9 => g0 (by rw [z9]; exact hmla))).trans (hfr q g0 g1)
  have hfp : ∀ q, M2 q ≠ none → q ≠ o → M5 q = M2 q := fun q g0 g1 => (ho q (by rw [hfp q g0 g1]; exact g0) (fun z9 => g0 (by rw [z9]; exact hmla_hfp))).trans (hfp q g0 g1)
  have h_qla : M5 qla = some (cJ (K 1) 25 (fun _ => 0)) := hs2
  refine W.eq (g2 := F0 m 23 ls [.ref la, .ref o]) rfl ?_
  have hlpq : qla ≠ qpr := (zq_nn hqqla h_qprX).symm
  have hloq : qla ≠ qon := (zq_nn hqqla h_qonX).symm
  refine zq_putF (ci := 6) (v := .ref la) (ty := .object "AlexanderMatrix$Polynomial") hx hb hts i_MT t_MT t_MT_ok n_MT hown hK hw h_o rfl 1 (by decide) (hts _ tw_154) rfl hnm rfl (by decide +kernel) rfl rfl (Nat.le_of_ble_eq_true rfl) d_MT_init_23 (fun M6 H locs hs ho hw => ?_)
  have h_dt : M6 dt = some (.inr (3, [.ref cA, .ref pr, .ref on])) := (ho _ (zq_ne h_dt h_o (by simp))).trans h_dt
  have h_pr : M6 pr = some (.inr (8, [.ref qpr, .int (iI (-1))])) := (ho _ (zq_ne h_pr h_o (by simp))).trans h_pr
  have h_qpr : M6 qpr = some (cJ (K 1) 25 (fun _ => 0)) := (ho _ (zq_ne h_qpr h_o (by simp))).trans h_qpr
  have h_on : M6 on = some (.inr (8, [.ref qon, .int (iI 0)])) := (ho _ (zq_ne h_on h_o (by simp))).trans h_on
  have h_qon : M6 qon = some (cJ (K 1) 25 (zu (zu (fun _ => 0) 0 1) 1 0)) := (ho _ (zq_ne h_qon h_o (by simp))).trans h_qon
  have h_la : M6 la = some (.inr (8, [.ref qla, .int (iI (-1))])) := (ho _ (zq_ne h_la h_o (by simp))).trans h_la
  have h_qla : M6 qla = some (cJ (K 1) 25 (fun _ => 0)) := (ho _ (zq_ne h_qla h_o (by simp))).trans h_qla
  have h_o : M6 o = some (.inr (6, [.ref dt, .ref la, .int (iI 0), .int (iI 0), .int (iI 0)])) := hs
  have hfr : ∀ q, M q ≠ none → q ≠ o → M6 q = M q := fun q g0 g1 => (ho q g1).trans (hfr q g0 g1)
  have hfp : ∀ q, M2 q ≠ none → q ≠ o → M6 q = M2 q := fun q g0 g1 => (ho q g1).trans (hfp q g0 g1)
  refine lv_aload_n hx hb d_MT_init_26 rfl (lv_at hl 0 rfl) ?_
  refine lv_iconst (v := iI 0) hx hb d_MT_init_27 rfl ?_
  refine zq_put (ci := 6) (v := .int (iI 0)) (ty := .int) hx hb hts i_MT t_MT t_MT_ok n_MT hown hK hw h_o rfl 2 (by decide) (hts _ tw_155) rfl (by decide +kernel) rfl rfl (Nat.le_of_ble_eq_true rfl) d_MT_init_28 (fun M7 H locs hs ho hw => ?_)
  have h_dt : M7 dt = some (.inr (3, [.ref cA, .ref pr, .ref on])) := (ho _ (zq_ne h_dt h_o (by simp))).trans h_dt
  have h_pr : M7 pr = some (.inr (8, [.ref qpr, .int (iI (-1))])) := (ho _ (zq_ne h_pr h_o (by simp))).trans h_pr
  have h_qpr : M7 qpr = some (cJ (K 1) 25 (fun _ => 0)) := (ho _ (zq_ne h_qpr h_o (by simp))).trans h_qpr
  have h_on : M7 on = some (.inr (8, [.ref qon, .int (iI 0)])) := (ho _ (zq_ne h_on h_o (by simp))).trans h_on
  have h_qon : M7 qon = some (cJ (K 1) 25 (zu (zu (fun _ => 0) 0 1) 1 0)) := (ho _ (zq_ne h_qon h_o (by simp))).trans h_qon
  have h_la : M7 la = some (.inr (8, [.ref qla, .int (iI (-1))])) := (ho _ (zq_ne h_la h_o (by simp))).trans h_la
  have h_qla : M7 qla = some (cJ (K 1) 25 (fun _ => 0)) := (ho _ (zq_ne h_qla h_o (by simp))).trans h_qla
  have h_o : M7 o = some (.inr (6, [.ref dt, .ref la, .int (iI 0), .int (iI 0), .int (iI 0)])) := hs
  have hfr : ∀ q, M q ≠ none → q ≠ o → M7 q = M q := fun q g0 g1 => (ho q g1).trans (hfr q g0 g1)
  have hfp : ∀ q, M2 q ≠ none → q ≠ o → M7 q = M2 q := fun q g0 g1 => (ho q g1).trans (hfp q g0 g1)
  refine lv_aload_n hx hb d_MT_init_31 rfl (lv_at hl 0 rfl) ?_
  refine lv_iconst (v := iI 0) hx hb d_MT_init_32 rfl ?_
  refine zq_put (ci := 6) (v := .int (iI 0)) (ty := .int) hx hb hts i_MT t_MT t_MT_ok n_MT hown hK hw h_o rfl 3 (by decide) (hts _ tw_156) rfl (by decide +kernel) rfl rfl (Nat.le_of_ble_eq_true rfl) d_MT_init_33 (fun M8 H locs hs ho hw => ?_)
  have h_dt : M8 dt = some (.inr (3, [.ref cA, .ref pr, .ref on])) := (ho _ (zq_ne h_dt h_o (by simp))).trans h_dt
  have h_pr : M8 pr = some (.inr (8, [.ref qpr, .int (iI (-1))])) := (ho _ (zq_ne h_pr h_o (by simp))).trans h_pr
  have h_qpr : M8 qpr = some (cJ (K 1) 25 (fun _ => 0)) := (ho _ (zq_ne h_qpr h_o (by simp))).trans h_qpr
  have h_on : M8 on = some (.inr (8, [.ref qon, .int (iI 0)])) := (ho _ (zq_ne h_on h_o (by simp))).trans h_on
  have h_qon : M8 qon = some (cJ (K 1) 25 (zu (zu (fun _ => 0) 0 1) 1 0)) := (ho _ (zq_ne h_qon h_o (by simp))).trans h_qon
  have h_la : M8 la = some (.inr (8, [.ref qla, .int (iI (-1))])) := (ho _ (zq_ne h_la h_o (by simp))).trans h_la
  have h_qla : M8 qla = some (cJ (K 1) 25 (fun _ => 0)) := (ho _ (zq_ne h_qla h_o (by simp))).trans h_qla
  have h_o : M8 o = some (.inr (6, [.ref dt, .ref la, .int (iI 0), .int (iI 0), .int (iI 0)])) := hs
  have hfr : ∀ q, M q ≠ none → q ≠ o → M8 q = M q := fun q g0 g1 => (ho q g1).trans (hfr q g0 g1)
  have hfp : ∀ q, M2 q ≠ none → q ≠ o → M8 q = M2 q := fun q g0 g1 => (ho q g1).trans (hfp q g0 g1)
  refine lv_aload_n hx hb d_MT_init_36 rfl (lv_at hl 0 rfl) ?_
  refine lv_iconst (v := iI 0) hx hb d_MT_init_37 rfl ?_
  refine zq_put (ci := 6) (v := .int (iI 0)) (ty := .boolean) hx hb hts i_MT t_MT t_MT_ok n_MT hown hK hw h_o rfl 4 (by decide) (hts _ tw_157) rfl (by decide +kernel) rfl rfl (Nat.le_of_ble_eq_true rfl) d_MT_init_38 (fun M9 H locs hs ho hw => ?_)
  have h_dt : M9 dt = some (.inr (3, [.ref cA, .ref pr, .ref on])) := (ho _ (zq_ne h_dt h_o (by simp))).trans h_dt
  have h_pr : M9 pr = some (.inr (8, [.ref qpr, .int (iI (-1))])) := (ho _ (zq_ne h_pr h_o (by simp))).trans h_pr
  have h_qpr : M9 qpr = some (cJ (K 1) 25 (fun _ => 0)) := (ho _ (zq_ne h_qpr h_o (by simp))).trans h_qpr
  have h_on : M9 on = some (.inr (8, [.ref qon, .int (iI 0)])) := (ho _ (zq_ne h_on h_o (by simp))).trans h_on
  have h_qon : M9 qon = some (cJ (K 1) 25 (zu (zu (fun _ => 0) 0 1) 1 0)) := (ho _ (zq_ne h_qon h_o (by simp))).trans h_qon
  have h_la : M9 la = some (.inr (8, [.ref qla, .int (iI (-1))])) := (ho _ (zq_ne h_la h_o (by simp))).trans h_la
  have h_qla : M9 qla = some (cJ (K 1) 25 (fun _ => 0)) := (ho _ (zq_ne h_qla h_o (by simp))).trans h_qla
  have h_o : M9 o = some (.inr (6, [.ref dt, .ref la, .int (iI 0), .int (iI 0), .int (iI 0)])) := hs
  have hfr : ∀ q, M q ≠ none → q ≠ o → M9 q = M q := fun q g0 g1 => (ho q g1).trans (hfr q g0 g1)
  have hfp : ∀ q, M2 q ≠ none → q ≠ o → M9 q = M2 q := fun q g0 g1 => (ho q g1).trans (hfp q g0 g1)
  have hPGf := zPG_new hPGn h_oP hfp
  have hdl : (∀ i, 0 ≤ i → i < 144 → pa i ≠ la ∧ qa i ≠ qla) := fun i h1 h2 => ⟨fun z => (by have z2 := (hPGn.2.1 i h1 h2).1; rw [z, hmla_hfp] at z2; cases z2), fun z => (by have z2 := (hPGn.2.1 i h1 h2).2; rw [z, hmqla_hfp] at z2; cases z2)⟩
  exact zq_vret hx hb hr hlocks hZ hw ⟨rfl, dt, cA, pr, on, pa, qa, qpr, qon, la, qla, hmdt, hmcA, hmpr, hmqpr, hmon, hmqon, hmla, hmqla, hqpa, hPGf, h_o, h_dt, h_pr, h_qpr, h_on, h_qon, h_la, h_qla, hd1, hd2, hd3, hdl, ⟨hlo.symm, hloq.symm⟩, ⟨hlp, hlpq⟩, hfr⟩ d_MT_init_41
abbrev P_DR_init (K : Nat → ClassId) (M : zq_M) (o : Nat) : Option Value → zq_M → Prop := fun v M' => v = none ∧ ∃ aA bA cA dA, M aA = none ∧ M bA = none ∧ M cA = none ∧ M dA = none ∧ bA ≠ cA ∧ aA ≠ dA ∧ M' o = some (.inr (4, [.ref aA, .ref bA, .ref cA, .ref dA])) ∧ M' aA = some (cI (K 0) 48 (fun _ => 0)) ∧ M' bA = some (cI (K 0) 12 (fun _ => 0)) ∧ M' cA = some (cI (K 0) 12 (fun _ => 0)) ∧ M' dA = some (cI (K 2) 48 (fun _ => 0)) ∧ ∀ q, M q ≠ none → q ≠ o → M' q = M q
set_option maxHeartbeats 4000000 in
set_option maxRecDepth 100000 in
theorem c_DR_init (l : Launch) (D : va_G) (K : Nat → ClassId) (M : zq_M) (o : Nat) (h_o : M o = some (.inr (4, [.null, .null, .null, .null]))) : zq_Met l y_DR_init (.code y_DR_init b_DR_init 1 none :: lw_gd) { frames := 1, cells := 4, slots := 120, locals := 12 } D vwCl (zT K) [.ref o] M (P_DR_init K M o) 4 120 := by
  refine zq_start (cc := b_DR_init) (maxL := 1) (ret := none) (by decide) rfl (Nat.le_of_ble_eq_true rfl) ?_
  intro p e s m below meth co A ls hx hb hr hml hts hown hnm hlocks hA hZ hw hl
  have hts : ∀ w ∈ lw_gd, w.before [.ref o].toArray s = true := fun w h => hts w (List.mem_cons_of_mem _ h)
  have hown : s.vm.findClass R_DR = some m.cls := hown
  have hK := hZ.1
  have hnm : meth.name = "<init>" := hnm
  have hl : lv_has ls 1 [(0, .ref o)] := hl
  have hfr : ∀ q, M q ≠ none → q ≠ o → M q = M q := fun q _ _ => rfl
  refine lv_aload_n hx hb d_DR_init_0 rfl (lv_at hl 0 rfl) ?_
  refine W.objInit hx hb hown (hts _ tw_44) (hts _ tw_20) (hts _ tw_21) rfl (by rw [hml]; exact hl.1) rfl d_DR_init_1 (Nat.le_of_ble_eq_true rfl) (Nat.le_of_ble_eq_true rfl) ?_
  refine W.eq (g2 := F0 m 4 ls []) rfl ?_
  refine lv_aload_n hx hb d_DR_init_4 rfl (lv_at hl 0 rfl) ?_
  refine lv_bipush (v := iI 48) hx hb d_DR_init_5 (by decide) ?_
  refine zq_newI hx hb (hts _ tw_38) hK hw hA 0 rfl (N' := 48) rfl (by decide) (Nat.le_of_ble_eq_true rfl) (Nat.le_of_ble_eq_true rfl) d_DR_init_7 (fun aA M1 H hqaA hs ho hw => ?_)
  have hmaA : M aA = none := Classical.byContradiction fun z => z ((hfr aA z (zq_nn hqaA h_o).symm).symm.trans hqaA)
  have h_o : M1 o = some (.inr (4, [.null, .null, .null, .null])) := (ho _ (zq_nn hqaA h_o)).trans h_o
  have h_aA : M1 aA = some (cI (K 0) 48 (fun _ => 0)) := hs
  have hfr : ∀ q, M q ≠ none → q ≠ o → M1 q = M q := fun q g0 g1 => (ho q (fun z9 => g0 (by rw [z9]; exact hmaA))).trans (hfr q g0 g1)
  refine zq_putF (ci := 4) (v := .ref aA) (ty := .array .int) hx hb hts i_DR t_DR t_DR_ok n_DR hown hK hw h_o rfl 0 (by decide) (hts _ tw_45) rfl hnm rfl (by decide +kernel) rfl rfl (Nat.le_of_ble_eq_true rfl) d_DR_init_9 (fun M2 H locs hs ho hw => ?_)
  have h_aA : M2 aA = some (cI (K 0) 48 (fun _ => 0)) := (ho _ (zq_ne h_aA h_o (by simp))).trans h_aA
  have h_o : M2 o = some (.inr (4, [.ref aA, .null, .null, .null])) := hs
  have hfr : ∀ q, M q ≠ none → q ≠ o → M2 q = M q := fun q g0 g1 => (ho q g1).trans (hfr q g0 g1)
  refine lv_aload_n hx hb d_DR_init_12 rfl (lv_at hl 0 rfl) ?_
  refine lv_bipush (v := iI 12) hx hb d_DR_init_13 (by decide) ?_
  refine zq_newI hx hb (hts _ tw_38) hK hw hA 0 rfl (N' := 12) rfl (by decide) (Nat.le_of_ble_eq_true rfl) (Nat.le_of_ble_eq_true rfl) d_DR_init_15 (fun bA M3 H hqbA hs ho hw => ?_)
  have hmbA : M bA = none := Classical.byContradiction fun z => z ((hfr bA z (zq_nn hqbA h_o).symm).symm.trans hqbA)
  have h_o : M3 o = some (.inr (4, [.ref aA, .null, .null, .null])) := (ho _ (zq_nn hqbA h_o)).trans h_o
  have h_aA : M3 aA = some (cI (K 0) 48 (fun _ => 0)) := (ho _ (zq_nn hqbA h_aA)).trans h_aA
  have h_bA : M3 bA = some (cI (K 0) 12 (fun _ => 0)) := hs
  have hfr : ∀ q, M q ≠ none → q ≠ o → M3 q = M q := fun q g0 g1 => (ho q (fun z9 => g0 (by rw [z9]; exact hmbA))).trans (hfr q g0 g1)
  refine zq_putF (ci := 4) (v := .ref bA) (ty := .array .int) hx hb hts i_DR t_DR t_DR_ok n_DR hown hK hw h_o rfl 1 (by decide) (hts _ tw_46) rfl hnm rfl (by decide +kernel) rfl rfl (Nat.le_of_ble_eq_true rfl) d_DR_init_17 (fun M4 H locs hs ho hw => ?_)
  have h_aA : M4 aA = some (cI (K 0) 48 (fun _ => 0)) := (ho _ (zq_ne h_aA h_o (by simp))).trans h_aA
  have h_bA : M4 bA = some (cI (K 0) 12 (fun _ => 0)) := (ho _ (zq_ne h_bA h_o (by simp))).trans h_bA
  have h_o : M4 o = some (.inr (4, [.ref aA, .ref bA, .null, .null])) := hs
  have hfr : ∀ q, M q ≠ none → q ≠ o → M4 q = M q := fun q g0 g1 => (ho q g1).trans (hfr q g0 g1)
  refine lv_aload_n hx hb d_DR_init_20 rfl (lv_at hl 0 rfl) ?_
  refine lv_bipush (v := iI 12) hx hb d_DR_init_21 (by decide) ?_
  refine zq_newI hx hb (hts _ tw_38) hK hw hA 0 rfl (N' := 12) rfl (by decide) (Nat.le_of_ble_eq_true rfl) (Nat.le_of_ble_eq_true rfl) d_DR_init_23 (fun cA M5 H hqcA hs ho hw => ?_)
  have hmcA : M cA = none := Classical.byContradiction fun z => z ((hfr cA z (zq_nn hqcA h_o).symm).symm.trans hqcA)
  have h_o : M5 o = some (.inr (4, [.ref aA, .ref bA, .null, .null])) := (ho _ (zq_nn hqcA h_o)).trans h_o
  have h_aA : M5 aA = some (cI (K 0) 48 (fun _ => 0)) := (ho _ (zq_nn hqcA h_aA)).trans h_aA
  have h_bA : M5 bA = some (cI (K 0) 12 (fun _ => 0)) := (ho _ (zq_nn hqcA h_bA)).trans h_bA
  have h_cA : M5 cA = some (cI (K 0) 12 (fun _ => 0)) := hs
  have hfr : ∀ q, M q ≠ none → q ≠ o → M5 q = M q := fun q g0 g1 => (ho q (fun z9 => g0 (by rw [z9]; exact hmcA))).trans (hfr q g0 g1)
  have hbc : bA ≠ cA := zq_nn hqcA (by assumption)
  refine zq_putF (ci := 4) (v := .ref cA) (ty := .array .int) hx hb hts i_DR t_DR t_DR_ok n_DR hown hK hw h_o rfl 2 (by decide) (hts _ tw_47) rfl hnm rfl (by decide +kernel) rfl rfl (Nat.le_of_ble_eq_true rfl) d_DR_init_25 (fun M6 H locs hs ho hw => ?_)
  have h_aA : M6 aA = some (cI (K 0) 48 (fun _ => 0)) := (ho _ (zq_ne h_aA h_o (by simp))).trans h_aA
  have h_bA : M6 bA = some (cI (K 0) 12 (fun _ => 0)) := (ho _ (zq_ne h_bA h_o (by simp))).trans h_bA
  have h_cA : M6 cA = some (cI (K 0) 12 (fun _ => 0)) := (ho _ (zq_ne h_cA h_o (by simp))).trans h_cA
  have h_o : M6 o = some (.inr (4, [.ref aA, .ref bA, .ref cA, .null])) := hs
  have hfr : ∀ q, M q ≠ none → q ≠ o → M6 q = M q := fun q g0 g1 => (ho q g1).trans (hfr q g0 g1)
  refine lv_aload_n hx hb d_DR_init_28 rfl (lv_at hl 0 rfl) ?_
  refine lv_bipush (v := iI 48) hx hb d_DR_init_29 (by decide) ?_
  refine zq_newZ hx hb (hts _ tw_58) hK hw hA 2 rfl (N' := 48) rfl (by decide) (Nat.le_of_ble_eq_true rfl) (Nat.le_of_ble_eq_true rfl) d_DR_init_31 (fun dA M7 H hqdA hs ho hw => ?_)
  have hmdA : M dA = none := Classical.byContradiction fun z => z ((hfr dA z (zq_nn hqdA h_o).symm).symm.trans hqdA)
  have h_o : M7 o = some (.inr (4, [.ref aA, .ref bA, .ref cA, .null])) := (ho _ (zq_nn hqdA h_o)).trans h_o
  have h_aA : M7 aA = some (cI (K 0) 48 (fun _ => 0)) := (ho _ (zq_nn hqdA h_aA)).trans h_aA
  have h_bA : M7 bA = some (cI (K 0) 12 (fun _ => 0)) := (ho _ (zq_nn hqdA h_bA)).trans h_bA
  have h_cA : M7 cA = some (cI (K 0) 12 (fun _ => 0)) := (ho _ (zq_nn hqdA h_cA)).trans h_cA
  have h_dA : M7 dA = some (cI (K 2) 48 (fun _ => 0)) := hs
  have hfr : ∀ q, M q ≠ none → q ≠ o → M7 q = M q := fun q g0 g1 => (ho q (fun z9 => g0 (by rw [z9]; exact hmdA))).trans (hfr q g0 g1)
  have had : aA ≠ dA := zq_nn hqdA (by assumption)
  refine zq_putF (ci := 4) (v := .ref dA) (ty := .array .boolean) hx hb hts i_DR t_DR t_DR_ok n_DR hown hK hw h_o rfl 3 (by decide) (hts _ tw_48) rfl hnm rfl (by decide +kernel) rfl rfl (Nat.le_of_ble_eq_true rfl) d_DR_init_33 (fun M8 H locs hs ho hw => ?_)
  have h_aA : M8 aA = some (cI (K 0) 48 (fun _ => 0)) := (ho _ (zq_ne h_aA h_o (by simp))).trans h_aA
  have h_bA : M8 bA = some (cI (K 0) 12 (fun _ => 0)) := (ho _ (zq_ne h_bA h_o (by simp))).trans h_bA
  have h_cA : M8 cA = some (cI (K 0) 12 (fun _ => 0)) := (ho _ (zq_ne h_cA h_o (by simp))).trans h_cA
  have h_dA : M8 dA = some (cI (K 2) 48 (fun _ => 0)) := (ho _ (zq_ne h_dA h_o (by simp))).trans h_dA
  have h_o : M8 o = some (.inr (4, [.ref aA, .ref bA, .ref cA, .ref dA])) := hs
  have hfr : ∀ q, M q ≠ none → q ≠ o → M8 q = M q := fun q g0 g1 => (ho q g1).trans (hfr q g0 g1)
  exact zq_vret hx hb hr hlocks hZ hw ⟨rfl, aA, bA, cA, dA, hmaA, hmbA, hmcA, hmdA, hbc, had, h_o, h_aA, h_bA, h_cA, h_dA, hfr⟩ d_DR_init_36
