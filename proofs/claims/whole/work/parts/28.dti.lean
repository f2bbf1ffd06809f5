abbrev P_DT_init (K : Nat → ClassId) (M : zq_M) (o : Nat) : Option Value → zq_M → Prop := fun v M' => v = none ∧ ∃ cA pr on pa qa qpr qon, M cA = none ∧ M pr = none ∧ M qpr = none ∧ M on = none ∧ M qon = none ∧ (∀ i, 0 ≤ i → i < 144 → M (pa i) = none ∧ M (qa i) = none) ∧ zPG K M' cA pa qa (fun _ => -1) (fun _ _ => 0) ∧ M' o = some (.inr (3, [.ref cA, .ref pr, .ref on])) ∧ M' pr = some (.inr (8, [.ref qpr, .int (iI (-1))])) ∧ M' qpr = some (cJ (K 1) 25 (fun _ => 0)) ∧ M' on = some (.inr (8, [.ref qon, .int (iI 0)])) ∧ M' qon = some (cJ (K 1) 25 (zu (zu (fun _ => 0) 0 1) 1 0)) ∧ (∀ i, 0 ≤ i → i < 144 → pa i ≠ pr ∧ qa i ≠ qpr) ∧ (∀ i, 0 ≤ i → i < 144 → pa i ≠ on ∧ qa i ≠ qon) ∧ (on ≠ pr ∧ qon ≠ qpr) ∧ ∀ q, M q ≠ none → q ≠ o → M' q = M q
set_option maxHeartbeats 4000000 in
set_option maxRecDepth 100000 in
theorem c_DT_init (l : Launch) (D : va_G) (K : Nat → ClassId) (M : zq_M) (o : Nat) (h_o : M o = some (.inr (3, [.null, .null, .null]))) : zq_Met l y_DT_init (.code y_DT_init b_DT_init 2 none :: lw_gd) { frames := 2, cells := 293, slots := 4086, locals := 46 } D vwCl (zT K) [.ref o] M (P_DT_init K M o) 293 4086 := by
  refine zq_start (cc := b_DT_init) (maxL := 2) (ret := none) (by decide) rfl (Nat.le_of_ble_eq_true rfl) ?_
  intro p e s m below meth co A ls hx hb hr hml hts hown hnm hlocks hA hZ hw hl
  have hts : ∀ w ∈ lw_gd, w.before [.ref o].toArray s = true := fun w h => hts w (List.mem_cons_of_mem _ h)
  have hown : s.vm.findClass R_DT = some m.cls := hown
  have hK := hZ.1
  have hnm : meth.name = "<init>" := hnm
  have hl : lv_has ls 2 [(0, .ref o)] := hl
  have hfr : ∀ q, M q ≠ none → q ≠ o → M q = M q := fun q _ _ => rfl
  have hL : ∀ (n : Nat) (k : Nat) (i : Int) (cA : Nat) (pa : Int → Nat) (qa : Int → Nat) (g : Int → Option Nat) (Mq : zq_M) (H : Heap) (locs : List Loc) (ls : Array Slot), (i = k) → (i ≤ 144) → (M cA = none) → (zNw K M Mq pa qa i) → (∀ j, g j = if 0 ≤ j ∧ j < i then some (pa j) else none) → (144 - i).toNat < n → (∀ q, M q ≠ none → q ≠ o → Mq q = M q) → Mq o = some (.inr (3, [.ref cA, .null, .null])) → Mq cA = some (cQ (K 3) 144 g) → zq_W D vwCl A s.heap Mq H locs → lv_has ls 2 [(0, .ref o), (1, .int (iI i))] → W p l e ({ frames := 2, cells := 293, slots := 4086, locals := 46 } : Room) s m [.ref o].toArray below meth co H locs (1 + 2 * k) (144 + 27 * k) (MQ below (zq_Q D vwCl (zT K) (P_DT_init K M o) A) [.ref o].toArray s 293 4086 A) (F0 m 16 ls []) := by
    intro n
    induction n with
    | zero =>
      intro k i cA pa qa g Mq H locs ls hik hi hmc hN hg hms hfr h_o h_cA hw hl
      exact absurd hms (Nat.not_lt_zero _)
    | succ n ih_hL =>
      intro k i cA pa qa g Mq H locs ls hik hi hmc hN hg hms hfr h_o h_cA hw hl
      refine lv_iload_n hx hb d_DT_init_16 rfl (lv_at hl 1 rfl) ?_
      refine lv_sipush (v := iI 144) hx hb d_DT_init_17 (by decide) ?_
      refine zq_icmp_ge (tgt := 42) hx hb d_DT_init_20 (by decide) ⟨by omega, by omega⟩ (by decide) (fun hc1 => ?_) (fun hc1 => ?_)
      · refine W.widen (k := 289) (n := 4032) (by omega) (by omega) ?_
        obtain ⟨M2, hs, ho, hw⟩ := zq_extQ (g' := fun i => some (pa i)) hw h_cA (fun j hj => by rw [hg, if_pos (by omega)])
        have hNx := zNw_ext hN h_cA ho
        have h_o : M2 o = some (.inr (3, [.ref cA, .null, .null])) := (ho _ (zq_ne h_o h_cA (by simp))).trans h_o
        have h_cA : M2 cA = some (cQ (K 3) 144 (fun i => some (pa i))) := hs
        have hfr : ∀ q, M q ≠ none → q ≠ o → M2 q = M q := fun q g0 g1 => (ho q (fun z9 => g0 (by rw [z9]; exact hmc))).trans (hfr q g0 g1)
        have hfe : ∀ q, M2 q ≠ none → q ≠ o → M2 q = M2 q := fun q _ _ => rfl
        have h_oE := h_o
        have h_cE := h_cA
        refine lv_aload_n hx hb d_DT_init_42 rfl (lv_at hl 0 rfl) ?_
        refine zq_new (ci := 8) (fs := [.null, .int (iI 0)]) hx hb hts i_PO t_PO t_PO_ok hown (hts _ tw_114) (hts _ tw_116) (hts _ tw_8) hK hw hA rfl (fun j hj => by rcases (show j = 0 ∨ j = 1 by omega) with rfl | rfl <;> rfl) (Nat.le_of_ble_eq_true rfl) (Nat.le_of_ble_eq_true rfl) d_DT_init_43 (fun pr M3 H hqpr hs ho hw => ?_)
        have hmpr : M pr = none := Classical.byContradiction fun z => z ((hfr pr z (zq_nn hqpr h_o).symm).symm.trans hqpr)
        have hmpr_hfe : M2 pr = none := Classical.byContradiction fun z => z ((hfe pr z (zq_nn hqpr h_o).symm).symm.trans hqpr)
        have h_o : M3 o = some (.inr (3, [.ref cA, .null, .null])) := (ho _ (zq_nn hqpr h_o)).trans h_o
        have h_cA : M3 cA = some (cQ (K 3) 144 (fun i => some (pa i))) := (ho _ (zq_nn hqpr h_cA)).trans h_cA
        have h_pr : M3 pr = some (.inr (8, [.null, .int (iI 0)])) := hs
        have hfr : ∀ q, M q ≠ none → q ≠ o → M3 q = M q := fun q g0 g1 => (ho q (fun z9 => g0 (by rw [z9]; exact hmpr))).trans (hfr q g0 g1)
        have hfe : ∀ q, M2 q ≠ none → q ≠ o → M3 q = M2 q := fun q g0 g1 => (ho q (fun z9 => g0 (by rw [z9]; exact hmpr_hfe))).trans (hfe q g0 g1)
        refine lv_dup hx hb d_DT_init_46 rfl ?_
        refine zq_callI (C := "") (As := []) (rest := [.ref pr, .ref o]) ⟨hx, hb, hml, hown, hts⟩ (c_PO_init l D K M3 pr h_pr) (cwI 0 hts (zg_I tw_119) rfl rfl rfl (hts _ tw_8) (hts _ tw_117) (hts _ tw_118) rfl (by decide +kernel) ⟨Nat.le_of_ble_eq_true rfl, Nat.le_of_ble_eq_true rfl⟩) hZ hw hA rfl rfl hl.1 (Nat.le_of_ble_eq_true rfl) d_DT_init_47 ⟨Nat.le_of_ble_eq_true rfl, Nat.le_of_ble_eq_true rfl⟩ (fun v M4 H locs hp hw => ?_)
        obtain ⟨rfl, qpr, hb1, hbo, hs1, hs2, ho⟩ := hp
        have hqqpr := hb1
        have hs_o := hs1
        have ho : ∀ q, M3 q ≠ none → q ≠ pr → M4 q = M3 q := fun q g0 g1 => ho q g1 (fun z => g0 (by rw [z]; exact hb1))
        have hmqpr : M qpr = none := Classical.byContradiction fun z => z ((hfr qpr z (zq_nn hqqpr h_o).symm).symm.trans hqqpr)
        have hmqpr_hfe : M2 qpr = none := Classical.byContradiction fun z => z ((hfe qpr z (zq_nn hqqpr h_o).symm).symm.trans hqqpr)
        have h_o : M4 o = some (.inr (3, [.ref cA, .null, .null])) := (ho _ (by rw [h_o]; nofun) (zq_ne h_o h_pr (by simp))).trans h_o
        have h_cA : M4 cA = some (cQ (K 3) 144 (fun i => some (pa i))) := (ho _ (by rw [h_cA]; nofun) (zq_ne h_cA h_pr (by simp))).trans h_cA
        have h_pr : M4 pr = some (.inr (8, [.ref qpr, .int (iI (-1))])) := hs_o
        have hfr : ∀ q, M q ≠ none → q ≠ o → M4 q = M q := fun q g0 g1 => (ho q (by rw [hfr q g0 g1]; exact g0) (fun z9 => g0 (by rw [z9]; exact hmpr))).trans (hfr q g0 g1)
        have hfe : ∀ q, M2 q ≠ none → q ≠ o → M4 q = M2 q := fun q g0 g1 => (ho q (by rw [hfe q g0 g1]; exact g0) (fun z9 => g0 (by rw [z9]; exact hmpr_hfe))).trans (hfe q g0 g1)
        have h_qpr : M4 qpr = some (cJ (K 1) 25 (fun _ => 0)) := hs2
        refine W.eq (g2 := F0 m 50 ls [.ref pr, .ref o]) rfl ?_
        refine zq_putF (ci := 3) (v := .ref pr) (ty := .object "AlexanderMatrix$Polynomial") hx hb hts i_DT t_DT t_DT_ok n_DT hown hK hw h_o rfl 1 (by decide) (hts _ tw_142) rfl hnm rfl (by decide +kernel) rfl rfl (Nat.le_of_ble_eq_true rfl) d_DT_init_50 (fun M5 H locs hs ho hw => ?_)
        have h_cA : M5 cA = some (cQ (K 3) 144 (fun i => some (pa i))) := (ho _ (zq_ne h_cA h_o (by simp))).trans h_cA
        have h_pr : M5 pr = some (.inr (8, [.ref qpr, .int (iI (-1))])) := (ho _ (zq_ne h_pr h_o (by simp))).trans h_pr
        have h_qpr : M5 qpr = some (cJ (K 1) 25 (fun _ => 0)) := (ho _ (zq_ne h_qpr h_o (by simp))).trans h_qpr
        have h_o : M5 o = some (.inr (3, [.ref cA, .ref pr, .null])) := hs
        have hfr : ∀ q, M q ≠ none → q ≠ o → M5 q = M q := fun q g0 g1 => (ho q g1).trans (hfr q g0 g1)
        have hfe : ∀ q, M2 q ≠ none → q ≠ o → M5 q = M2 q := fun q g0 g1 => (ho q g1).trans (hfe q g0 g1)
        refine lv_aload_n hx hb d_DT_init_53 rfl (lv_at hl 0 rfl) ?_
        refine zq_new (ci := 8) (fs := [.null, .int (iI 0)]) hx hb hts i_PO t_PO t_PO_ok hown (hts _ tw_114) (hts _ tw_116) (hts _ tw_8) hK hw hA rfl (fun j hj => by rcases (show j = 0 ∨ j = 1 by omega) with rfl | rfl <;> rfl) (Nat.le_of_ble_eq_true rfl) (Nat.le_of_ble_eq_true rfl) d_DT_init_54 (fun on M6 H hqon hs ho hw => ?_)
        have hmon : M on = none := Classical.byContradiction fun z => z ((hfr on z (zq_nn hqon h_o).symm).symm.trans hqon)
        have hmon_hfe : M2 on = none := Classical.byContradiction fun z => z ((hfe on z (zq_nn hqon h_o).symm).symm.trans hqon)
        have h_o : M6 o = some (.inr (3, [.ref cA, .ref pr, .null])) := (ho _ (zq_nn hqon h_o)).trans h_o
        have h_cA : M6 cA = some (cQ (K 3) 144 (fun i => some (pa i))) := (ho _ (zq_nn hqon h_cA)).trans h_cA
        have h_pr : M6 pr = some (.inr (8, [.ref qpr, .int (iI (-1))])) := (ho _ (zq_nn hqon h_pr)).trans h_pr
        have h_qpr : M6 qpr = some (cJ (K 1) 25 (fun _ => 0)) := (ho _ (zq_nn hqon h_qpr)).trans h_qpr
        have h_on : M6 on = some (.inr (8, [.null, .int (iI 0)])) := hs
        have hfr : ∀ q, M q ≠ none → q ≠ o → M6 q = M q := fun q g0 g1 => (ho q (fun z9 => g0 (by rw [z9]; exact hmon))).trans (hfr q g0 g1)
        have hfe : ∀ q, M2 q ≠ none → q ≠ o → M6 q = M2 q := fun q g0 g1 => (ho q (fun z9 => g0 (by rw [z9]; exact hmon_hfe))).trans (hfe q g0 g1)
        have hop : on ≠ pr := zq_ne h_on h_pr (by simp)
        have h_qpr57 := h_qpr
        refine lv_dup hx hb d_DT_init_57 rfl ?_
        refine zq_callI (C := "") (As := []) (rest := [.ref on, .ref o]) ⟨hx, hb, hml, hown, hts⟩ (c_PO_init l D K M6 on h_on) (cwI 0 hts (zg_I tw_119) rfl rfl rfl (hts _ tw_8) (hts _ tw_117) (hts _ tw_118) rfl (by decide +kernel) ⟨Nat.le_of_ble_eq_true rfl, Nat.le_of_ble_eq_true rfl⟩) hZ hw hA rfl rfl hl.1 (Nat.le_of_ble_eq_true rfl) d_DT_init_58 ⟨Nat.le_of_ble_eq_true rfl, Nat.le_of_ble_eq_true rfl⟩ (fun v M7 H locs hp hw => ?_)
        obtain ⟨rfl, qon, hb1, hbo, hs1, hs2, ho⟩ := hp
        have hqqon := hb1
        have hs_o := hs1
        have ho : ∀ q, M6 q ≠ none → q ≠ on → M7 q = M6 q := fun q g0 g1 => ho q g1 (fun z => g0 (by rw [z]; exact hb1))
        have hmqon : M qon = none := Classical.byContradiction fun z => z ((hfr qon z (zq_nn hqqon h_o).symm).symm.trans hqqon)
        have hmqon_hfe : M2 qon = none := Classical.byContradiction fun z => z ((hfe qon z (zq_nn hqqon h_o).symm).symm.trans hqqon)
        have h_o : M7 o = some (.inr (3, [.ref cA, .ref pr, .null])) := (ho _ (by rw [h_o]; nofun) (zq_ne h_o h_on (by simp))).trans h_o
        have h_cA : M7 cA = some (cQ (K 3) 144 (fun i => some (pa i))) := (ho _ (by rw [h_cA]; nofun) (zq_ne h_cA h_on (by simp))).trans h_cA
        have h_pr : M7 pr = some (.inr (8, [.ref qpr, .int (iI (-1))])) := (ho _ (by rw [h_pr]; nofun) (Ne.symm hop)).trans h_pr
        have h_qpr : M7 qpr = some (cJ (K 1) 25 (fun _ => 0)) := (ho _ (by rw [h_qpr]; nofun) (zq_ne h_qpr h_on (by simp))).trans h_qpr
        have h_on : M7 on = some (.inr (8, [.ref qon, .int (iI (-1))])) := hs_o
        have hfr : ∀ q, M q ≠ none → q ≠ o → M7 q = M q := fun q g0 g1 => (ho q (by rw [hfr q g0 g1]; exact g0) (fun z9 => g0 (by rw [z9]; exact hmon))).trans (hfr q g0 g1)
        have hfe : ∀ q, M2 q ≠ none → q ≠ o → M7 q = M2 q := fun q g0 g1 => (ho q (by rw [hfe q g0 g1]; exact g0) (fun z9 => g0 (by rw [z9]; exact hmon_hfe))).trans (hfe q g0 g1)
        have h_qon : M7 qon = some (cJ (K 1) 25 (fun _ => 0)) := hs2
        refine W.eq (g2 := F0 m 61 ls [.ref on, .ref o]) rfl ?_
        have hoq : qon ≠ qpr := (zq_nn hqqon h_qpr57).symm
        refine zq_putF (ci := 3) (v := .ref on) (ty := .object "AlexanderMatrix$Polynomial") hx hb hts i_DT t_DT t_DT_ok n_DT hown hK hw h_o rfl 2 (by decide) (hts _ tw_143) rfl hnm rfl (by decide +kernel) rfl rfl (Nat.le_of_ble_eq_true rfl) d_DT_init_61 (fun M8 H locs hs ho hw => ?_)
        have h_cA : M8 cA = some (cQ (K 3) 144 (fun i => some (pa i))) := (ho _ (zq_ne h_cA h_o (by simp))).trans h_cA
        have h_pr : M8 pr = some (.inr (8, [.ref qpr, .int (iI (-1))])) := (ho _ (zq_ne h_pr h_o (by simp))).trans h_pr
        have h_qpr : M8 qpr = some (cJ (K 1) 25 (fun _ => 0)) := (ho _ (zq_ne h_qpr h_o (by simp))).trans h_qpr
        have h_on : M8 on = some (.inr (8, [.ref qon, .int (iI (-1))])) := (ho _ (zq_ne h_on h_o (by simp))).trans h_on
        have h_qon : M8 qon = some (cJ (K 1) 25 (fun _ => 0)) := (ho _ (zq_ne h_qon h_o (by simp))).trans h_qon
        have h_o : M8 o = some (.inr (3, [.ref cA, .ref pr, .ref on])) := hs
        have hfr : ∀ q, M q ≠ none → q ≠ o → M8 q = M q := fun q g0 g1 => (ho q g1).trans (hfr q g0 g1)
        have hfe : ∀ q, M2 q ≠ none → q ≠ o → M8 q = M2 q := fun q g0 g1 => (ho q g1).trans (hfe q g0 g1)
        refine lv_aload_n hx hb d_DT_init_64 rfl (lv_at hl 0 rfl) ?_
        refine zq_get hx hb hts i_DT hown hK hw h_o rfl 2 (by decide) (hts _ tw_143) rfl d_DT_init_65 ?_
        refine lv_lconst (v := iL 1) hx hb d_DT_init_68 (by decide) ?_
        refine lv_lconst (v := iL 0) hx hb d_DT_init_69 (by decide) ?_
        refine zq_callV (As := [.long (iL 1), .long (iL 0)]) (rest := []) ⟨hx, hb, hml, hown, hts⟩ (c_PO_setLinear l D K M8 on qon (-1) (fun _ => 0) 1 0 h_on h_qon (zU_new (by decide) (by decide)) (by decide) (by decide)) (cwV 2 hts (zg_V tw_129 tw_130 tw_131 tw_8 tw_132) rfl rfl rfl (by decide +kernel) ⟨Nat.le_of_ble_eq_true rfl, Nat.le_of_ble_eq_true rfl⟩) hZ hw hA h_on rfl rfl rfl rfl hl.1 (Nat.le_of_ble_eq_true rfl) d_DT_init_70 ⟨Nat.le_of_ble_eq_true rfl, Nat.le_of_ble_eq_true rfl⟩ (fun v M10 H locs hp hw => ?_)
        obtain ⟨rfl, dd9, hDdd9, hs1, hs2, ho⟩ := hp
        have h_o : M10 o = some (.inr (3, [.ref cA, .ref pr, .ref on])) := (ho _ (zq_ne h_o h_on (by simp)) (zq_ne h_o h_qon (by simp))).trans h_o
        have h_cA : M10 cA = some (cQ (K 3) 144 (fun i => some (pa i))) := (ho _ (zq_ne h_cA h_on (by simp)) (zq_ne h_cA h_qon (by simp))).trans h_cA
        have h_pr : M10 pr = some (.inr (8, [.ref qpr, .int (iI (-1))])) := (ho _ (Ne.symm hop) (zq_ne h_pr h_qon (by simp))).trans h_pr
        have h_qpr : M10 qpr = some (cJ (K 1) 25 (fun _ => 0)) := (ho _ (zq_ne h_qpr h_on (by simp)) (Ne.symm hoq)).trans h_qpr
        have h_on : M10 on = some (.inr (8, [.ref qon, .int (iI dd9)])) := hs1
        have h_qon : M10 qon = some (cJ (K 1) 25 (zu (zu (fun _ => 0) 0 1) 1 0)) := hs2
        have hfr : ∀ q, M q ≠ none → q ≠ o → M10 q = M q := fun q g0 g1 => (ho q (fun z9 => g0 (by rw [z9]; exact hmon)) (fun z9 => g0 (by rw [z9]; exact hmqon))).trans (hfr q g0 g1)
        have hfe : ∀ q, M2 q ≠ none → q ≠ o → M10 q = M2 q := fun q g0 g1 => (ho q (fun z9 => g0 (by rw [z9]; exact hmon_hfe)) (fun z9 => g0 (by rw [z9]; exact hmqon_hfe))).trans (hfe q g0 g1)
        refine W.eq (g2 := F0 m 73 ls []) rfl ?_
        have hPGf := zNw_PG hNx (by omega) h_cE h_oE hfe
        have hdr : (∀ i, 0 ≤ i → i < 144 → pa i ≠ pr ∧ qa i ≠ qpr) := fun i h1 h2 => ⟨fun z => (by have z2 := (hNx.1 i h1 (by omega)).2.2.1; rw [z, hmpr_hfe] at z2; cases z2), fun z => (by have z2 := (hNx.1 i h1 (by omega)).2.2.2; rw [z, hmqpr_hfe] at z2; cases z2)⟩
        have hdo : (∀ i, 0 ≤ i → i < 144 → pa i ≠ on ∧ qa i ≠ qon) := fun i h1 h2 => ⟨fun z => (by have z2 := (hNx.1 i h1 (by omega)).2.2.1; rw [z, hmon_hfe] at z2; cases z2), fun z => (by have z2 := (hNx.1 i h1 (by omega)).2.2.2; rw [z, hmqon_hfe] at z2; cases z2)⟩
        exact zq_vret hx hb hr hlocks hZ hw ⟨rfl, cA, pr, on, pa, qa, qpr, qon, hmc, hmpr, hmqpr, hmon, hmqon, fun i h1 h2 => ⟨(hNx.1 i h1 (by omega)).1, (hNx.1 i h1 (by omega)).2.1⟩, hPGf, h_o, h_pr, h_qpr, (by rw [show (0 : Int) = dd9 from zD_uniq zD_one hDdd9]; exact h_on), h_qon, hdr, hdo, ⟨hop, hoq⟩, hfr⟩ d_DT_init_73
      · have h_cA0 := h_cA
        have hfb : ∀ q, Mq q ≠ none → q ≠ cA → Mq q = Mq q := fun q _ _ => rfl
        refine lv_aload_n hx hb d_DT_init_23 rfl (lv_at hl 0 rfl) ?_
        refine zq_get hx hb hts i_DT hown hK hw h_o rfl 0 (by decide) (hts _ tw_141) rfl d_DT_init_24 ?_
        refine lv_iload_n hx hb d_DT_init_27 rfl (lv_at hl 1 rfl) ?_
        refine zq_new (ci := 8) (fs := [.null, .int (iI 0)]) hx hb hts i_PO t_PO t_PO_ok hown (hts _ tw_114) (hts _ tw_116) (hts _ tw_8) hK hw hA rfl (fun j hj => by rcases (show j = 0 ∨ j = 1 by omega) with rfl | rfl <;> rfl) (by show _ ≤ (293 : Nat); omega) (by show _ ≤ (4086 : Nat); omega) d_DT_init_28 (fun x1 M11 H hqx1 hs ho hw => ?_)
        have hmx1 : M x1 = none := Classical.byContradiction fun z => z ((hfr x1 z (zq_nn hqx1 h_o).symm).symm.trans hqx1)
        have hmx1_hfb : Mq x1 = none := Classical.byContradiction fun z => z ((hfb x1 z (zq_nn hqx1 h_cA).symm).symm.trans hqx1)
        have h_o : M11 o = some (.inr (3, [.ref cA, .null, .null])) := (ho _ (zq_nn hqx1 h_o)).trans h_o
        have h_cA : M11 cA = some (cQ (K 3) 144 g) := (ho _ (zq_nn hqx1 h_cA)).trans h_cA
        have h_x1 : M11 x1 = some (.inr (8, [.null, .int (iI 0)])) := hs
        have hfr : ∀ q, M q ≠ none → q ≠ o → M11 q = M q := fun q g0 g1 => (ho q (fun z9 => g0 (by rw [z9]; exact hmx1))).trans (hfr q g0 g1)
        have hfb : ∀ q, Mq q ≠ none → q ≠ cA → M11 q = Mq q := fun q g0 g1 => (ho q (fun z9 => g0 (by rw [z9]; exact hmx1_hfb))).trans (hfb q g0 g1)
        refine lv_dup hx hb d_DT_init_31 rfl ?_
        refine zq_callI (C := "") (As := []) (rest := [.ref x1, .int (iI i), .ref cA]) ⟨hx, hb, hml, hown, hts⟩ (c_PO_init l D K M11 x1 h_x1) (cwI 0 hts (zg_I tw_119) rfl rfl rfl (hts _ tw_8) (hts _ tw_117) (hts _ tw_118) rfl (by decide +kernel) ⟨Nat.le_of_ble_eq_true rfl, Nat.le_of_ble_eq_true rfl⟩) hZ hw hA rfl rfl hl.1 (Nat.le_of_ble_eq_true rfl) d_DT_init_32 ⟨by show _ ≤ (293 : Nat); omega, by show _ ≤ (4086 : Nat); omega⟩ (fun v M12 H locs hp hw => ?_)
        obtain ⟨rfl, x2, hb1, hbo, hs1, hs2, ho⟩ := hp
        have hqx2 := hb1
        have hs_o := hs1
        have ho : ∀ q, M11 q ≠ none → q ≠ x1 → M12 q = M11 q := fun q g0 g1 => ho q g1 (fun z => g0 (by rw [z]; exact hb1))
        have hmx2 : M x2 = none := Classical.byContradiction fun z => z ((hfr x2 z (zq_nn hqx2 h_o).symm).symm.trans hqx2)
        have hmx2_hfb : Mq x2 = none := Classical.byContradiction fun z => z ((hfb x2 z (zq_nn hqx2 h_cA).symm).symm.trans hqx2)
        have h_o : M12 o = some (.inr (3, [.ref cA, .null, .null])) := (ho _ (by rw [h_o]; nofun) (zq_ne h_o h_x1 (by simp))).trans h_o
        have h_cA : M12 cA = some (cQ (K 3) 144 g) := (ho _ (by rw [h_cA]; nofun) (zq_ne h_cA h_x1 (by simp))).trans h_cA
        have h_x1 : M12 x1 = some (.inr (8, [.ref x2, .int (iI (-1))])) := hs_o
        have hfr : ∀ q, M q ≠ none → q ≠ o → M12 q = M q := fun q g0 g1 => (ho q (by rw [hfr q g0 g1]; exact g0) (fun z9 => g0 (by rw [z9]; exact hmx1))).trans (hfr q g0 g1)
        have hfb : ∀ q, Mq q ≠ none → q ≠ cA → M12 q = Mq q := fun q g0 g1 => (ho q (by rw [hfb q g0 g1]; exact g0) (fun z9 => g0 (by rw [z9]; exact hmx1_hfb))).trans (hfb q g0 g1)
        have h_x2 : M12 x2 = some (cJ (K 1) 25 (fun _ => 0)) := hs2
        refine W.eq (g2 := F0 m 35 ls [.ref x1, .int (iI i), .ref cA]) rfl ?_
        refine zq_aast hx hb hK hw 3 8 h_cA rfl h_x1 rfl (by omega) (by omega) (by decide) d_DT_init_35 (fun M13 H locs hs ho hw => ?_)
        have h_o : M13 o = some (.inr (3, [.ref cA, .null, .null])) := (ho _ (zq_ne h_o h_cA (by simp))).trans h_o
        have h_x1 : M13 x1 = some (.inr (8, [.ref x2, .int (iI (-1))])) := (ho _ (zq_ne h_x1 h_cA (by simp))).trans h_x1
        have h_x2 : M13 x2 = some (cJ (K 1) 25 (fun _ => 0)) := (ho _ (zq_ne h_x2 h_cA (by simp))).trans h_x2
        have h_cA : M13 cA = some (cQ (K 3) 144 (zu g i (some x1))) := hs
        have hfr : ∀ q, M q ≠ none → q ≠ o → M13 q = M q := fun q g0 g1 => (ho q (fun z9 => g0 (by rw [z9]; exact hmc))).trans (hfr q g0 g1)
        have hfb : ∀ q, Mq q ≠ none → q ≠ cA → M13 q = Mq q := fun q g0 g1 => (ho q g1).trans (hfb q g0 g1)
        refine lv_iinc (v := iI (i + 1)) (lv' := [(1, .int (iI (i + 1))), (0, .ref o)]) hx hb d_DT_init_36 hl (k := 1) rfl (iI_add _ _) (by decide) rfl (fun ls hl => ?_)
        refine lv_goto (tgt := 16) hx hb d_DT_init_39 (by decide) ?_
        refine W.widen (k := 1 + 2 * (k + 1)) (n := 144 + 27 * (k + 1)) (by omega) (by omega) ?_
        exact ih_hL (k + 1) (i + 1) cA (zu pa i x1) (zu qa i x2) (zu g i (some x1)) M13 _ _ _ (by omega) (by omega) hmc (zNw_s (by omega) hN h_cA0 hfb hmx1 hmx2 hmx1_hfb hmx2_hfb h_x1 h_x2) (zNw_g hg (by omega)) (by omega) hfr h_o h_cA hw (lv_sub hl [1, 0] rfl)
  refine lv_aload_n hx hb d_DT_init_0 rfl (lv_at hl 0 rfl) ?_
  refine W.objInit hx hb hown (hts _ tw_113) (hts _ tw_20) (hts _ tw_21) rfl (by rw [hml]; exact hl.1) rfl d_DT_init_1 (Nat.le_of_ble_eq_true rfl) (Nat.le_of_ble_eq_true rfl) ?_
  refine W.eq (g2 := F0 m 4 ls []) rfl ?_
  refine lv_aload_n hx hb d_DT_init_4 rfl (lv_at hl 0 rfl) ?_
  refine lv_sipush (v := iI 144) hx hb d_DT_init_5 (by decide) ?_
  refine zq_newQ hx hb hown (hts _ tw_114) (va_AO.use hZ.2.1) hK hw hA 3 rfl (N' := 144) rfl (by decide) (Nat.le_of_ble_eq_true rfl) (Nat.le_of_ble_eq_true rfl) d_DT_init_8 (fun cA M14 H hqcA hs ho hw => ?_)
  have hmcA : M cA = none := Classical.byContradiction fun z => z ((hfr cA z (zq_nn hqcA h_o).symm).symm.trans hqcA)
  have h_o : M14 o = some (.inr (3, [.null, .null, .null])) := (ho _ (zq_nn hqcA h_o)).trans h_o
  have h_cA : M14 cA = some (cQ (K 3) 144 (fun _ => none)) := hs
  have hfr : ∀ q, M q ≠ none → q ≠ o → M14 q = M q := fun q g0 g1 => (ho q (fun z9 => g0 (by rw [z9]; exact hmcA))).trans (hfr q g0 g1)
  refine zq_putF (ci := 3) (v := .ref cA) (ty := .array (.object "AlexanderMatrix$Polynomial")) hx hb hts i_DT t_DT t_DT_ok n_DT hown hK hw h_o rfl 0 (by decide) (hts _ tw_141) rfl hnm rfl (by decide +kernel) rfl rfl (Nat.le_of_ble_eq_true rfl) d_DT_init_11 (fun M15 H locs hs ho hw => ?_)
  have h_cA : M15 cA = some (cQ (K 3) 144 (fun _ => none)) := (ho _ (zq_ne h_cA h_o (by simp))).trans h_cA
  have h_o : M15 o = some (.inr (3, [.ref cA, .null, .null])) := hs
  have hfr : ∀ q, M q ≠ none → q ≠ o → M15 q = M q := fun q g0 g1 => (ho q g1).trans (hfr q g0 g1)
  refine lv_iconst (v := iI 0) hx hb d_DT_init_14 rfl ?_
  refine lv_istore_n (lv' := [(1, .int (iI 0)), (0, .ref o)]) hx hb d_DT_init_15 rfl hl (by decide) rfl (fun ls hl => ?_)
  refine W.widen (k := 1 + 2 * 0) (n := 144 + 27 * 0) (by omega) (by omega) ?_
  exact hL _ 0 0 cA (fun _ => 0) (fun _ => 0) (fun _ => none) M15 _ _ _ rfl (by omega) hmcA (zNw_0 _ _ _ _ _) (fun j => by rw [if_neg (by omega)]) (Nat.lt_succ_self _) hfr h_o h_cA hw (lv_sub hl [1, 0] rfl)
