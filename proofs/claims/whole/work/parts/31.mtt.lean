abbrev P_MT_take (K : Nat → ClassId) (M : zq_M) (o : Nat) (dt : Nat) (la : Nat) (qla : Nat) (cA : Nat) (pr : Nat) (qpr : Nat) (on : Nat) (qon : Nat) (pa : Int → Nat) (qa : Int → Nat) (lr : Int) (lc : Int) (kn : Int) (dl : Int) (fl : Int → Int) (eo : Nat) (gA : Nat) (kA : Nat) (ra : Int → Nat) (rb : Int → Nat) (rw0 : Int) (co0 : Int) (F : Int → Int → Int) (G : Int → Int → Int) (xr : Int) (xc : Int) : Option Value → zq_M → Prop := fun v M' => ∃ pa1 qa1 res dr, v = some (.ref la) ∧ zMT K M' o dt la qla cA pr qpr on qon pa1 qa1 xr xc 1 dr res ∧ zTk F G rw0 co0 xr xc res ∧ zSb pa qa pa1 qa1 ∧ ∀ q, q ≠ o → q ≠ cA → q ≠ pr → q ≠ qpr → (∀ i, 0 ≤ i → i < 144 → q ≠ pa i) → (∀ i, 0 ≤ i → i < 144 → q ≠ qa i) → q ≠ la → q ≠ qla → M' q = M q
set_option maxHeartbeats 4000000 in
set_option maxRecDepth 100000 in
theorem c_MT_take (l : Launch) (D : va_G) (K : Nat → ClassId) (M : zq_M) (o : Nat) (dt : Nat) (la : Nat) (qla : Nat) (cA : Nat) (pr : Nat) (qpr : Nat) (on : Nat) (qon : Nat) (pa : Int → Nat) (qa : Int → Nat) (lr : Int) (lc : Int) (kn : Int) (dl : Int) (fl : Int → Int) (eo : Nat) (gA : Nat) (kA : Nat) (ra : Int → Nat) (rb : Int → Nat) (rw0 : Int) (co0 : Int) (F : Int → Int → Int) (G : Int → Int → Int) (xr : Int) (xc : Int) (hMT : zMT K M o dt la qla cA pr qpr on qon pa qa lr lc kn dl fl) (h_e : M eo = some (.inr (5, [.ref gA, .ref kA, .int (iI rw0), .int (iI co0)]))) (hG1 : zG K M gA ra F) (hG2 : zG K M kA rb G) (hE : zE rw0 co0 ra rb F G) (hFb : ∀ i j, -4 ≤ F i j ∧ F i j ≤ 4) (hGb : ∀ i j, -4 ≤ G i j ∧ G i j ≤ 4) (hlr : inI lr ∧ inI lc) (hk0 : kn = 0 ∨ kn = 1) (hkn : kn = 1 → zTk F G rw0 co0 lr lc fl) (hHok : zHok F G rw0 co0) (hxr : inI xr) (hxc : inI xc) : zq_Met l y_MT_take (.code y_MT_take b_MT_take 7 (some (.object "AlexanderMatrix$Polynomial")) :: lw_gd) { frames := 4, cells := 0, slots := 0, locals := 110 } D vwCl (zT K) [.ref o, .ref eo, .int (iI xr), .int (iI xc)] M (P_MT_take K M o dt la qla cA pr qpr on qon pa qa lr lc kn dl fl eo gA kA ra rb rw0 co0 F G xr xc) 0 0 := by
  refine zq_start (cc := b_MT_take) (maxL := 7) (ret := (some (.object "AlexanderMatrix$Polynomial"))) (by decide) rfl (Nat.le_of_ble_eq_true rfl) ?_
  intro p e s m below meth co A ls hx hb hr hml hts hown hnm hlocks hA hZ hw hl
  have hts : ∀ w ∈ lw_gd, w.before [.ref o, .ref eo, .int (iI xr), .int (iI xc)].toArray s = true := fun w h => hts w (List.mem_cons_of_mem _ h)
  have hown : s.vm.findClass R_MT = some m.cls := hown
  have hK := hZ.1
  have hl : lv_has ls 7 [(0, .ref o), (1, .ref eo), (2, .int (iI xr)), (3, .int (iI xc))] := hl
  have hfr : ∀ q, q ≠ o → q ≠ cA → q ≠ pr → q ≠ qpr → (∀ i, 0 ≤ i → i < 144 → q ≠ pa i) → (∀ i, 0 ≤ i → i < 144 → q ≠ qa i) → q ≠ la → q ≠ qla → M q = M q := fun q _ _ _ _ _ _ _ _ => rfl
  obtain ⟨dg, fc, dx, fx, h_o, h_d, hPG, hPI, h_pr, h_qpr, hUp, h_on, h_qon, h_la, h_qla, hDl, hpp, hon, hrsD, hopr, hors, hrp⟩ := id hMT
  have h_c := hPG.1
  have h_g := hG1.1
  have h_k := hG2.1
  obtain ⟨he1, he2, he3, he4, he5, he6, he7⟩ := id hE
  have h_o0 := h_o
  have h_la0 := h_la
  have h_qla0 := h_qla
  have hlr1 := hlr.1
  have hlr2 := hlr.2
  have hJ : ∀  (Mq : zq_M) (H : Heap) (locs : List Loc) (ls : Array Slot), (M = Mq) → (∀ q, q ≠ o → q ≠ cA → q ≠ pr → q ≠ qpr → (∀ i, 0 ≤ i → i < 144 → q ≠ pa i) → (∀ i, 0 ≤ i → i < 144 → q ≠ qa i) → q ≠ la → q ≠ qla → Mq q = M q) → Mq o = some (.inr (6, [.ref dt, .ref la, .int (iI lr), .int (iI lc), .int (iI kn)])) → Mq dt = some (.inr (3, [.ref cA, .ref pr, .ref on])) → Mq cA = some (cQ (K 3) 144 (fun i => some (pa i))) → Mq eo = some (.inr (5, [.ref gA, .ref kA, .int (iI rw0), .int (iI co0)])) → Mq gA = some (cQ (K 4) 12 (fun i => some (ra i))) → Mq kA = some (cQ (K 4) 12 (fun i => some (rb i))) → Mq pr = some (.inr (8, [.ref qpr, .int (iI dx)])) → Mq qpr = some (cJ (K 1) 25 fx) → Mq on = some (.inr (8, [.ref qon, .int (iI 0)])) → Mq qon = some (cJ (K 1) 25 (zu (zu (fun _ => 0) 0 1) 1 0)) → Mq la = some (.inr (8, [.ref qla, .int (iI dl)])) → Mq qla = some (cJ (K 1) 25 fl) → zq_W D vwCl A s.heap Mq H locs → lv_has ls 7 [(0, .ref o), (1, .ref eo), (2, .int (iI xr)), (3, .int (iI xc))] → W p l e ({ frames := 4, cells := 0, slots := 0, locals := 110 } : Room) s m [.ref o, .ref eo, .int (iI xr), .int (iI xc)].toArray below meth co H locs 0 0 (MQ below (zq_Q D vwCl (zT K) (P_MT_take K M o dt la qla cA pr qpr on qon pa qa lr lc kn dl fl eo gA kA ra rb rw0 co0 F G xr xc) A) [.ref o, .ref eo, .int (iI xr), .int (iI xc)].toArray s 0 0 A) (F0 m 28 ls []) := by
    intro Mq H locs ls hMq hfr h_o h_d h_c h_e h_g h_k h_pr h_qpr h_on h_qon h_la h_qla hw hl
    subst hMq
    have hft : ∀ q, q ≠ o → q ≠ la → q ≠ qla → M q = M q := fun q _ _ _ => rfl
    refine lv_aload_n hx hb d_MT_take_28 rfl (lv_at hl 0 rfl) ?_
    refine lv_iload_n hx hb d_MT_take_29 rfl (lv_at hl 2 rfl) ?_
    refine zq_put (ci := 6) (v := .int (iI xr)) (ty := .int) hx hb hts i_MT t_MT t_MT_ok n_MT hown hK hw h_o rfl 2 (by decide) (hts _ tw_155) rfl (by decide +kernel) rfl rfl (Nat.le_of_ble_eq_true rfl) d_MT_take_30 (fun M1 H locs hs ho hw => ?_)
    have h_d : M1 dt = some (.inr (3, [.ref cA, .ref pr, .ref on])) := (ho _ (zq_ne h_d h_o (by simp))).trans h_d
    have h_c : M1 cA = some (cQ (K 3) 144 (fun i => some (pa i))) := (ho _ (zq_ne h_c h_o (by simp))).trans h_c
    have h_e : M1 eo = some (.inr (5, [.ref gA, .ref kA, .int (iI rw0), .int (iI co0)])) := (ho _ (zq_ne h_e h_o (by simp))).trans h_e
    have h_g : M1 gA = some (cQ (K 4) 12 (fun i => some (ra i))) := (ho _ (zq_ne h_g h_o (by simp))).trans h_g
    have h_k : M1 kA = some (cQ (K 4) 12 (fun i => some (rb i))) := (ho _ (zq_ne h_k h_o (by simp))).trans h_k
    have h_pr : M1 pr = some (.inr (8, [.ref qpr, .int (iI dx)])) := (ho _ (zq_ne h_pr h_o (by simp))).trans h_pr
    have h_qpr : M1 qpr = some (cJ (K 1) 25 fx) := (ho _ (zq_ne h_qpr h_o (by simp))).trans h_qpr
    have h_on : M1 on = some (.inr (8, [.ref qon, .int (iI 0)])) := (ho _ (zq_ne h_on h_o (by simp))).trans h_on
    have h_qon : M1 qon = some (cJ (K 1) 25 (zu (zu (fun _ => 0) 0 1) 1 0)) := (ho _ (zq_ne h_qon h_o (by simp))).trans h_qon
    have h_la : M1 la = some (.inr (8, [.ref qla, .int (iI dl)])) := (ho _ (zq_ne h_la h_o (by simp))).trans h_la
    have h_qla : M1 qla = some (cJ (K 1) 25 fl) := (ho _ (zq_ne h_qla h_o (by simp))).trans h_qla
    have h_o : M1 o = some (.inr (6, [.ref dt, .ref la, .int (iI xr), .int (iI lc), .int (iI kn)])) := hs
    have hfr : ∀ q, q ≠ o → q ≠ cA → q ≠ pr → q ≠ qpr → (∀ i, 0 ≤ i → i < 144 → q ≠ pa i) → (∀ i, 0 ≤ i → i < 144 → q ≠ qa i) → q ≠ la → q ≠ qla → M1 q = M q := fun q g0 g1 g2 g3 g4 g5 g6 g7 => (ho q g0).trans (hfr q g0 g1 g2 g3 g4 g5 g6 g7)
    have hft : ∀ q, q ≠ o → q ≠ la → q ≠ qla → M1 q = M q := fun q g0 g1 g2 => (ho q g0).trans (hft q g0 g1 g2)
    refine lv_aload_n hx hb d_MT_take_33 rfl (lv_at hl 0 rfl) ?_
    refine lv_iload_n hx hb d_MT_take_34 rfl (lv_at hl 3 rfl) ?_
    refine zq_put (ci := 6) (v := .int (iI xc)) (ty := .int) hx hb hts i_MT t_MT t_MT_ok n_MT hown hK hw h_o rfl 3 (by decide) (hts _ tw_156) rfl (by decide +kernel) rfl rfl (Nat.le_of_ble_eq_true rfl) d_MT_take_35 (fun M2 H locs hs ho hw => ?_)
    have h_d : M2 dt = some (.inr (3, [.ref cA, .ref pr, .ref on])) := (ho _ (zq_ne h_d h_o (by simp))).trans h_d
    have h_c : M2 cA = some (cQ (K 3) 144 (fun i => some (pa i))) := (ho _ (zq_ne h_c h_o (by simp))).trans h_c
    have h_e : M2 eo = some (.inr (5, [.ref gA, .ref kA, .int (iI rw0), .int (iI co0)])) := (ho _ (zq_ne h_e h_o (by simp))).trans h_e
    have h_g : M2 gA = some (cQ (K 4) 12 (fun i => some (ra i))) := (ho _ (zq_ne h_g h_o (by simp))).trans h_g
    have h_k : M2 kA = some (cQ (K 4) 12 (fun i => some (rb i))) := (ho _ (zq_ne h_k h_o (by simp))).trans h_k
    have h_pr : M2 pr = some (.inr (8, [.ref qpr, .int (iI dx)])) := (ho _ (zq_ne h_pr h_o (by simp))).trans h_pr
    have h_qpr : M2 qpr = some (cJ (K 1) 25 fx) := (ho _ (zq_ne h_qpr h_o (by simp))).trans h_qpr
    have h_on : M2 on = some (.inr (8, [.ref qon, .int (iI 0)])) := (ho _ (zq_ne h_on h_o (by simp))).trans h_on
    have h_qon : M2 qon = some (cJ (K 1) 25 (zu (zu (fun _ => 0) 0 1) 1 0)) := (ho _ (zq_ne h_qon h_o (by simp))).trans h_qon
    have h_la : M2 la = some (.inr (8, [.ref qla, .int (iI dl)])) := (ho _ (zq_ne h_la h_o (by simp))).trans h_la
    have h_qla : M2 qla = some (cJ (K 1) 25 fl) := (ho _ (zq_ne h_qla h_o (by simp))).trans h_qla
    have h_o : M2 o = some (.inr (6, [.ref dt, .ref la, .int (iI xr), .int (iI xc), .int (iI kn)])) := hs
    have hfr : ∀ q, q ≠ o → q ≠ cA → q ≠ pr → q ≠ qpr → (∀ i, 0 ≤ i → i < 144 → q ≠ pa i) → (∀ i, 0 ≤ i → i < 144 → q ≠ qa i) → q ≠ la → q ≠ qla → M2 q = M q := fun q g0 g1 g2 g3 g4 g5 g6 g7 => (ho q g0).trans (hfr q g0 g1 g2 g3 g4 g5 g6 g7)
    have hft : ∀ q, q ≠ o → q ≠ la → q ≠ qla → M2 q = M q := fun q g0 g1 g2 => (ho q g0).trans (hft q g0 g1 g2)
    refine lv_aload_n hx hb d_MT_take_38 rfl (lv_at hl 0 rfl) ?_
    refine lv_iconst (v := iI 1) hx hb d_MT_take_39 rfl ?_
    refine zq_put (ci := 6) (v := .int (iI 1)) (ty := .boolean) hx hb hts i_MT t_MT t_MT_ok n_MT hown hK hw h_o rfl 4 (by decide) (hts _ tw_157) rfl (by decide +kernel) rfl rfl (Nat.le_of_ble_eq_true rfl) d_MT_take_40 (fun M3 H locs hs ho hw => ?_)
    have h_d : M3 dt = some (.inr (3, [.ref cA, .ref pr, .ref on])) := (ho _ (zq_ne h_d h_o (by simp))).trans h_d
    have h_c : M3 cA = some (cQ (K 3) 144 (fun i => some (pa i))) := (ho _ (zq_ne h_c h_o (by simp))).trans h_c
    have h_e : M3 eo = some (.inr (5, [.ref gA, .ref kA, .int (iI rw0), .int (iI co0)])) := (ho _ (zq_ne h_e h_o (by simp))).trans h_e
    have h_g : M3 gA = some (cQ (K 4) 12 (fun i => some (ra i))) := (ho _ (zq_ne h_g h_o (by simp))).trans h_g
    have h_k : M3 kA = some (cQ (K 4) 12 (fun i => some (rb i))) := (ho _ (zq_ne h_k h_o (by simp))).trans h_k
    have h_pr : M3 pr = some (.inr (8, [.ref qpr, .int (iI dx)])) := (ho _ (zq_ne h_pr h_o (by simp))).trans h_pr
    have h_qpr : M3 qpr = some (cJ (K 1) 25 fx) := (ho _ (zq_ne h_qpr h_o (by simp))).trans h_qpr
    have h_on : M3 on = some (.inr (8, [.ref qon, .int (iI 0)])) := (ho _ (zq_ne h_on h_o (by simp))).trans h_on
    have h_qon : M3 qon = some (cJ (K 1) 25 (zu (zu (fun _ => 0) 0 1) 1 0)) := (ho _ (zq_ne h_qon h_o (by simp))).trans h_qon
    have h_la : M3 la = some (.inr (8, [.ref qla, .int (iI dl)])) := (ho _ (zq_ne h_la h_o (by simp))).trans h_la
    have h_qla : M3 qla = some (cJ (K 1) 25 fl) := (ho _ (zq_ne h_qla h_o (by simp))).trans h_qla
    have h_o : M3 o = some (.inr (6, [.ref dt, .ref la, .int (iI xr), .int (iI xc), .int (iI 1)])) := hs
    have hfr : ∀ q, q ≠ o → q ≠ cA → q ≠ pr → q ≠ qpr → (∀ i, 0 ≤ i → i < 144 → q ≠ pa i) → (∀ i, 0 ≤ i → i < 144 → q ≠ qa i) → q ≠ la → q ≠ qla → M3 q = M q := fun q g0 g1 g2 g3 g4 g5 g6 g7 => (ho q g0).trans (hfr q g0 g1 g2 g3 g4 g5 g6 g7)
    have hft : ∀ q, q ≠ o → q ≠ la → q ≠ qla → M3 q = M q := fun q g0 g1 g2 => (ho q g0).trans (hft q g0 g1 g2)
    refine lv_aload_n hx hb d_MT_take_43 rfl (lv_at hl 0 rfl) ?_
    refine zq_get hx hb hts i_MT hown hK hw h_o rfl 1 (by decide) (hts _ tw_154) rfl d_MT_take_44 ?_
    refine zq_callV (As := []) (rest := []) ⟨hx, hb, hml, hown, hts⟩ (c_PO_setZero l D K M3 la qla dl fl h_la h_qla (zD_U hDl)) (cwV 0 hts (zg_V tw_401 tw_134 tw_135 tw_8 tw_136) rfl rfl rfl (by decide +kernel) ⟨Nat.le_of_ble_eq_true rfl, Nat.le_of_ble_eq_true rfl⟩) hZ hw hA h_la rfl rfl rfl rfl hl.1 (Nat.le_of_ble_eq_true rfl) d_MT_take_47 ⟨Nat.le_of_ble_eq_true rfl, Nat.le_of_ble_eq_true rfl⟩ (fun v M4 H locs hp hw => ?_)
    obtain ⟨rfl, hs1, hs2, ho⟩ := hp
    have h_o : M4 o = some (.inr (6, [.ref dt, .ref la, .int (iI xr), .int (iI xc), .int (iI 1)])) := (ho _ (zq_ne h_o h_la (by simp)) (zq_ne h_o h_qla (by simp))).trans h_o
    have h_d : M4 dt = some (.inr (3, [.ref cA, .ref pr, .ref on])) := (ho _ (zq_ne h_d h_la (by simp)) (zq_ne h_d h_qla (by simp))).trans h_d
    have h_c : M4 cA = some (cQ (K 3) 144 (fun i => some (pa i))) := (ho _ (zq_ne h_c h_la (by simp)) (zq_ne h_c h_qla (by simp))).trans h_c
    have h_e : M4 eo = some (.inr (5, [.ref gA, .ref kA, .int (iI rw0), .int (iI co0)])) := (ho _ (zq_ne h_e h_la (by simp)) (zq_ne h_e h_qla (by simp))).trans h_e
    have h_g : M4 gA = some (cQ (K 4) 12 (fun i => some (ra i))) := (ho _ (zq_ne h_g h_la (by simp)) (zq_ne h_g h_qla (by simp))).trans h_g
    have h_k : M4 kA = some (cQ (K 4) 12 (fun i => some (rb i))) := (ho _ (zq_ne h_k h_la (by simp)) (zq_ne h_k h_qla (by simp))).trans h_k
    have h_pr : M4 pr = some (.inr (8, [.ref qpr, .int (iI dx)])) := (ho _ (Ne.symm hrp.1) (zq_ne h_pr h_qla (by simp))).trans h_pr
    have h_qpr : M4 qpr = some (cJ (K 1) 25 fx) := (ho _ (zq_ne h_qpr h_la (by simp)) (Ne.symm hrp.2)).trans h_qpr
    have h_on : M4 on = some (.inr (8, [.ref qon, .int (iI 0)])) := (ho _ hors.1 (zq_ne h_on h_qla (by simp))).trans h_on
    have h_qon : M4 qon = some (cJ (K 1) 25 (zu (zu (fun _ => 0) 0 1) 1 0)) := (ho _ (zq_ne h_qon h_la (by simp)) hors.2).trans h_qon
    have h_la : M4 la = some (.inr (8, [.ref qla, .int (iI (-1))])) := hs1
    have h_qla : M4 qla = some (cJ (K 1) 25 (fun _ => 0)) := hs2
    have hfr : ∀ q, q ≠ o → q ≠ cA → q ≠ pr → q ≠ qpr → (∀ i, 0 ≤ i → i < 144 → q ≠ pa i) → (∀ i, 0 ≤ i → i < 144 → q ≠ qa i) → q ≠ la → q ≠ qla → M4 q = M q := fun q g0 g1 g2 g3 g4 g5 g6 g7 => (ho q g6 g7).trans (hfr q g0 g1 g2 g3 g4 g5 g6 g7)
    have hft : ∀ q, q ≠ o → q ≠ la → q ≠ qla → M4 q = M q := fun q g0 g1 g2 => (ho q g1 g2).trans (hft q g0 g1 g2)
    refine W.eq (g2 := F0 m 50 ls []) rfl ?_
    refine lv_iload_n hx hb d_MT_take_50 rfl (lv_at hl 2 rfl) ?_
    refine zq_if_ge (tgt := 61) hx hb d_MT_take_51 (by decide) hxr (fun hc5 => ?_) (fun hc5 => ?_)
    · refine lv_aload_n hx hb d_MT_take_61 rfl (lv_at hl 1 rfl) ?_
      refine zq_callV (As := []) (rest := []) ⟨hx, hb, hml, hown, hts⟩ (c_ET_rows l D K M4 eo gA kA rw0 co0  h_e (by omega)) (cwV 0 hts (zg_V tw_402 tw_390 tw_391 tw_5 tw_392) rfl rfl rfl (by decide +kernel) ⟨Nat.le_of_ble_eq_true rfl, Nat.le_of_ble_eq_true rfl⟩) hZ hw hA h_e rfl rfl rfl rfl hl.1 (Nat.le_of_ble_eq_true rfl) d_MT_take_62 ⟨Nat.le_of_ble_eq_true rfl, Nat.le_of_ble_eq_true rfl⟩ (fun v M6 H locs hp hw => ?_)
      obtain ⟨rfl, hMe⟩ := hp
      rw [hMe] at hw
      refine W.eq (g2 := F0 m 65 ls [.int (iI rw0)]) rfl ?_
      refine lv_iconst (v := iI 1) hx hb d_MT_take_65 rfl ?_
      refine zq_isub hx hb d_MT_take_66 ?_
      refine lv_istore (lv' := [(4, .int (iI (rw0 - 1))), (0, .ref o), (1, .ref eo), (2, .int (iI xr)), (3, .int (iI xc))]) hx hb d_MT_take_67 hl (by decide) rfl (fun ls hl => ?_)
      refine lv_iload_n hx hb d_MT_take_69 rfl (lv_at hl 3 rfl) ?_
      refine lv_iconst (v := iI (-1)) hx hb d_MT_take_70 rfl ?_
      refine zq_icmp_lt (tgt := 86) hx hb d_MT_take_71 (by decide) hxr (by decide) (fun hc7 => ?_) (fun hc7 => ?_)
      · refine lv_iconst (v := iI 0) hx hb d_MT_take_86 rfl ?_
        refine lv_istore (lv' := [(5, .int (iI 0)), (4, .int (iI (rw0 - 1))), (0, .ref o), (1, .ref eo), (2, .int (iI xr)), (3, .int (iI xc))]) hx hb d_MT_take_87 hl (by decide) rfl (fun ls hl => ?_)
        refine lv_iload_n hx hb d_MT_take_89 rfl (lv_at hl 5 rfl) ?_
        refine zq_if_lt (tgt := 105) hx hb d_MT_take_90 (by decide) hxc (fun hc8 => ?_) (fun hc8 => ?_)
        · refine lv_iconst (v := iI 0) hx hb d_MT_take_105 rfl ?_
          refine lv_istore (lv' := [(6, .int (iI 0)), (5, .int (iI 0)), (4, .int (iI (rw0 - 1))), (0, .ref o), (1, .ref eo), (2, .int (iI xr)), (3, .int (iI xc))]) hx hb d_MT_take_106 hl (by decide) rfl (fun ls hl => ?_)
          refine lv_iload hx hb d_MT_take_108 (lv_at hl 1 rfl) ?_
          refine zq_if_eq (tgt := 149) hx hb d_MT_take_110 (by decide) (by decide) (fun hc9 => ?_) (fun hc9 => ?_)
          · have hPGm := zPG_S (fun q => q = o ∨ q = la ∨ q = qla) hPG (fun q hq => hft q (fun z => hq (Or.inl z)) (fun z => hq (Or.inr (Or.inl z))) (fun z => hq (Or.inr (Or.inr z)))) (fun q hq => by rcases hq with rfl | rfl | rfl; exact ⟨zq_ne h_o0 hPG.1 (by simp), fun i h1 h2 => ⟨zq_ne (hPG.2.1 i h1 h2).1 h_o0 (by simp), zq_ne (hPG.2.1 i h1 h2).2 h_o0 (by simp)⟩⟩; exact ⟨zq_ne h_la0 hPG.1 (by simp), fun i h1 h2 => ⟨(hrsD i h1 h2).1, zq_ne (hPG.2.1 i h1 h2).2 h_la0 (by simp)⟩⟩; exact ⟨zq_ne h_qla0 hPG.1 (by simp), fun i h1 h2 => ⟨zq_ne (hPG.2.1 i h1 h2).1 h_qla0 (by simp), (hrsD i h1 h2).2⟩⟩)
            refine lv_aload_n hx hb d_MT_take_149 rfl (lv_at hl 3 rfl) ?_
            refine zq_get hx hb hts i_MT hown hK hw h_o rfl 1 (by decide) (hts _ tw_154) rfl d_MT_take_150 ?_
            exact zq_aret hx hb hr (Or.inl ⟨_, rfl⟩) hlocks hZ hw ⟨pa, qa, _, _, rfl, ⟨dg, fc, dx, fx, h_o, h_d, hPGm, hPI, h_pr, h_qpr, hUp, h_on, h_qon, h_la, h_qla, zD_0, hpp, hon, hrsD, hopr, hors, hrp⟩, Or.inr ⟨fun z => by have z3 := z.2.2; split at z3 <;> omega, rfl⟩, fun i h1 h2 => ⟨i, h1, h2, rfl, rfl⟩, hfr⟩ d_MT_take_153
          · exact absurd hc9 (by decide)
        · refine lv_iload_n hx hb d_MT_take_93 rfl (lv_at hl 5 rfl) ?_
          refine lv_aload_n hx hb d_MT_take_94 rfl (lv_at hl 3 rfl) ?_
          refine zq_callV (As := []) (rest := [.int (iI xc)]) ⟨hx, hb, hml, hown, hts⟩ (c_ET_columns l D K M4 eo gA kA rw0 co0  h_e (by omega)) (cwV 0 hts (zg_V tw_403 tw_394 tw_395 tw_5 tw_396) rfl rfl rfl (by decide +kernel) ⟨Nat.le_of_ble_eq_true rfl, Nat.le_of_ble_eq_true rfl⟩) hZ hw hA h_e rfl rfl rfl rfl hl.1 (Nat.le_of_ble_eq_true rfl) d_MT_take_95 ⟨Nat.le_of_ble_eq_true rfl, Nat.le_of_ble_eq_true rfl⟩ (fun v M10 H locs hp hw => ?_)
          obtain ⟨rfl, hMe⟩ := hp
          rw [hMe] at hw
          refine W.eq (g2 := F0 m 98 ls [.int (iI co0), .int (iI xc)]) rfl ?_
          refine zq_icmp_ge (tgt := 105) hx hb d_MT_take_98 (by decide) hxc ⟨by omega, by omega⟩ (fun hc11 => ?_) (fun hc11 => ?_)
          · refine lv_iconst (v := iI 0) hx hb d_MT_take_105 rfl ?_
            refine lv_istore (lv' := [(6, .int (iI 0)), (5, .int (iI 0)), (4, .int (iI (rw0 - 1))), (0, .ref o), (1, .ref eo), (2, .int (iI xr)), (3, .int (iI xc))]) hx hb d_MT_take_106 hl (by decide) rfl (fun ls hl => ?_)
            refine lv_iload hx hb d_MT_take_108 (lv_at hl 1 rfl) ?_
            refine zq_if_eq (tgt := 149) hx hb d_MT_take_110 (by decide) (by decide) (fun hc12 => ?_) (fun hc12 => ?_)
            · have hPGm := zPG_S (fun q => q = o ∨ q = la ∨ q = qla) hPG (fun q hq => hft q (fun z => hq (Or.inl z)) (fun z => hq (Or.inr (Or.inl z))) (fun z => hq (Or.inr (Or.inr z)))) (fun q hq => by rcases hq with rfl | rfl | rfl; exact ⟨zq_ne h_o0 hPG.1 (by simp), fun i h1 h2 => ⟨zq_ne (hPG.2.1 i h1 h2).1 h_o0 (by simp), zq_ne (hPG.2.1 i h1 h2).2 h_o0 (by simp)⟩⟩; exact ⟨zq_ne h_la0 hPG.1 (by simp), fun i h1 h2 => ⟨(hrsD i h1 h2).1, zq_ne (hPG.2.1 i h1 h2).2 h_la0 (by simp)⟩⟩; exact ⟨zq_ne h_qla0 hPG.1 (by simp), fun i h1 h2 => ⟨zq_ne (hPG.2.1 i h1 h2).1 h_qla0 (by simp), (hrsD i h1 h2).2⟩⟩)
              refine lv_aload_n hx hb d_MT_take_149 rfl (lv_at hl 3 rfl) ?_
              refine zq_get hx hb hts i_MT hown hK hw h_o rfl 1 (by decide) (hts _ tw_154) rfl d_MT_take_150 ?_
              exact zq_aret hx hb hr (Or.inl ⟨_, rfl⟩) hlocks hZ hw ⟨pa, qa, _, _, rfl, ⟨dg, fc, dx, fx, h_o, h_d, hPGm, hPI, h_pr, h_qpr, hUp, h_on, h_qon, h_la, h_qla, zD_0, hpp, hon, hrsD, hopr, hors, hrp⟩, Or.inr ⟨fun z => by have z3 := z.2.2; split at z3 <;> omega, rfl⟩, fun i h1 h2 => ⟨i, h1, h2, rfl, rfl⟩, hfr⟩ d_MT_take_153
            · exact absurd hc12 (by decide)
          · refine lv_iconst (v := iI 1) hx hb d_MT_take_101 rfl ?_
            refine lv_goto (tgt := 106) hx hb d_MT_take_102 (by decide) ?_
            refine lv_istore (lv' := [(6, .int (iI 1)), (5, .int (iI 0)), (4, .int (iI (rw0 - 1))), (0, .ref o), (1, .ref eo), (2, .int (iI xr)), (3, .int (iI xc))]) hx hb d_MT_take_106 hl (by decide) rfl (fun ls hl => ?_)
            refine lv_iload hx hb d_MT_take_108 (lv_at hl 1 rfl) ?_
            refine zq_if_eq (tgt := 149) hx hb d_MT_take_110 (by decide) (by decide) (fun hc13 => ?_) (fun hc13 => ?_)
            · have hPGm := zPG_S (fun q => q = o ∨ q = la ∨ q = qla) hPG (fun q hq => hft q (fun z => hq (Or.inl z)) (fun z => hq (Or.inr (Or.inl z))) (fun z => hq (Or.inr (Or.inr z)))) (fun q hq => by rcases hq with rfl | rfl | rfl; exact ⟨zq_ne h_o0 hPG.1 (by simp), fun i h1 h2 => ⟨zq_ne (hPG.2.1 i h1 h2).1 h_o0 (by simp), zq_ne (hPG.2.1 i h1 h2).2 h_o0 (by simp)⟩⟩; exact ⟨zq_ne h_la0 hPG.1 (by simp), fun i h1 h2 => ⟨(hrsD i h1 h2).1, zq_ne (hPG.2.1 i h1 h2).2 h_la0 (by simp)⟩⟩; exact ⟨zq_ne h_qla0 hPG.1 (by simp), fun i h1 h2 => ⟨zq_ne (hPG.2.1 i h1 h2).1 h_qla0 (by simp), (hrsD i h1 h2).2⟩⟩)
              refine lv_aload_n hx hb d_MT_take_149 rfl (lv_at hl 3 rfl) ?_
              refine zq_get hx hb hts i_MT hown hK hw h_o rfl 1 (by decide) (hts _ tw_154) rfl d_MT_take_150 ?_
              exact zq_aret hx hb hr (Or.inl ⟨_, rfl⟩) hlocks hZ hw ⟨pa, qa, _, _, rfl, ⟨dg, fc, dx, fx, h_o, h_d, hPGm, hPI, h_pr, h_qpr, hUp, h_on, h_qon, h_la, h_qla, zD_0, hpp, hon, hrsD, hopr, hors, hrp⟩, Or.inr ⟨fun z => by have z3 := z.2.2; split at z3 <;> omega, rfl⟩, fun i h1 h2 => ⟨i, h1, h2, rfl, rfl⟩, hfr⟩ d_MT_take_153
            · exact absurd hc13 (by decide)
      · refine lv_iload_n hx hb d_MT_take_74 rfl (lv_at hl 3 rfl) ?_
        refine lv_aload_n hx hb d_MT_take_75 rfl (lv_at hl 2 rfl) ?_
        refine zq_callV (As := []) (rest := [.int (iI xr)]) ⟨hx, hb, hml, hown, hts⟩ (c_ET_rows l D K M4 eo gA kA rw0 co0  h_e (by omega)) (cwV 0 hts (zg_V tw_402 tw_390 tw_391 tw_5 tw_392) rfl rfl rfl (by decide +kernel) ⟨Nat.le_of_ble_eq_true rfl, Nat.le_of_ble_eq_true rfl⟩) hZ hw hA h_e rfl rfl rfl rfl hl.1 (Nat.le_of_ble_eq_true rfl) d_MT_take_76 ⟨Nat.le_of_ble_eq_true rfl, Nat.le_of_ble_eq_true rfl⟩ (fun v M14 H locs hp hw => ?_)
        obtain ⟨rfl, hMe⟩ := hp
        rw [hMe] at hw
        refine W.eq (g2 := F0 m 79 ls [.int (iI rw0), .int (iI xr)]) rfl ?_
        refine zq_icmp_ge (tgt := 86) hx hb d_MT_take_79 (by decide) hxr ⟨by omega, by omega⟩ (fun hc15 => ?_) (fun hc15 => ?_)
        · refine lv_iconst (v := iI 0) hx hb d_MT_take_86 rfl ?_
          refine lv_istore (lv' := [(5, .int (iI 0)), (4, .int (iI (rw0 - 1))), (0, .ref o), (1, .ref eo), (2, .int (iI xr)), (3, .int (iI xc))]) hx hb d_MT_take_87 hl (by decide) rfl (fun ls hl => ?_)
          refine lv_iload_n hx hb d_MT_take_89 rfl (lv_at hl 5 rfl) ?_
          refine zq_if_lt (tgt := 105) hx hb d_MT_take_90 (by decide) hxc (fun hc16 => ?_) (fun hc16 => ?_)
          · refine lv_iconst (v := iI 0) hx hb d_MT_take_105 rfl ?_
            refine lv_istore (lv' := [(6, .int (iI 0)), (5, .int (iI 0)), (4, .int (iI (rw0 - 1))), (0, .ref o), (1, .ref eo), (2, .int (iI xr)), (3, .int (iI xc))]) hx hb d_MT_take_106 hl (by decide) rfl (fun ls hl => ?_)
            refine lv_iload hx hb d_MT_take_108 (lv_at hl 1 rfl) ?_
            refine zq_if_eq (tgt := 149) hx hb d_MT_take_110 (by decide) (by decide) (fun hc17 => ?_) (fun hc17 => ?_)
            · have hPGm := zPG_S (fun q => q = o ∨ q = la ∨ q = qla) hPG (fun q hq => hft q (fun z => hq (Or.inl z)) (fun z => hq (Or.inr (Or.inl z))) (fun z => hq (Or.inr (Or.inr z)))) (fun q hq => by rcases hq with rfl | rfl | rfl; exact ⟨zq_ne h_o0 hPG.1 (by simp), fun i h1 h2 => ⟨zq_ne (hPG.2.1 i h1 h2).1 h_o0 (by simp), zq_ne (hPG.2.1 i h1 h2).2 h_o0 (by simp)⟩⟩; exact ⟨zq_ne h_la0 hPG.1 (by simp), fun i h1 h2 => ⟨(hrsD i h1 h2).1, zq_ne (hPG.2.1 i h1 h2).2 h_la0 (by simp)⟩⟩; exact ⟨zq_ne h_qla0 hPG.1 (by simp), fun i h1 h2 => ⟨zq_ne (hPG.2.1 i h1 h2).1 h_qla0 (by simp), (hrsD i h1 h2).2⟩⟩)
              refine lv_aload_n hx hb d_MT_take_149 rfl (lv_at hl 3 rfl) ?_
              refine zq_get hx hb hts i_MT hown hK hw h_o rfl 1 (by decide) (hts _ tw_154) rfl d_MT_take_150 ?_
              exact zq_aret hx hb hr (Or.inl ⟨_, rfl⟩) hlocks hZ hw ⟨pa, qa, _, _, rfl, ⟨dg, fc, dx, fx, h_o, h_d, hPGm, hPI, h_pr, h_qpr, hUp, h_on, h_qon, h_la, h_qla, zD_0, hpp, hon, hrsD, hopr, hors, hrp⟩, Or.inr ⟨fun z => by have z3 := z.2.2; split at z3 <;> omega, rfl⟩, fun i h1 h2 => ⟨i, h1, h2, rfl, rfl⟩, hfr⟩ d_MT_take_153
            · exact absurd hc17 (by decide)
          · refine lv_iload_n hx hb d_MT_take_93 rfl (lv_at hl 5 rfl) ?_
            refine lv_aload_n hx hb d_MT_take_94 rfl (lv_at hl 3 rfl) ?_
            refine zq_callV (As := []) (rest := [.int (iI xc)]) ⟨hx, hb, hml, hown, hts⟩ (c_ET_columns l D K M4 eo gA kA rw0 co0  h_e (by omega)) (cwV 0 hts (zg_V tw_403 tw_394 tw_395 tw_5 tw_396) rfl rfl rfl (by decide +kernel) ⟨Nat.le_of_ble_eq_true rfl, Nat.le_of_ble_eq_true rfl⟩) hZ hw hA h_e rfl rfl rfl rfl hl.1 (Nat.le_of_ble_eq_true rfl) d_MT_take_95 ⟨Nat.le_of_ble_eq_true rfl, Nat.le_of_ble_eq_true rfl⟩ (fun v M18 H locs hp hw => ?_)
            obtain ⟨rfl, hMe⟩ := hp
            rw [hMe] at hw
            refine W.eq (g2 := F0 m 98 ls [.int (iI co0), .int (iI xc)]) rfl ?_
            refine zq_icmp_ge (tgt := 105) hx hb d_MT_take_98 (by decide) hxc ⟨by omega, by omega⟩ (fun hc19 => ?_) (fun hc19 => ?_)
            · refine lv_iconst (v := iI 0) hx hb d_MT_take_105 rfl ?_
              refine lv_istore (lv' := [(6, .int (iI 0)), (5, .int (iI 0)), (4, .int (iI (rw0 - 1))), (0, .ref o), (1, .ref eo), (2, .int (iI xr)), (3, .int (iI xc))]) hx hb d_MT_take_106 hl (by decide) rfl (fun ls hl => ?_)
              refine lv_iload hx hb d_MT_take_108 (lv_at hl 1 rfl) ?_
              refine zq_if_eq (tgt := 149) hx hb d_MT_take_110 (by decide) (by decide) (fun hc20 => ?_) (fun hc20 => ?_)
              · have hPGm := zPG_S (fun q => q = o ∨ q = la ∨ q = qla) hPG (fun q hq => hft q (fun z => hq (Or.inl z)) (fun z => hq (Or.inr (Or.inl z))) (fun z => hq (Or.inr (Or.inr z)))) (fun q hq => by rcases hq with rfl | rfl | rfl; exact ⟨zq_ne h_o0 hPG.1 (by simp), fun i h1 h2 => ⟨zq_ne (hPG.2.1 i h1 h2).1 h_o0 (by simp), zq_ne (hPG.2.1 i h1 h2).2 h_o0 (by simp)⟩⟩; exact ⟨zq_ne h_la0 hPG.1 (by simp), fun i h1 h2 => ⟨(hrsD i h1 h2).1, zq_ne (hPG.2.1 i h1 h2).2 h_la0 (by simp)⟩⟩; exact ⟨zq_ne h_qla0 hPG.1 (by simp), fun i h1 h2 => ⟨zq_ne (hPG.2.1 i h1 h2).1 h_qla0 (by simp), (hrsD i h1 h2).2⟩⟩)
                refine lv_aload_n hx hb d_MT_take_149 rfl (lv_at hl 3 rfl) ?_
                refine zq_get hx hb hts i_MT hown hK hw h_o rfl 1 (by decide) (hts _ tw_154) rfl d_MT_take_150 ?_
                exact zq_aret hx hb hr (Or.inl ⟨_, rfl⟩) hlocks hZ hw ⟨pa, qa, _, _, rfl, ⟨dg, fc, dx, fx, h_o, h_d, hPGm, hPI, h_pr, h_qpr, hUp, h_on, h_qon, h_la, h_qla, zD_0, hpp, hon, hrsD, hopr, hors, hrp⟩, Or.inr ⟨fun z => by have z3 := z.2.2; split at z3 <;> omega, rfl⟩, fun i h1 h2 => ⟨i, h1, h2, rfl, rfl⟩, hfr⟩ d_MT_take_153
              · exact absurd hc20 (by decide)
            · refine lv_iconst (v := iI 1) hx hb d_MT_take_101 rfl ?_
              refine lv_goto (tgt := 106) hx hb d_MT_take_102 (by decide) ?_
              refine lv_istore (lv' := [(6, .int (iI 1)), (5, .int (iI 0)), (4, .int (iI (rw0 - 1))), (0, .ref o), (1, .ref eo), (2, .int (iI xr)), (3, .int (iI xc))]) hx hb d_MT_take_106 hl (by decide) rfl (fun ls hl => ?_)
              refine lv_iload hx hb d_MT_take_108 (lv_at hl 1 rfl) ?_
              refine zq_if_eq (tgt := 149) hx hb d_MT_take_110 (by decide) (by decide) (fun hc21 => ?_) (fun hc21 => ?_)
              · have hPGm := zPG_S (fun q => q = o ∨ q = la ∨ q = qla) hPG (fun q hq => hft q (fun z => hq (Or.inl z)) (fun z => hq (Or.inr (Or.inl z))) (fun z => hq (Or.inr (Or.inr z)))) (fun q hq => by rcases hq with rfl | rfl | rfl; exact ⟨zq_ne h_o0 hPG.1 (by simp), fun i h1 h2 => ⟨zq_ne (hPG.2.1 i h1 h2).1 h_o0 (by simp), zq_ne (hPG.2.1 i h1 h2).2 h_o0 (by simp)⟩⟩; exact ⟨zq_ne h_la0 hPG.1 (by simp), fun i h1 h2 => ⟨(hrsD i h1 h2).1, zq_ne (hPG.2.1 i h1 h2).2 h_la0 (by simp)⟩⟩; exact ⟨zq_ne h_qla0 hPG.1 (by simp), fun i h1 h2 => ⟨zq_ne (hPG.2.1 i h1 h2).1 h_qla0 (by simp), (hrsD i h1 h2).2⟩⟩)
                refine lv_aload_n hx hb d_MT_take_149 rfl (lv_at hl 3 rfl) ?_
                refine zq_get hx hb hts i_MT hown hK hw h_o rfl 1 (by decide) (hts _ tw_154) rfl d_MT_take_150 ?_
                exact zq_aret hx hb hr (Or.inl ⟨_, rfl⟩) hlocks hZ hw ⟨pa, qa, _, _, rfl, ⟨dg, fc, dx, fx, h_o, h_d, hPGm, hPI, h_pr, h_qpr, hUp, h_on, h_qon, h_la, h_qla, zD_0, hpp, hon, hrsD, hopr, hors, hrp⟩, Or.inr ⟨fun z => by have z3 := z.2.2; split at z3 <;> omega, rfl⟩, fun i h1 h2 => ⟨i, h1, h2, rfl, rfl⟩, hfr⟩ d_MT_take_153
              · exact absurd hc21 (by decide)
        · refine lv_iconst (v := iI 1) hx hb d_MT_take_82 rfl ?_
          refine lv_goto (tgt := 87) hx hb d_MT_take_83 (by decide) ?_
          refine lv_istore (lv' := [(5, .int (iI 1)), (4, .int (iI (rw0 - 1))), (0, .ref o), (1, .ref eo), (2, .int (iI xr)), (3, .int (iI xc))]) hx hb d_MT_take_87 hl (by decide) rfl (fun ls hl => ?_)
          refine lv_iload_n hx hb d_MT_take_89 rfl (lv_at hl 5 rfl) ?_
          refine zq_if_lt (tgt := 105) hx hb d_MT_take_90 (by decide) hxc (fun hc22 => ?_) (fun hc22 => ?_)
          · refine lv_iconst (v := iI 0) hx hb d_MT_take_105 rfl ?_
            refine lv_istore (lv' := [(6, .int (iI 0)), (5, .int (iI 1)), (4, .int (iI (rw0 - 1))), (0, .ref o), (1, .ref eo), (2, .int (iI xr)), (3, .int (iI xc))]) hx hb d_MT_take_106 hl (by decide) rfl (fun ls hl => ?_)
            refine lv_iload hx hb d_MT_take_108 (lv_at hl 1 rfl) ?_
            refine zq_if_eq (tgt := 149) hx hb d_MT_take_110 (by decide) (by decide) (fun hc23 => ?_) (fun hc23 => ?_)
            · exact absurd hc23 (by decide)
            · refine lv_iload hx hb d_MT_take_113 (lv_at hl 0 rfl) ?_
              refine zq_if_eq (tgt := 149) hx hb d_MT_take_115 (by decide) (by decide) (fun hc24 => ?_) (fun hc24 => ?_)
              · have hPGm := zPG_S (fun q => q = o ∨ q = la ∨ q = qla) hPG (fun q hq => hft q (fun z => hq (Or.inl z)) (fun z => hq (Or.inr (Or.inl z))) (fun z => hq (Or.inr (Or.inr z)))) (fun q hq => by rcases hq with rfl | rfl | rfl; exact ⟨zq_ne h_o0 hPG.1 (by simp), fun i h1 h2 => ⟨zq_ne (hPG.2.1 i h1 h2).1 h_o0 (by simp), zq_ne (hPG.2.1 i h1 h2).2 h_o0 (by simp)⟩⟩; exact ⟨zq_ne h_la0 hPG.1 (by simp), fun i h1 h2 => ⟨(hrsD i h1 h2).1, zq_ne (hPG.2.1 i h1 h2).2 h_la0 (by simp)⟩⟩; exact ⟨zq_ne h_qla0 hPG.1 (by simp), fun i h1 h2 => ⟨zq_ne (hPG.2.1 i h1 h2).1 h_qla0 (by simp), (hrsD i h1 h2).2⟩⟩)
                refine lv_aload_n hx hb d_MT_take_149 rfl (lv_at hl 3 rfl) ?_
                refine zq_get hx hb hts i_MT hown hK hw h_o rfl 1 (by decide) (hts _ tw_154) rfl d_MT_take_150 ?_
                exact zq_aret hx hb hr (Or.inl ⟨_, rfl⟩) hlocks hZ hw ⟨pa, qa, _, _, rfl, ⟨dg, fc, dx, fx, h_o, h_d, hPGm, hPI, h_pr, h_qpr, hUp, h_on, h_qon, h_la, h_qla, zD_0, hpp, hon, hrsD, hopr, hors, hrp⟩, Or.inr ⟨fun z => by have z3 := z.2.2; split at z3 <;> omega, rfl⟩, fun i h1 h2 => ⟨i, h1, h2, rfl, rfl⟩, hfr⟩ d_MT_take_153
              · exact absurd hc24 (by decide)
          · refine lv_iload_n hx hb d_MT_take_93 rfl (lv_at hl 5 rfl) ?_
            refine lv_aload_n hx hb d_MT_take_94 rfl (lv_at hl 3 rfl) ?_
            refine zq_callV (As := []) (rest := [.int (iI xc)]) ⟨hx, hb, hml, hown, hts⟩ (c_ET_columns l D K M4 eo gA kA rw0 co0  h_e (by omega)) (cwV 0 hts (zg_V tw_403 tw_394 tw_395 tw_5 tw_396) rfl rfl rfl (by decide +kernel) ⟨Nat.le_of_ble_eq_true rfl, Nat.le_of_ble_eq_true rfl⟩) hZ hw hA h_e rfl rfl rfl rfl hl.1 (Nat.le_of_ble_eq_true rfl) d_MT_take_95 ⟨Nat.le_of_ble_eq_true rfl, Nat.le_of_ble_eq_true rfl⟩ (fun v M25 H locs hp hw => ?_)
            obtain ⟨rfl, hMe⟩ := hp
            rw [hMe] at hw
            refine W.eq (g2 := F0 m 98 ls [.int (iI co0), .int (iI xc)]) rfl ?_
            refine zq_icmp_ge (tgt := 105) hx hb d_MT_take_98 (by decide) hxc ⟨by omega, by omega⟩ (fun hc26 => ?_) (fun hc26 => ?_)
            · refine lv_iconst (v := iI 0) hx hb d_MT_take_105 rfl ?_
              refine lv_istore (lv' := [(6, .int (iI 0)), (5, .int (iI 1)), (4, .int (iI (rw0 - 1))), (0, .ref o), (1, .ref eo), (2, .int (iI xr)), (3, .int (iI xc))]) hx hb d_MT_take_106 hl (by decide) rfl (fun ls hl => ?_)
              refine lv_iload hx hb d_MT_take_108 (lv_at hl 1 rfl) ?_
              refine zq_if_eq (tgt := 149) hx hb d_MT_take_110 (by decide) (by decide) (fun hc27 => ?_) (fun hc27 => ?_)
              · exact absurd hc27 (by decide)
              · refine lv_iload hx hb d_MT_take_113 (lv_at hl 0 rfl) ?_
                refine zq_if_eq (tgt := 149) hx hb d_MT_take_115 (by decide) (by decide) (fun hc28 => ?_) (fun hc28 => ?_)
                · have hPGm := zPG_S (fun q => q = o ∨ q = la ∨ q = qla) hPG (fun q hq => hft q (fun z => hq (Or.inl z)) (fun z => hq (Or.inr (Or.inl z))) (fun z => hq (Or.inr (Or.inr z)))) (fun q hq => by rcases hq with rfl | rfl | rfl; exact ⟨zq_ne h_o0 hPG.1 (by simp), fun i h1 h2 => ⟨zq_ne (hPG.2.1 i h1 h2).1 h_o0 (by simp), zq_ne (hPG.2.1 i h1 h2).2 h_o0 (by simp)⟩⟩; exact ⟨zq_ne h_la0 hPG.1 (by simp), fun i h1 h2 => ⟨(hrsD i h1 h2).1, zq_ne (hPG.2.1 i h1 h2).2 h_la0 (by simp)⟩⟩; exact ⟨zq_ne h_qla0 hPG.1 (by simp), fun i h1 h2 => ⟨zq_ne (hPG.2.1 i h1 h2).1 h_qla0 (by simp), (hrsD i h1 h2).2⟩⟩)
                  refine lv_aload_n hx hb d_MT_take_149 rfl (lv_at hl 3 rfl) ?_
                  refine zq_get hx hb hts i_MT hown hK hw h_o rfl 1 (by decide) (hts _ tw_154) rfl d_MT_take_150 ?_
                  exact zq_aret hx hb hr (Or.inl ⟨_, rfl⟩) hlocks hZ hw ⟨pa, qa, _, _, rfl, ⟨dg, fc, dx, fx, h_o, h_d, hPGm, hPI, h_pr, h_qpr, hUp, h_on, h_qon, h_la, h_qla, zD_0, hpp, hon, hrsD, hopr, hors, hrp⟩, Or.inr ⟨fun z => by have z3 := z.2.2; split at z3 <;> omega, rfl⟩, fun i h1 h2 => ⟨i, h1, h2, rfl, rfl⟩, hfr⟩ d_MT_take_153
                · exact absurd hc28 (by decide)
            · refine lv_iconst (v := iI 1) hx hb d_MT_take_101 rfl ?_
              refine lv_goto (tgt := 106) hx hb d_MT_take_102 (by decide) ?_
              refine lv_istore (lv' := [(6, .int (iI 1)), (5, .int (iI 1)), (4, .int (iI (rw0 - 1))), (0, .ref o), (1, .ref eo), (2, .int (iI xr)), (3, .int (iI xc))]) hx hb d_MT_take_106 hl (by decide) rfl (fun ls hl => ?_)
              refine lv_iload hx hb d_MT_take_108 (lv_at hl 1 rfl) ?_
              refine zq_if_eq (tgt := 149) hx hb d_MT_take_110 (by decide) (by decide) (fun hc29 => ?_) (fun hc29 => ?_)
              · exact absurd hc29 (by decide)
              · refine lv_iload hx hb d_MT_take_113 (lv_at hl 0 rfl) ?_
                refine zq_if_eq (tgt := 149) hx hb d_MT_take_115 (by decide) (by decide) (fun hc30 => ?_) (fun hc30 => ?_)
                · exact absurd hc30 (by decide)
                · refine lv_iload hx hb d_MT_take_118 (lv_at hl 2 rfl) ?_
                  refine lv_aload_n hx hb d_MT_take_120 rfl (lv_at hl 4 rfl) ?_
                  refine zq_callV (As := []) (rest := [.int (iI (rw0 - 1))]) ⟨hx, hb, hml, hown, hts⟩ (c_ET_columns l D K M4 eo gA kA rw0 co0  h_e (by omega)) (cwV 0 hts (zg_V tw_403 tw_394 tw_395 tw_5 tw_396) rfl rfl rfl (by decide +kernel) ⟨Nat.le_of_ble_eq_true rfl, Nat.le_of_ble_eq_true rfl⟩) hZ hw hA h_e rfl rfl rfl rfl hl.1 (Nat.le_of_ble_eq_true rfl) d_MT_take_121 ⟨Nat.le_of_ble_eq_true rfl, Nat.le_of_ble_eq_true rfl⟩ (fun v M31 H locs hp hw => ?_)
                  obtain ⟨rfl, hMe⟩ := hp
                  rw [hMe] at hw
                  refine W.eq (g2 := F0 m 124 ls [.int (iI co0), .int (iI (rw0 - 1))]) rfl ?_
                  refine lv_iconst (v := iI 1) hx hb d_MT_take_124 rfl ?_
                  refine zq_isub hx hb d_MT_take_125 ?_
                  refine zq_icmp_ne (tgt := 149) hx hb d_MT_take_126 (by decide) ⟨by omega, by omega⟩ ⟨by omega, by omega⟩ (fun hc32 => ?_) (fun hc32 => ?_)
                  · have hPGm := zPG_S (fun q => q = o ∨ q = la ∨ q = qla) hPG (fun q hq => hft q (fun z => hq (Or.inl z)) (fun z => hq (Or.inr (Or.inl z))) (fun z => hq (Or.inr (Or.inr z)))) (fun q hq => by rcases hq with rfl | rfl | rfl; exact ⟨zq_ne h_o0 hPG.1 (by simp), fun i h1 h2 => ⟨zq_ne (hPG.2.1 i h1 h2).1 h_o0 (by simp), zq_ne (hPG.2.1 i h1 h2).2 h_o0 (by simp)⟩⟩; exact ⟨zq_ne h_la0 hPG.1 (by simp), fun i h1 h2 => ⟨(hrsD i h1 h2).1, zq_ne (hPG.2.1 i h1 h2).2 h_la0 (by simp)⟩⟩; exact ⟨zq_ne h_qla0 hPG.1 (by simp), fun i h1 h2 => ⟨zq_ne (hPG.2.1 i h1 h2).1 h_qla0 (by simp), (hrsD i h1 h2).2⟩⟩)
                    refine lv_aload_n hx hb d_MT_take_149 rfl (lv_at hl 3 rfl) ?_
                    refine zq_get hx hb hts i_MT hown hK hw h_o rfl 1 (by decide) (hts _ tw_154) rfl d_MT_take_150 ?_
                    exact zq_aret hx hb hr (Or.inl ⟨_, rfl⟩) hlocks hZ hw ⟨pa, qa, _, _, rfl, ⟨dg, fc, dx, fx, h_o, h_d, hPGm, hPI, h_pr, h_qpr, hUp, h_on, h_qon, h_la, h_qla, zD_0, hpp, hon, hrsD, hopr, hors, hrp⟩, Or.inr ⟨fun z => by have z3 := z.2.2; split at z3 <;> omega, rfl⟩, fun i h1 h2 => ⟨i, h1, h2, rfl, rfl⟩, hfr⟩ d_MT_take_153
                  · have hPGm := zPG_S (fun q => q = o ∨ q = la ∨ q = qla) hPG (fun q hq => hft q (fun z => hq (Or.inl z)) (fun z => hq (Or.inr (Or.inl z))) (fun z => hq (Or.inr (Or.inr z)))) (fun q hq => by rcases hq with rfl | rfl | rfl; exact ⟨zq_ne h_o0 hPG.1 (by simp), fun i h1 h2 => ⟨zq_ne (hPG.2.1 i h1 h2).1 h_o0 (by simp), zq_ne (hPG.2.1 i h1 h2).2 h_o0 (by simp)⟩⟩; exact ⟨zq_ne h_la0 hPG.1 (by simp), fun i h1 h2 => ⟨(hrsD i h1 h2).1, zq_ne (hPG.2.1 i h1 h2).2 h_la0 (by simp)⟩⟩; exact ⟨zq_ne h_qla0 hPG.1 (by simp), fun i h1 h2 => ⟨zq_ne (hPG.2.1 i h1 h2).1 h_qla0 (by simp), (hrsD i h1 h2).2⟩⟩)
                    have hG1m := zG_S (fun q => q = o ∨ q = la ∨ q = qla) hG1 (fun q hq => hft q (fun z => hq (Or.inl z)) (fun z => hq (Or.inr (Or.inl z))) (fun z => hq (Or.inr (Or.inr z)))) (fun q hq => by rcases hq with rfl | rfl | rfl; exact Or.inl ⟨_, h_o0⟩; exact Or.inl ⟨_, h_la0⟩; exact Or.inr (Or.inl ⟨_, h_qla0⟩))
                    have hG2m := zG_S (fun q => q = o ∨ q = la ∨ q = qla) hG2 (fun q hq => hft q (fun z => hq (Or.inl z)) (fun z => hq (Or.inr (Or.inl z))) (fun z => hq (Or.inr (Or.inr z)))) (fun q hq => by rcases hq with rfl | rfl | rfl; exact Or.inl ⟨_, h_o0⟩; exact Or.inl ⟨_, h_la0⟩; exact Or.inr (Or.inl ⟨_, h_qla0⟩))
                    refine lv_aload_n hx hb d_MT_take_129 rfl (lv_at hl 3 rfl) ?_
                    refine lv_aload_n hx hb d_MT_take_130 rfl (lv_at hl 4 rfl) ?_
                    refine lv_iload hx hb d_MT_take_131 (lv_at hl 2 rfl) ?_
                    refine zq_callV (As := [.ref eo, .int (iI (rw0 - 1))]) (rest := []) ⟨hx, hb, hml, hown, hts⟩ (c_MT_fillCells l D K M4 o dt la xr xc 1 cA pr on pa qa dg fc eo gA kA ra rb rw0 co0 F G (rw0 - 1) h_o h_d hPGm hPI h_e hG1m hG2m hE hFb hGb ⟨by omega, by omega⟩ ⟨by omega, by omega, by omega, by omega⟩) (cwV 2 hts (zg_V tw_404 tw_406 ts_15 tw_6 tw_407) rfl rfl rfl (by decide +kernel) ⟨Nat.le_of_ble_eq_true rfl, Nat.le_of_ble_eq_true rfl⟩) hZ hw hA h_o rfl rfl rfl rfl hl.1 (Nat.le_of_ble_eq_true rfl) d_MT_take_133 ⟨Nat.le_of_ble_eq_true rfl, Nat.le_of_ble_eq_true rfl⟩ (fun v M33 H locs hp hw => ?_)
                    obtain ⟨rfl, dg1, fc1, hP1, hPI1, hMx1, ho⟩ := hp
                    have h_o : M33 o = some (.inr (6, [.ref dt, .ref la, .int (iI xr), .int (iI xc), .int (iI 1)])) := (ho _ (fun i h1 h2 => zq_ne h_o (hPGm.2.1 i h1 h2).1 (by simp)) (fun i h1 h2 => zq_ne h_o (hPGm.2.1 i h1 h2).2 (by simp))).trans h_o
                    have h_d : M33 dt = some (.inr (3, [.ref cA, .ref pr, .ref on])) := (ho _ (fun i h1 h2 => zq_ne h_d (hPGm.2.1 i h1 h2).1 (by simp)) (fun i h1 h2 => zq_ne h_d (hPGm.2.1 i h1 h2).2 (by simp))).trans h_d
                    have h_e : M33 eo = some (.inr (5, [.ref gA, .ref kA, .int (iI rw0), .int (iI co0)])) := (ho _ (fun i h1 h2 => zq_ne h_e (hPGm.2.1 i h1 h2).1 (by simp)) (fun i h1 h2 => zq_ne h_e (hPGm.2.1 i h1 h2).2 (by simp))).trans h_e
                    have h_g : M33 gA = some (cQ (K 4) 12 (fun i => some (ra i))) := (ho _ (fun i h1 h2 => zq_ne h_g (hPGm.2.1 i h1 h2).1 (by simp)) (fun i h1 h2 => zq_ne h_g (hPGm.2.1 i h1 h2).2 (by simp))).trans h_g
                    have h_k : M33 kA = some (cQ (K 4) 12 (fun i => some (rb i))) := (ho _ (fun i h1 h2 => zq_ne h_k (hPGm.2.1 i h1 h2).1 (by simp)) (fun i h1 h2 => zq_ne h_k (hPGm.2.1 i h1 h2).2 (by simp))).trans h_k
                    have h_pr : M33 pr = some (.inr (8, [.ref qpr, .int (iI dx)])) := (ho _ (fun i h1 h2 => Ne.symm (hpp i h1 h2).1) (fun i h1 h2 => zq_ne h_pr (hPGm.2.1 i h1 h2).2 (by simp))).trans h_pr
                    have h_qpr : M33 qpr = some (cJ (K 1) 25 fx) := (ho _ (fun i h1 h2 => zq_ne h_qpr (hPGm.2.1 i h1 h2).1 (by simp)) (fun i h1 h2 => Ne.symm (hpp i h1 h2).2)).trans h_qpr
                    have h_on : M33 on = some (.inr (8, [.ref qon, .int (iI 0)])) := (ho _ (fun i h1 h2 => Ne.symm (hon i h1 h2).1) (fun i h1 h2 => zq_ne h_on (hPGm.2.1 i h1 h2).2 (by simp))).trans h_on
                    have h_qon : M33 qon = some (cJ (K 1) 25 (zu (zu (fun _ => 0) 0 1) 1 0)) := (ho _ (fun i h1 h2 => zq_ne h_qon (hPGm.2.1 i h1 h2).1 (by simp)) (fun i h1 h2 => Ne.symm (hon i h1 h2).2)).trans h_qon
                    have h_la : M33 la = some (.inr (8, [.ref qla, .int (iI (-1))])) := (ho _ (fun i h1 h2 => Ne.symm (hrsD i h1 h2).1) (fun i h1 h2 => zq_ne h_la (hPGm.2.1 i h1 h2).2 (by simp))).trans h_la
                    have h_qla : M33 qla = some (cJ (K 1) 25 (fun _ => 0)) := (ho _ (fun i h1 h2 => zq_ne h_qla (hPGm.2.1 i h1 h2).1 (by simp)) (fun i h1 h2 => Ne.symm (hrsD i h1 h2).2)).trans h_qla
                    have h_c := hP1.1
                    have hfr : ∀ q, q ≠ o → q ≠ cA → q ≠ pr → q ≠ qpr → (∀ i, 0 ≤ i → i < 144 → q ≠ pa i) → (∀ i, 0 ≤ i → i < 144 → q ≠ qa i) → q ≠ la → q ≠ qla → M33 q = M q := fun q g0 g1 g2 g3 g4 g5 g6 g7 => (ho q g4 g5).trans (hfr q g0 g1 g2 g3 g4 g5 g6 g7)
                    refine W.eq (g2 := F0 m 136 ls []) rfl ?_
                    refine lv_aload_n hx hb d_MT_take_136 rfl (lv_at hl 3 rfl) ?_
                    refine zq_get hx hb hts i_MT hown hK hw h_o rfl 0 (by decide) (hts _ tw_153) rfl d_MT_take_137 ?_
                    refine lv_iload hx hb d_MT_take_140 (lv_at hl 2 rfl) ?_
                    refine lv_aload_n hx hb d_MT_take_142 rfl (lv_at hl 3 rfl) ?_
                    refine zq_get hx hb hts i_MT hown hK hw h_o rfl 1 (by decide) (hts _ tw_154) rfl d_MT_take_143 ?_
                    refine zq_callV (As := [.int (iI (rw0 - 1)), .ref la]) (rest := []) ⟨hx, hb, hml, hown, hts⟩ (c_DT_evaluate l D K M33 dt cA pr on pa qa dg1 fc1 qpr dx fx qon la qla (-1) (fun _ => 0) (rw0 - 1) h_d hP1 hPI1 h_pr h_qpr hUp h_on h_qon h_la h_qla (zU_new (by decide) (by decide)) hpp hon hrsD hopr hors hrp ⟨by omega, by omega⟩ (hHok xr xc (rw0 - 1) fc1 ⟨by omega, by omega⟩ ⟨by omega, by omega⟩ (by rw [if_neg (by omega)]) (by omega) hMx1)) (cwV 2 hts (zg_V tw_427 tw_428 tw_429 tw_7 tw_430) rfl rfl rfl (by decide +kernel) ⟨Nat.le_of_ble_eq_true rfl, Nat.le_of_ble_eq_true rfl⟩) hZ hw hA h_d rfl rfl rfl rfl hl.1 (Nat.le_of_ble_eq_true rfl) d_MT_take_146 ⟨Nat.le_of_ble_eq_true rfl, Nat.le_of_ble_eq_true rfl⟩ (fun v M34 H locs hp hw => ?_)
                    obtain ⟨rfl, res, dr, pa1, qa1, dg2, fc2, dx2, fx2, hBo, hDr, hs1, hs2, hP2, hPI2, hSb, hUx2, hs3, hs4, ho⟩ := hp
                    have hP2a := hP2.1
                    have h_oN : M34 o = some (.inr (6, [.ref dt, .ref la, .int (iI xr), .int (iI xc), .int (iI 1)])) := (ho _ (zq_ne h_o h_c (by simp)) (zq_ne h_o h_pr (by simp)) (zq_ne h_o h_qpr (by simp)) (fun i h1 h2 => zq_ne h_o (hP1.2.1 i h1 h2).1 (by simp)) (fun i h1 h2 => zq_ne h_o (hP1.2.1 i h1 h2).2 (by simp)) (zq_ne h_o h_la (by simp)) (zq_ne h_o h_qla (by simp))).trans h_o
                    have h_dN : M34 dt = some (.inr (3, [.ref cA, .ref pr, .ref on])) := (ho _ (zq_ne h_d h_c (by simp)) (zq_ne h_d h_pr (by simp)) (zq_ne h_d h_qpr (by simp)) (fun i h1 h2 => zq_ne h_d (hP1.2.1 i h1 h2).1 (by simp)) (fun i h1 h2 => zq_ne h_d (hP1.2.1 i h1 h2).2 (by simp)) (zq_ne h_d h_la (by simp)) (zq_ne h_d h_qla (by simp))).trans h_d
                    have h_onN : M34 on = some (.inr (8, [.ref qon, .int (iI 0)])) := (ho _ (zq_ne h_on h_c (by simp)) hopr.1 (zq_ne h_on h_qpr (by simp)) (fun i h1 h2 => Ne.symm (hon i h1 h2).1) (fun i h1 h2 => zq_ne h_on (hP1.2.1 i h1 h2).2 (by simp)) hors.1 (zq_ne h_on h_qla (by simp))).trans h_on
                    have h_qonN : M34 qon = some (cJ (K 1) 25 (zu (zu (fun _ => 0) 0 1) 1 0)) := (ho _ (zq_ne h_qon h_c (by simp)) (zq_ne h_qon h_pr (by simp)) hopr.2 (fun i h1 h2 => zq_ne h_qon (hP1.2.1 i h1 h2).1 (by simp)) (fun i h1 h2 => Ne.symm (hon i h1 h2).2) (zq_ne h_qon h_la (by simp)) hors.2).trans h_qon
                    have h_o := h_oN
                    have h_d := h_dN
                    have h_on := h_onN
                    have h_qon := h_qonN
                    have h_la := hs1
                    have h_qla := hs2
                    have h_pr := hs3
                    have h_qpr := hs4
                    have hfr : ∀ q, q ≠ o → q ≠ cA → q ≠ pr → q ≠ qpr → (∀ i, 0 ≤ i → i < 144 → q ≠ pa i) → (∀ i, 0 ≤ i → i < 144 → q ≠ qa i) → q ≠ la → q ≠ qla → M34 q = M q := fun q g0 g1 g2 g3 g4 g5 g6 g7 => (ho q g1 g2 g3 g4 g5 g6 g7).trans (hfr q g0 g1 g2 g3 g4 g5 g6 g7)
                    refine W.eq (g2 := F0 m 149 ls []) rfl ?_
                    have hodE : co0 - 1 = rw0 - 1 := by omega
                    refine lv_aload_n hx hb d_MT_take_149 rfl (lv_at hl 3 rfl) ?_
                    refine zq_get hx hb hts i_MT hown hK hw h_o rfl 1 (by decide) (hts _ tw_154) rfl d_MT_take_150 ?_
                    exact zq_aret hx hb hr (Or.inl ⟨_, rfl⟩) hlocks hZ hw ⟨pa1, qa1, res, dr, rfl, ⟨dg2, fc2, dx2, fx2, h_o, h_d, hP2, hPI2, h_pr, h_qpr, hUx2, h_on, h_qon, h_la, h_qla, hDr, zSb_d hSb hpp, zSb_d hSb hon, zSb_d hSb hrsD, hopr, hors, hrp⟩, Or.inl ⟨⟨by omega, by omega⟩, ⟨by omega, by omega⟩, by split <;> omega, fc1, by rw [hodE]; exact hMx1, by rw [hodE]; exact hBo⟩, hSb, hfr⟩ d_MT_take_153
    · refine lv_aload_n hx hb d_MT_take_54 rfl (lv_at hl 1 rfl) ?_
      refine zq_callV (As := []) (rest := []) ⟨hx, hb, hml, hown, hts⟩ (c_ET_rows l D K M4 eo gA kA rw0 co0  h_e (by omega)) (cwV 0 hts (zg_V tw_402 tw_390 tw_391 tw_5 tw_392) rfl rfl rfl (by decide +kernel) ⟨Nat.le_of_ble_eq_true rfl, Nat.le_of_ble_eq_true rfl⟩) hZ hw hA h_e rfl rfl rfl rfl hl.1 (Nat.le_of_ble_eq_true rfl) d_MT_take_55 ⟨Nat.le_of_ble_eq_true rfl, Nat.le_of_ble_eq_true rfl⟩ (fun v M35 H locs hp hw => ?_)
      obtain ⟨rfl, hMe⟩ := hp
      rw [hMe] at hw
      refine W.eq (g2 := F0 m 58 ls [.int (iI rw0)]) rfl ?_
      refine lv_goto (tgt := 67) hx hb d_MT_take_58 (by decide) ?_
      refine lv_istore (lv' := [(4, .int (iI rw0)), (0, .ref o), (1, .ref eo), (2, .int (iI xr)), (3, .int (iI xc))]) hx hb d_MT_take_67 hl (by decide) rfl (fun ls hl => ?_)
      refine lv_iload_n hx hb d_MT_take_69 rfl (lv_at hl 3 rfl) ?_
      refine lv_iconst (v := iI (-1)) hx hb d_MT_take_70 rfl ?_
      refine zq_icmp_lt (tgt := 86) hx hb d_MT_take_71 (by decide) hxr (by decide) (fun hc36 => ?_) (fun hc36 => ?_)
      · refine lv_iconst (v := iI 0) hx hb d_MT_take_86 rfl ?_
        refine lv_istore (lv' := [(5, .int (iI 0)), (4, .int (iI rw0)), (0, .ref o), (1, .ref eo), (2, .int (iI xr)), (3, .int (iI xc))]) hx hb d_MT_take_87 hl (by decide) rfl (fun ls hl => ?_)
        refine lv_iload_n hx hb d_MT_take_89 rfl (lv_at hl 5 rfl) ?_
        refine zq_if_lt (tgt := 105) hx hb d_MT_take_90 (by decide) hxc (fun hc37 => ?_) (fun hc37 => ?_)
        · refine lv_iconst (v := iI 0) hx hb d_MT_take_105 rfl ?_
          refine lv_istore (lv' := [(6, .int (iI 0)), (5, .int (iI 0)), (4, .int (iI rw0)), (0, .ref o), (1, .ref eo), (2, .int (iI xr)), (3, .int (iI xc))]) hx hb d_MT_take_106 hl (by decide) rfl (fun ls hl => ?_)
          refine lv_iload hx hb d_MT_take_108 (lv_at hl 1 rfl) ?_
          refine zq_if_eq (tgt := 149) hx hb d_MT_take_110 (by decide) (by decide) (fun hc38 => ?_) (fun hc38 => ?_)
          · have hPGm := zPG_S (fun q => q = o ∨ q = la ∨ q = qla) hPG (fun q hq => hft q (fun z => hq (Or.inl z)) (fun z => hq (Or.inr (Or.inl z))) (fun z => hq (Or.inr (Or.inr z)))) (fun q hq => by rcases hq with rfl | rfl | rfl; exact ⟨zq_ne h_o0 hPG.1 (by simp), fun i h1 h2 => ⟨zq_ne (hPG.2.1 i h1 h2).1 h_o0 (by simp), zq_ne (hPG.2.1 i h1 h2).2 h_o0 (by simp)⟩⟩; exact ⟨zq_ne h_la0 hPG.1 (by simp), fun i h1 h2 => ⟨(hrsD i h1 h2).1, zq_ne (hPG.2.1 i h1 h2).2 h_la0 (by simp)⟩⟩; exact ⟨zq_ne h_qla0 hPG.1 (by simp), fun i h1 h2 => ⟨zq_ne (hPG.2.1 i h1 h2).1 h_qla0 (by simp), (hrsD i h1 h2).2⟩⟩)
            refine lv_aload_n hx hb d_MT_take_149 rfl (lv_at hl 3 rfl) ?_
            refine zq_get hx hb hts i_MT hown hK hw h_o rfl 1 (by decide) (hts _ tw_154) rfl d_MT_take_150 ?_
            exact zq_aret hx hb hr (Or.inl ⟨_, rfl⟩) hlocks hZ hw ⟨pa, qa, _, _, rfl, ⟨dg, fc, dx, fx, h_o, h_d, hPGm, hPI, h_pr, h_qpr, hUp, h_on, h_qon, h_la, h_qla, zD_0, hpp, hon, hrsD, hopr, hors, hrp⟩, Or.inr ⟨fun z => by have z3 := z.2.2; split at z3 <;> omega, rfl⟩, fun i h1 h2 => ⟨i, h1, h2, rfl, rfl⟩, hfr⟩ d_MT_take_153
          · exact absurd hc38 (by decide)
        · refine lv_iload_n hx hb d_MT_take_93 rfl (lv_at hl 5 rfl) ?_
          refine lv_aload_n hx hb d_MT_take_94 rfl (lv_at hl 3 rfl) ?_
          refine zq_callV (As := []) (rest := [.int (iI xc)]) ⟨hx, hb, hml, hown, hts⟩ (c_ET_columns l D K M4 eo gA kA rw0 co0  h_e (by omega)) (cwV 0 hts (zg_V tw_403 tw_394 tw_395 tw_5 tw_396) rfl rfl rfl (by decide +kernel) ⟨Nat.le_of_ble_eq_true rfl, Nat.le_of_ble_eq_true rfl⟩) hZ hw hA h_e rfl rfl rfl rfl hl.1 (Nat.le_of_ble_eq_true rfl) d_MT_take_95 ⟨Nat.le_of_ble_eq_true rfl, Nat.le_of_ble_eq_true rfl⟩ (fun v M39 H locs hp hw => ?_)
          obtain ⟨rfl, hMe⟩ := hp
          rw [hMe] at hw
          refine W.eq (g2 := F0 m 98 ls [.int (iI co0), .int (iI xc)]) rfl ?_
          refine zq_icmp_ge (tgt := 105) hx hb d_MT_take_98 (by decide) hxc ⟨by omega, by omega⟩ (fun hc40 => ?_) (fun hc40 => ?_)
          · refine lv_iconst (v := iI 0) hx hb d_MT_take_105 rfl ?_
            refine lv_istore (lv' := [(6, .int (iI 0)), (5, .int (iI 0)), (4, .int (iI rw0)), (0, .ref o), (1, .ref eo), (2, .int (iI xr)), (3, .int (iI xc))]) hx hb d_MT_take_106 hl (by decide) rfl (fun ls hl => ?_)
            refine lv_iload hx hb d_MT_take_108 (lv_at hl 1 rfl) ?_
            refine zq_if_eq (tgt := 149) hx hb d_MT_take_110 (by decide) (by decide) (fun hc41 => ?_) (fun hc41 => ?_)
            · have hPGm := zPG_S (fun q => q = o ∨ q = la ∨ q = qla) hPG (fun q hq => hft q (fun z => hq (Or.inl z)) (fun z => hq (Or.inr (Or.inl z))) (fun z => hq (Or.inr (Or.inr z)))) (fun q hq => by rcases hq with rfl | rfl | rfl; exact ⟨zq_ne h_o0 hPG.1 (by simp), fun i h1 h2 => ⟨zq_ne (hPG.2.1 i h1 h2).1 h_o0 (by simp), zq_ne (hPG.2.1 i h1 h2).2 h_o0 (by simp)⟩⟩; exact ⟨zq_ne h_la0 hPG.1 (by simp), fun i h1 h2 => ⟨(hrsD i h1 h2).1, zq_ne (hPG.2.1 i h1 h2).2 h_la0 (by simp)⟩⟩; exact ⟨zq_ne h_qla0 hPG.1 (by simp), fun i h1 h2 => ⟨zq_ne (hPG.2.1 i h1 h2).1 h_qla0 (by simp), (hrsD i h1 h2).2⟩⟩)
              refine lv_aload_n hx hb d_MT_take_149 rfl (lv_at hl 3 rfl) ?_
              refine zq_get hx hb hts i_MT hown hK hw h_o rfl 1 (by decide) (hts _ tw_154) rfl d_MT_take_150 ?_
              exact zq_aret hx hb hr (Or.inl ⟨_, rfl⟩) hlocks hZ hw ⟨pa, qa, _, _, rfl, ⟨dg, fc, dx, fx, h_o, h_d, hPGm, hPI, h_pr, h_qpr, hUp, h_on, h_qon, h_la, h_qla, zD_0, hpp, hon, hrsD, hopr, hors, hrp⟩, Or.inr ⟨fun z => by have z3 := z.2.2; split at z3 <;> omega, rfl⟩, fun i h1 h2 => ⟨i, h1, h2, rfl, rfl⟩, hfr⟩ d_MT_take_153
            · exact absurd hc41 (by decide)
          · refine lv_iconst (v := iI 1) hx hb d_MT_take_101 rfl ?_
            refine lv_goto (tgt := 106) hx hb d_MT_take_102 (by decide) ?_
            refine lv_istore (lv' := [(6, .int (iI 1)), (5, .int (iI 0)), (4, .int (iI rw0)), (0, .ref o), (1, .ref eo), (2, .int (iI xr)), (3, .int (iI xc))]) hx hb d_MT_take_106 hl (by decide) rfl (fun ls hl => ?_)
            refine lv_iload hx hb d_MT_take_108 (lv_at hl 1 rfl) ?_
            refine zq_if_eq (tgt := 149) hx hb d_MT_take_110 (by decide) (by decide) (fun hc42 => ?_) (fun hc42 => ?_)
            · have hPGm := zPG_S (fun q => q = o ∨ q = la ∨ q = qla) hPG (fun q hq => hft q (fun z => hq (Or.inl z)) (fun z => hq (Or.inr (Or.inl z))) (fun z => hq (Or.inr (Or.inr z)))) (fun q hq => by rcases hq with rfl | rfl | rfl; exact ⟨zq_ne h_o0 hPG.1 (by simp), fun i h1 h2 => ⟨zq_ne (hPG.2.1 i h1 h2).1 h_o0 (by simp), zq_ne (hPG.2.1 i h1 h2).2 h_o0 (by simp)⟩⟩; exact ⟨zq_ne h_la0 hPG.1 (by simp), fun i h1 h2 => ⟨(hrsD i h1 h2).1, zq_ne (hPG.2.1 i h1 h2).2 h_la0 (by simp)⟩⟩; exact ⟨zq_ne h_qla0 hPG.1 (by simp), fun i h1 h2 => ⟨zq_ne (hPG.2.1 i h1 h2).1 h_qla0 (by simp), (hrsD i h1 h2).2⟩⟩)
              refine lv_aload_n hx hb d_MT_take_149 rfl (lv_at hl 3 rfl) ?_
              refine zq_get hx hb hts i_MT hown hK hw h_o rfl 1 (by decide) (hts _ tw_154) rfl d_MT_take_150 ?_
              exact zq_aret hx hb hr (Or.inl ⟨_, rfl⟩) hlocks hZ hw ⟨pa, qa, _, _, rfl, ⟨dg, fc, dx, fx, h_o, h_d, hPGm, hPI, h_pr, h_qpr, hUp, h_on, h_qon, h_la, h_qla, zD_0, hpp, hon, hrsD, hopr, hors, hrp⟩, Or.inr ⟨fun z => by have z3 := z.2.2; split at z3 <;> omega, rfl⟩, fun i h1 h2 => ⟨i, h1, h2, rfl, rfl⟩, hfr⟩ d_MT_take_153
            · exact absurd hc42 (by decide)
      · refine lv_iload_n hx hb d_MT_take_74 rfl (lv_at hl 3 rfl) ?_
        refine lv_aload_n hx hb d_MT_take_75 rfl (lv_at hl 2 rfl) ?_
        refine zq_callV (As := []) (rest := [.int (iI xr)]) ⟨hx, hb, hml, hown, hts⟩ (c_ET_rows l D K M4 eo gA kA rw0 co0  h_e (by omega)) (cwV 0 hts (zg_V tw_402 tw_390 tw_391 tw_5 tw_392) rfl rfl rfl (by decide +kernel) ⟨Nat.le_of_ble_eq_true rfl, Nat.le_of_ble_eq_true rfl⟩) hZ hw hA h_e rfl rfl rfl rfl hl.1 (Nat.le_of_ble_eq_true rfl) d_MT_take_76 ⟨Nat.le_of_ble_eq_true rfl, Nat.le_of_ble_eq_true rfl⟩ (fun v M43 H locs hp hw => ?_)
        obtain ⟨rfl, hMe⟩ := hp
        rw [hMe] at hw
        refine W.eq (g2 := F0 m 79 ls [.int (iI rw0), .int (iI xr)]) rfl ?_
        refine zq_icmp_ge (tgt := 86) hx hb d_MT_take_79 (by decide) hxr ⟨by omega, by omega⟩ (fun hc44 => ?_) (fun hc44 => ?_)
        · refine lv_iconst (v := iI 0) hx hb d_MT_take_86 rfl ?_
          refine lv_istore (lv' := [(5, .int (iI 0)), (4, .int (iI rw0)), (0, .ref o), (1, .ref eo), (2, .int (iI xr)), (3, .int (iI xc))]) hx hb d_MT_take_87 hl (by decide) rfl (fun ls hl => ?_)
          refine lv_iload_n hx hb d_MT_take_89 rfl (lv_at hl 5 rfl) ?_
          refine zq_if_lt (tgt := 105) hx hb d_MT_take_90 (by decide) hxc (fun hc45 => ?_) (fun hc45 => ?_)
          · refine lv_iconst (v := iI 0) hx hb d_MT_take_105 rfl ?_
            refine lv_istore (lv' := [(6, .int (iI 0)), (5, .int (iI 0)), (4, .int (iI rw0)), (0, .ref o), (1, .ref eo), (2, .int (iI xr)), (3, .int (iI xc))]) hx hb d_MT_take_106 hl (by decide) rfl (fun ls hl => ?_)
            refine lv_iload hx hb d_MT_take_108 (lv_at hl 1 rfl) ?_
            refine zq_if_eq (tgt := 149) hx hb d_MT_take_110 (by decide) (by decide) (fun hc46 => ?_) (fun hc46 => ?_)
            · have hPGm := zPG_S (fun q => q = o ∨ q = la ∨ q = qla) hPG (fun q hq => hft q (fun z => hq (Or.inl z)) (fun z => hq (Or.inr (Or.inl z))) (fun z => hq (Or.inr (Or.inr z)))) (fun q hq => by rcases hq with rfl | rfl | rfl; exact ⟨zq_ne h_o0 hPG.1 (by simp), fun i h1 h2 => ⟨zq_ne (hPG.2.1 i h1 h2).1 h_o0 (by simp), zq_ne (hPG.2.1 i h1 h2).2 h_o0 (by simp)⟩⟩; exact ⟨zq_ne h_la0 hPG.1 (by simp), fun i h1 h2 => ⟨(hrsD i h1 h2).1, zq_ne (hPG.2.1 i h1 h2).2 h_la0 (by simp)⟩⟩; exact ⟨zq_ne h_qla0 hPG.1 (by simp), fun i h1 h2 => ⟨zq_ne (hPG.2.1 i h1 h2).1 h_qla0 (by simp), (hrsD i h1 h2).2⟩⟩)
              refine lv_aload_n hx hb d_MT_take_149 rfl (lv_at hl 3 rfl) ?_
              refine zq_get hx hb hts i_MT hown hK hw h_o rfl 1 (by decide) (hts _ tw_154) rfl d_MT_take_150 ?_
              exact zq_aret hx hb hr (Or.inl ⟨_, rfl⟩) hlocks hZ hw ⟨pa, qa, _, _, rfl, ⟨dg, fc, dx, fx, h_o, h_d, hPGm, hPI, h_pr, h_qpr, hUp, h_on, h_qon, h_la, h_qla, zD_0, hpp, hon, hrsD, hopr, hors, hrp⟩, Or.inr ⟨fun z => by have z3 := z.2.2; split at z3 <;> omega, rfl⟩, fun i h1 h2 => ⟨i, h1, h2, rfl, rfl⟩, hfr⟩ d_MT_take_153
            · exact absurd hc46 (by decide)
          · refine lv_iload_n hx hb d_MT_take_93 rfl (lv_at hl 5 rfl) ?_
            refine lv_aload_n hx hb d_MT_take_94 rfl (lv_at hl 3 rfl) ?_
            refine zq_callV (As := []) (rest := [.int (iI xc)]) ⟨hx, hb, hml, hown, hts⟩ (c_ET_columns l D K M4 eo gA kA rw0 co0  h_e (by omega)) (cwV 0 hts (zg_V tw_403 tw_394 tw_395 tw_5 tw_396) rfl rfl rfl (by decide +kernel) ⟨Nat.le_of_ble_eq_true rfl, Nat.le_of_ble_eq_true rfl⟩) hZ hw hA h_e rfl rfl rfl rfl hl.1 (Nat.le_of_ble_eq_true rfl) d_MT_take_95 ⟨Nat.le_of_ble_eq_true rfl, Nat.le_of_ble_eq_true rfl⟩ (fun v M47 H locs hp hw => ?_)
            obtain ⟨rfl, hMe⟩ := hp
            rw [hMe] at hw
            refine W.eq (g2 := F0 m 98 ls [.int (iI co0), .int (iI xc)]) rfl ?_
            refine zq_icmp_ge (tgt := 105) hx hb d_MT_take_98 (by decide) hxc ⟨by omega, by omega⟩ (fun hc48 => ?_) (fun hc48 => ?_)
            · refine lv_iconst (v := iI 0) hx hb d_MT_take_105 rfl ?_
              refine lv_istore (lv' := [(6, .int (iI 0)), (5, .int (iI 0)), (4, .int (iI rw0)), (0, .ref o), (1, .ref eo), (2, .int (iI xr)), (3, .int (iI xc))]) hx hb d_MT_take_106 hl (by decide) rfl (fun ls hl => ?_)
              refine lv_iload hx hb d_MT_take_108 (lv_at hl 1 rfl) ?_
              refine zq_if_eq (tgt := 149) hx hb d_MT_take_110 (by decide) (by decide) (fun hc49 => ?_) (fun hc49 => ?_)
              · have hPGm := zPG_S (fun q => q = o ∨ q = la ∨ q = qla) hPG (fun q hq => hft q (fun z => hq (Or.inl z)) (fun z => hq (Or.inr (Or.inl z))) (fun z => hq (Or.inr (Or.inr z)))) (fun q hq => by rcases hq with rfl | rfl | rfl; exact ⟨zq_ne h_o0 hPG.1 (by simp), fun i h1 h2 => ⟨zq_ne (hPG.2.1 i h1 h2).1 h_o0 (by simp), zq_ne (hPG.2.1 i h1 h2).2 h_o0 (by simp)⟩⟩; exact ⟨zq_ne h_la0 hPG.1 (by simp), fun i h1 h2 => ⟨(hrsD i h1 h2).1, zq_ne (hPG.2.1 i h1 h2).2 h_la0 (by simp)⟩⟩; exact ⟨zq_ne h_qla0 hPG.1 (by simp), fun i h1 h2 => ⟨zq_ne (hPG.2.1 i h1 h2).1 h_qla0 (by simp), (hrsD i h1 h2).2⟩⟩)
                refine lv_aload_n hx hb d_MT_take_149 rfl (lv_at hl 3 rfl) ?_
                refine zq_get hx hb hts i_MT hown hK hw h_o rfl 1 (by decide) (hts _ tw_154) rfl d_MT_take_150 ?_
                exact zq_aret hx hb hr (Or.inl ⟨_, rfl⟩) hlocks hZ hw ⟨pa, qa, _, _, rfl, ⟨dg, fc, dx, fx, h_o, h_d, hPGm, hPI, h_pr, h_qpr, hUp, h_on, h_qon, h_la, h_qla, zD_0, hpp, hon, hrsD, hopr, hors, hrp⟩, Or.inr ⟨fun z => by have z3 := z.2.2; split at z3 <;> omega, rfl⟩, fun i h1 h2 => ⟨i, h1, h2, rfl, rfl⟩, hfr⟩ d_MT_take_153
              · exact absurd hc49 (by decide)
            · refine lv_iconst (v := iI 1) hx hb d_MT_take_101 rfl ?_
              refine lv_goto (tgt := 106) hx hb d_MT_take_102 (by decide) ?_
              refine lv_istore (lv' := [(6, .int (iI 1)), (5, .int (iI 0)), (4, .int (iI rw0)), (0, .ref o), (1, .ref eo), (2, .int (iI xr)), (3, .int (iI xc))]) hx hb d_MT_take_106 hl (by decide) rfl (fun ls hl => ?_)
              refine lv_iload hx hb d_MT_take_108 (lv_at hl 1 rfl) ?_
              refine zq_if_eq (tgt := 149) hx hb d_MT_take_110 (by decide) (by decide) (fun hc50 => ?_) (fun hc50 => ?_)
              · have hPGm := zPG_S (fun q => q = o ∨ q = la ∨ q = qla) hPG (fun q hq => hft q (fun z => hq (Or.inl z)) (fun z => hq (Or.inr (Or.inl z))) (fun z => hq (Or.inr (Or.inr z)))) (fun q hq => by rcases hq with rfl | rfl | rfl; exact ⟨zq_ne h_o0 hPG.1 (by simp), fun i h1 h2 => ⟨zq_ne (hPG.2.1 i h1 h2).1 h_o0 (by simp), zq_ne (hPG.2.1 i h1 h2).2 h_o0 (by simp)⟩⟩; exact ⟨zq_ne h_la0 hPG.1 (by simp), fun i h1 h2 => ⟨(hrsD i h1 h2).1, zq_ne (hPG.2.1 i h1 h2).2 h_la0 (by simp)⟩⟩; exact ⟨zq_ne h_qla0 hPG.1 (by simp), fun i h1 h2 => ⟨zq_ne (hPG.2.1 i h1 h2).1 h_qla0 (by simp), (hrsD i h1 h2).2⟩⟩)
                refine lv_aload_n hx hb d_MT_take_149 rfl (lv_at hl 3 rfl) ?_
                refine zq_get hx hb hts i_MT hown hK hw h_o rfl 1 (by decide) (hts _ tw_154) rfl d_MT_take_150 ?_
                exact zq_aret hx hb hr (Or.inl ⟨_, rfl⟩) hlocks hZ hw ⟨pa, qa, _, _, rfl, ⟨dg, fc, dx, fx, h_o, h_d, hPGm, hPI, h_pr, h_qpr, hUp, h_on, h_qon, h_la, h_qla, zD_0, hpp, hon, hrsD, hopr, hors, hrp⟩, Or.inr ⟨fun z => by have z3 := z.2.2; split at z3 <;> omega, rfl⟩, fun i h1 h2 => ⟨i, h1, h2, rfl, rfl⟩, hfr⟩ d_MT_take_153
              · exact absurd hc50 (by decide)
        · refine lv_iconst (v := iI 1) hx hb d_MT_take_82 rfl ?_
          refine lv_goto (tgt := 87) hx hb d_MT_take_83 (by decide) ?_
          refine lv_istore (lv' := [(5, .int (iI 1)), (4, .int (iI rw0)), (0, .ref o), (1, .ref eo), (2, .int (iI xr)), (3, .int (iI xc))]) hx hb d_MT_take_87 hl (by decide) rfl (fun ls hl => ?_)
          refine lv_iload_n hx hb d_MT_take_89 rfl (lv_at hl 5 rfl) ?_
          refine zq_if_lt (tgt := 105) hx hb d_MT_take_90 (by decide) hxc (fun hc51 => ?_) (fun hc51 => ?_)
          · refine lv_iconst (v := iI 0) hx hb d_MT_take_105 rfl ?_
            refine lv_istore (lv' := [(6, .int (iI 0)), (5, .int (iI 1)), (4, .int (iI rw0)), (0, .ref o), (1, .ref eo), (2, .int (iI xr)), (3, .int (iI xc))]) hx hb d_MT_take_106 hl (by decide) rfl (fun ls hl => ?_)
            refine lv_iload hx hb d_MT_take_108 (lv_at hl 1 rfl) ?_
            refine zq_if_eq (tgt := 149) hx hb d_MT_take_110 (by decide) (by decide) (fun hc52 => ?_) (fun hc52 => ?_)
            · exact absurd hc52 (by decide)
            · refine lv_iload hx hb d_MT_take_113 (lv_at hl 0 rfl) ?_
              refine zq_if_eq (tgt := 149) hx hb d_MT_take_115 (by decide) (by decide) (fun hc53 => ?_) (fun hc53 => ?_)
              · have hPGm := zPG_S (fun q => q = o ∨ q = la ∨ q = qla) hPG (fun q hq => hft q (fun z => hq (Or.inl z)) (fun z => hq (Or.inr (Or.inl z))) (fun z => hq (Or.inr (Or.inr z)))) (fun q hq => by rcases hq with rfl | rfl | rfl; exact ⟨zq_ne h_o0 hPG.1 (by simp), fun i h1 h2 => ⟨zq_ne (hPG.2.1 i h1 h2).1 h_o0 (by simp), zq_ne (hPG.2.1 i h1 h2).2 h_o0 (by simp)⟩⟩; exact ⟨zq_ne h_la0 hPG.1 (by simp), fun i h1 h2 => ⟨(hrsD i h1 h2).1, zq_ne (hPG.2.1 i h1 h2).2 h_la0 (by simp)⟩⟩; exact ⟨zq_ne h_qla0 hPG.1 (by simp), fun i h1 h2 => ⟨zq_ne (hPG.2.1 i h1 h2).1 h_qla0 (by simp), (hrsD i h1 h2).2⟩⟩)
                refine lv_aload_n hx hb d_MT_take_149 rfl (lv_at hl 3 rfl) ?_
                refine zq_get hx hb hts i_MT hown hK hw h_o rfl 1 (by decide) (hts _ tw_154) rfl d_MT_take_150 ?_
                exact zq_aret hx hb hr (Or.inl ⟨_, rfl⟩) hlocks hZ hw ⟨pa, qa, _, _, rfl, ⟨dg, fc, dx, fx, h_o, h_d, hPGm, hPI, h_pr, h_qpr, hUp, h_on, h_qon, h_la, h_qla, zD_0, hpp, hon, hrsD, hopr, hors, hrp⟩, Or.inr ⟨fun z => by have z3 := z.2.2; split at z3 <;> omega, rfl⟩, fun i h1 h2 => ⟨i, h1, h2, rfl, rfl⟩, hfr⟩ d_MT_take_153
              · exact absurd hc53 (by decide)
          · refine lv_iload_n hx hb d_MT_take_93 rfl (lv_at hl 5 rfl) ?_
            refine lv_aload_n hx hb d_MT_take_94 rfl (lv_at hl 3 rfl) ?_
            refine zq_callV (As := []) (rest := [.int (iI xc)]) ⟨hx, hb, hml, hown, hts⟩ (c_ET_columns l D K M4 eo gA kA rw0 co0  h_e (by omega)) (cwV 0 hts (zg_V tw_403 tw_394 tw_395 tw_5 tw_396) rfl rfl rfl (by decide +kernel) ⟨Nat.le_of_ble_eq_true rfl, Nat.le_of_ble_eq_true rfl⟩) hZ hw hA h_e rfl rfl rfl rfl hl.1 (Nat.le_of_ble_eq_true rfl) d_MT_take_95 ⟨Nat.le_of_ble_eq_true rfl, Nat.le_of_ble_eq_true rfl⟩ (fun v M54 H locs hp hw => ?_)
            obtain ⟨rfl, hMe⟩ := hp
            rw [hMe] at hw
            refine W.eq (g2 := F0 m 98 ls [.int (iI co0), .int (iI xc)]) rfl ?_
            refine zq_icmp_ge (tgt := 105) hx hb d_MT_take_98 (by decide) hxc ⟨by omega, by omega⟩ (fun hc55 => ?_) (fun hc55 => ?_)
            · refine lv_iconst (v := iI 0) hx hb d_MT_take_105 rfl ?_
              refine lv_istore (lv' := [(6, .int (iI 0)), (5, .int (iI 1)), (4, .int (iI rw0)), (0, .ref o), (1, .ref eo), (2, .int (iI xr)), (3, .int (iI xc))]) hx hb d_MT_take_106 hl (by decide) rfl (fun ls hl => ?_)
              refine lv_iload hx hb d_MT_take_108 (lv_at hl 1 rfl) ?_
              refine zq_if_eq (tgt := 149) hx hb d_MT_take_110 (by decide) (by decide) (fun hc56 => ?_) (fun hc56 => ?_)
              · exact absurd hc56 (by decide)
              · refine lv_iload hx hb d_MT_take_113 (lv_at hl 0 rfl) ?_
                refine zq_if_eq (tgt := 149) hx hb d_MT_take_115 (by decide) (by decide) (fun hc57 => ?_) (fun hc57 => ?_)
                · have hPGm := zPG_S (fun q => q = o ∨ q = la ∨ q = qla) hPG (fun q hq => hft q (fun z => hq (Or.inl z)) (fun z => hq (Or.inr (Or.inl z))) (fun z => hq (Or.inr (Or.inr z)))) (fun q hq => by rcases hq with rfl | rfl | rfl; exact ⟨zq_ne h_o0 hPG.1 (by simp), fun i h1 h2 => ⟨zq_ne (hPG.2.1 i h1 h2).1 h_o0 (by simp), zq_ne (hPG.2.1 i h1 h2).2 h_o0 (by simp)⟩⟩; exact ⟨zq_ne h_la0 hPG.1 (by simp), fun i h1 h2 => ⟨(hrsD i h1 h2).1, zq_ne (hPG.2.1 i h1 h2).2 h_la0 (by simp)⟩⟩; exact ⟨zq_ne h_qla0 hPG.1 (by simp), fun i h1 h2 => ⟨zq_ne (hPG.2.1 i h1 h2).1 h_qla0 (by simp), (hrsD i h1 h2).2⟩⟩)
                  refine lv_aload_n hx hb d_MT_take_149 rfl (lv_at hl 3 rfl) ?_
                  refine zq_get hx hb hts i_MT hown hK hw h_o rfl 1 (by decide) (hts _ tw_154) rfl d_MT_take_150 ?_
                  exact zq_aret hx hb hr (Or.inl ⟨_, rfl⟩) hlocks hZ hw ⟨pa, qa, _, _, rfl, ⟨dg, fc, dx, fx, h_o, h_d, hPGm, hPI, h_pr, h_qpr, hUp, h_on, h_qon, h_la, h_qla, zD_0, hpp, hon, hrsD, hopr, hors, hrp⟩, Or.inr ⟨fun z => by have z3 := z.2.2; split at z3 <;> omega, rfl⟩, fun i h1 h2 => ⟨i, h1, h2, rfl, rfl⟩, hfr⟩ d_MT_take_153
                · exact absurd hc57 (by decide)
            · refine lv_iconst (v := iI 1) hx hb d_MT_take_101 rfl ?_
              refine lv_goto (tgt := 106) hx hb d_MT_take_102 (by decide) ?_
              refine lv_istore (lv' := [(6, .int (iI 1)), (5, .int (iI 1)), (4, .int (iI rw0)), (0, .ref o), (1, .ref eo), (2, .int (iI xr)), (3, .int (iI xc))]) hx hb d_MT_take_106 hl (by decide) rfl (fun ls hl => ?_)
              refine lv_iload hx hb d_MT_take_108 (lv_at hl 1 rfl) ?_
              refine zq_if_eq (tgt := 149) hx hb d_MT_take_110 (by decide) (by decide) (fun hc58 => ?_) (fun hc58 => ?_)
              · exact absurd hc58 (by decide)
              · refine lv_iload hx hb d_MT_take_113 (lv_at hl 0 rfl) ?_
                refine zq_if_eq (tgt := 149) hx hb d_MT_take_115 (by decide) (by decide) (fun hc59 => ?_) (fun hc59 => ?_)
                · exact absurd hc59 (by decide)
                · refine lv_iload hx hb d_MT_take_118 (lv_at hl 2 rfl) ?_
                  refine lv_aload_n hx hb d_MT_take_120 rfl (lv_at hl 4 rfl) ?_
                  refine zq_callV (As := []) (rest := [.int (iI rw0)]) ⟨hx, hb, hml, hown, hts⟩ (c_ET_columns l D K M4 eo gA kA rw0 co0  h_e (by omega)) (cwV 0 hts (zg_V tw_403 tw_394 tw_395 tw_5 tw_396) rfl rfl rfl (by decide +kernel) ⟨Nat.le_of_ble_eq_true rfl, Nat.le_of_ble_eq_true rfl⟩) hZ hw hA h_e rfl rfl rfl rfl hl.1 (Nat.le_of_ble_eq_true rfl) d_MT_take_121 ⟨Nat.le_of_ble_eq_true rfl, Nat.le_of_ble_eq_true rfl⟩ (fun v M60 H locs hp hw => ?_)
                  obtain ⟨rfl, hMe⟩ := hp
                  rw [hMe] at hw
                  refine W.eq (g2 := F0 m 124 ls [.int (iI co0), .int (iI rw0)]) rfl ?_
                  refine lv_iconst (v := iI 1) hx hb d_MT_take_124 rfl ?_
                  refine zq_isub hx hb d_MT_take_125 ?_
                  refine zq_icmp_ne (tgt := 149) hx hb d_MT_take_126 (by decide) ⟨by omega, by omega⟩ ⟨by omega, by omega⟩ (fun hc61 => ?_) (fun hc61 => ?_)
                  · have hPGm := zPG_S (fun q => q = o ∨ q = la ∨ q = qla) hPG (fun q hq => hft q (fun z => hq (Or.inl z)) (fun z => hq (Or.inr (Or.inl z))) (fun z => hq (Or.inr (Or.inr z)))) (fun q hq => by rcases hq with rfl | rfl | rfl; exact ⟨zq_ne h_o0 hPG.1 (by simp), fun i h1 h2 => ⟨zq_ne (hPG.2.1 i h1 h2).1 h_o0 (by simp), zq_ne (hPG.2.1 i h1 h2).2 h_o0 (by simp)⟩⟩; exact ⟨zq_ne h_la0 hPG.1 (by simp), fun i h1 h2 => ⟨(hrsD i h1 h2).1, zq_ne (hPG.2.1 i h1 h2).2 h_la0 (by simp)⟩⟩; exact ⟨zq_ne h_qla0 hPG.1 (by simp), fun i h1 h2 => ⟨zq_ne (hPG.2.1 i h1 h2).1 h_qla0 (by simp), (hrsD i h1 h2).2⟩⟩)
                    refine lv_aload_n hx hb d_MT_take_149 rfl (lv_at hl 3 rfl) ?_
                    refine zq_get hx hb hts i_MT hown hK hw h_o rfl 1 (by decide) (hts _ tw_154) rfl d_MT_take_150 ?_
                    exact zq_aret hx hb hr (Or.inl ⟨_, rfl⟩) hlocks hZ hw ⟨pa, qa, _, _, rfl, ⟨dg, fc, dx, fx, h_o, h_d, hPGm, hPI, h_pr, h_qpr, hUp, h_on, h_qon, h_la, h_qla, zD_0, hpp, hon, hrsD, hopr, hors, hrp⟩, Or.inr ⟨fun z => by have z3 := z.2.2; split at z3 <;> omega, rfl⟩, fun i h1 h2 => ⟨i, h1, h2, rfl, rfl⟩, hfr⟩ d_MT_take_153
                  · have hPGm := zPG_S (fun q => q = o ∨ q = la ∨ q = qla) hPG (fun q hq => hft q (fun z => hq (Or.inl z)) (fun z => hq (Or.inr (Or.inl z))) (fun z => hq (Or.inr (Or.inr z)))) (fun q hq => by rcases hq with rfl | rfl | rfl; exact ⟨zq_ne h_o0 hPG.1 (by simp), fun i h1 h2 => ⟨zq_ne (hPG.2.1 i h1 h2).1 h_o0 (by simp), zq_ne (hPG.2.1 i h1 h2).2 h_o0 (by simp)⟩⟩; exact ⟨zq_ne h_la0 hPG.1 (by simp), fun i h1 h2 => ⟨(hrsD i h1 h2).1, zq_ne (hPG.2.1 i h1 h2).2 h_la0 (by simp)⟩⟩; exact ⟨zq_ne h_qla0 hPG.1 (by simp), fun i h1 h2 => ⟨zq_ne (hPG.2.1 i h1 h2).1 h_qla0 (by simp), (hrsD i h1 h2).2⟩⟩)
                    have hG1m := zG_S (fun q => q = o ∨ q = la ∨ q = qla) hG1 (fun q hq => hft q (fun z => hq (Or.inl z)) (fun z => hq (Or.inr (Or.inl z))) (fun z => hq (Or.inr (Or.inr z)))) (fun q hq => by rcases hq with rfl | rfl | rfl; exact Or.inl ⟨_, h_o0⟩; exact Or.inl ⟨_, h_la0⟩; exact Or.inr (Or.inl ⟨_, h_qla0⟩))
                    have hG2m := zG_S (fun q => q = o ∨ q = la ∨ q = qla) hG2 (fun q hq => hft q (fun z => hq (Or.inl z)) (fun z => hq (Or.inr (Or.inl z))) (fun z => hq (Or.inr (Or.inr z)))) (fun q hq => by rcases hq with rfl | rfl | rfl; exact Or.inl ⟨_, h_o0⟩; exact Or.inl ⟨_, h_la0⟩; exact Or.inr (Or.inl ⟨_, h_qla0⟩))
                    refine lv_aload_n hx hb d_MT_take_129 rfl (lv_at hl 3 rfl) ?_
                    refine lv_aload_n hx hb d_MT_take_130 rfl (lv_at hl 4 rfl) ?_
                    refine lv_iload hx hb d_MT_take_131 (lv_at hl 2 rfl) ?_
                    refine zq_callV (As := [.ref eo, .int (iI rw0)]) (rest := []) ⟨hx, hb, hml, hown, hts⟩ (c_MT_fillCells l D K M4 o dt la xr xc 1 cA pr on pa qa dg fc eo gA kA ra rb rw0 co0 F G rw0 h_o h_d hPGm hPI h_e hG1m hG2m hE hFb hGb ⟨by omega, by omega⟩ ⟨by omega, by omega, by omega, by omega⟩) (cwV 2 hts (zg_V tw_404 tw_406 ts_15 tw_6 tw_407) rfl rfl rfl (by decide +kernel) ⟨Nat.le_of_ble_eq_true rfl, Nat.le_of_ble_eq_true rfl⟩) hZ hw hA h_o rfl rfl rfl rfl hl.1 (Nat.le_of_ble_eq_true rfl) d_MT_take_133 ⟨Nat.le_of_ble_eq_true rfl, Nat.le_of_ble_eq_true rfl⟩ (fun v M62 H locs hp hw => ?_)
                    obtain ⟨rfl, dg1, fc1, hP1, hPI1, hMx1, ho⟩ := hp
                    have h_o : M62 o = some (.inr (6, [.ref dt, .ref la, .int (iI xr), .int (iI xc), .int (iI 1)])) := (ho _ (fun i h1 h2 => zq_ne h_o (hPGm.2.1 i h1 h2).1 (by simp)) (fun i h1 h2 => zq_ne h_o (hPGm.2.1 i h1 h2).2 (by simp))).trans h_o
                    have h_d : M62 dt = some (.inr (3, [.ref cA, .ref pr, .ref on])) := (ho _ (fun i h1 h2 => zq_ne h_d (hPGm.2.1 i h1 h2).1 (by simp)) (fun i h1 h2 => zq_ne h_d (hPGm.2.1 i h1 h2).2 (by simp))).trans h_d
                    have h_e : M62 eo = some (.inr (5, [.ref gA, .ref kA, .int (iI rw0), .int (iI co0)])) := (ho _ (fun i h1 h2 => zq_ne h_e (hPGm.2.1 i h1 h2).1 (by simp)) (fun i h1 h2 => zq_ne h_e (hPGm.2.1 i h1 h2).2 (by simp))).trans h_e
                    have h_g : M62 gA = some (cQ (K 4) 12 (fun i => some (ra i))) := (ho _ (fun i h1 h2 => zq_ne h_g (hPGm.2.1 i h1 h2).1 (by simp)) (fun i h1 h2 => zq_ne h_g (hPGm.2.1 i h1 h2).2 (by simp))).trans h_g
                    have h_k : M62 kA = some (cQ (K 4) 12 (fun i => some (rb i))) := (ho _ (fun i h1 h2 => zq_ne h_k (hPGm.2.1 i h1 h2).1 (by simp)) (fun i h1 h2 => zq_ne h_k (hPGm.2.1 i h1 h2).2 (by simp))).trans h_k
                    have h_pr : M62 pr = some (.inr (8, [.ref qpr, .int (iI dx)])) := (ho _ (fun i h1 h2 => Ne.symm (hpp i h1 h2).1) (fun i h1 h2 => zq_ne h_pr (hPGm.2.1 i h1 h2).2 (by simp))).trans h_pr
                    have h_qpr : M62 qpr = some (cJ (K 1) 25 fx) := (ho _ (fun i h1 h2 => zq_ne h_qpr (hPGm.2.1 i h1 h2).1 (by simp)) (fun i h1 h2 => Ne.symm (hpp i h1 h2).2)).trans h_qpr
                    have h_on : M62 on = some (.inr (8, [.ref qon, .int (iI 0)])) := (ho _ (fun i h1 h2 => Ne.symm (hon i h1 h2).1) (fun i h1 h2 => zq_ne h_on (hPGm.2.1 i h1 h2).2 (by simp))).trans h_on
                    have h_qon : M62 qon = some (cJ (K 1) 25 (zu (zu (fun _ => 0) 0 1) 1 0)) := (ho _ (fun i h1 h2 => zq_ne h_qon (hPGm.2.1 i h1 h2).1 (by simp)) (fun i h1 h2 => Ne.symm (hon i h1 h2).2)).trans h_qon
                    have h_la : M62 la = some (.inr (8, [.ref qla, .int (iI (-1))])) := (ho _ (fun i h1 h2 => Ne.symm (hrsD i h1 h2).1) (fun i h1 h2 => zq_ne h_la (hPGm.2.1 i h1 h2).2 (by simp))).trans h_la
                    have h_qla : M62 qla = some (cJ (K 1) 25 (fun _ => 0)) := (ho _ (fun i h1 h2 => zq_ne h_qla (hPGm.2.1 i h1 h2).1 (by simp)) (fun i h1 h2 => Ne.symm (hrsD i h1 h2).2)).trans h_qla
                    have h_c := hP1.1
                    have hfr : ∀ q, q ≠ o → q ≠ cA → q ≠ pr → q ≠ qpr → (∀ i, 0 ≤ i → i < 144 → q ≠ pa i) → (∀ i, 0 ≤ i → i < 144 → q ≠ qa i) → q ≠ la → q ≠ qla → M62 q = M q := fun q g0 g1 g2 g3 g4 g5 g6 g7 => (ho q g4 g5).trans (hfr q g0 g1 g2 g3 g4 g5 g6 g7)
                    refine W.eq (g2 := F0 m 136 ls []) rfl ?_
                    refine lv_aload_n hx hb d_MT_take_136 rfl (lv_at hl 3 rfl) ?_
                    refine zq_get hx hb hts i_MT hown hK hw h_o rfl 0 (by decide) (hts _ tw_153) rfl d_MT_take_137 ?_
                    refine lv_iload hx hb d_MT_take_140 (lv_at hl 2 rfl) ?_
                    refine lv_aload_n hx hb d_MT_take_142 rfl (lv_at hl 3 rfl) ?_
                    refine zq_get hx hb hts i_MT hown hK hw h_o rfl 1 (by decide) (hts _ tw_154) rfl d_MT_take_143 ?_
                    refine zq_callV (As := [.int (iI rw0), .ref la]) (rest := []) ⟨hx, hb, hml, hown, hts⟩ (c_DT_evaluate l D K M62 dt cA pr on pa qa dg1 fc1 qpr dx fx qon la qla (-1) (fun _ => 0) rw0 h_d hP1 hPI1 h_pr h_qpr hUp h_on h_qon h_la h_qla (zU_new (by decide) (by decide)) hpp hon hrsD hopr hors hrp ⟨by omega, by omega⟩ (hHok xr xc rw0 fc1 ⟨by omega, by omega⟩ ⟨by omega, by omega⟩ (by rw [if_pos (by omega)]) (by omega) hMx1)) (cwV 2 hts (zg_V tw_427 tw_428 tw_429 tw_7 tw_430) rfl rfl rfl (by decide +kernel) ⟨Nat.le_of_ble_eq_true rfl, Nat.le_of_ble_eq_true rfl⟩) hZ hw hA h_d rfl rfl rfl rfl hl.1 (Nat.le_of_ble_eq_true rfl) d_MT_take_146 ⟨Nat.le_of_ble_eq_true rfl, Nat.le_of_ble_eq_true rfl⟩ (fun v M63 H locs hp hw => ?_)
                    obtain ⟨rfl, res, dr, pa1, qa1, dg2, fc2, dx2, fx2, hBo, hDr, hs1, hs2, hP2, hPI2, hSb, hUx2, hs3, hs4, ho⟩ := hp
                    have hP2a := hP2.1
                    have h_oN : M63 o = some (.inr (6, [.ref dt, .ref la, .int (iI xr), .int (iI xc), .int (iI 1)])) := (ho _ (zq_ne h_o h_c (by simp)) (zq_ne h_o h_pr (by simp)) (zq_ne h_o h_qpr (by simp)) (fun i h1 h2 => zq_ne h_o (hP1.2.1 i h1 h2).1 (by simp)) (fun i h1 h2 => zq_ne h_o (hP1.2.1 i h1 h2).2 (by simp)) (zq_ne h_o h_la (by simp)) (zq_ne h_o h_qla (by simp))).trans h_o
                    have h_dN : M63 dt = some (.inr (3, [.ref cA, .ref pr, .ref on])) := (ho _ (zq_ne h_d h_c (by simp)) (zq_ne h_d h_pr (by simp)) (zq_ne h_d h_qpr (by simp)) (fun i h1 h2 => zq_ne h_d (hP1.2.1 i h1 h2).1 (by simp)) (fun i h1 h2 => zq_ne h_d (hP1.2.1 i h1 h2).2 (by simp)) (zq_ne h_d h_la (by simp)) (zq_ne h_d h_qla (by simp))).trans h_d
                    have h_onN : M63 on = some (.inr (8, [.ref qon, .int (iI 0)])) := (ho _ (zq_ne h_on h_c (by simp)) hopr.1 (zq_ne h_on h_qpr (by simp)) (fun i h1 h2 => Ne.symm (hon i h1 h2).1) (fun i h1 h2 => zq_ne h_on (hP1.2.1 i h1 h2).2 (by simp)) hors.1 (zq_ne h_on h_qla (by simp))).trans h_on
                    have h_qonN : M63 qon = some (cJ (K 1) 25 (zu (zu (fun _ => 0) 0 1) 1 0)) := (ho _ (zq_ne h_qon h_c (by simp)) (zq_ne h_qon h_pr (by simp)) hopr.2 (fun i h1 h2 => zq_ne h_qon (hP1.2.1 i h1 h2).1 (by simp)) (fun i h1 h2 => Ne.symm (hon i h1 h2).2) (zq_ne h_qon h_la (by simp)) hors.2).trans h_qon
                    have h_o := h_oN
                    have h_d := h_dN
                    have h_on := h_onN
                    have h_qon := h_qonN
                    have h_la := hs1
                    have h_qla := hs2
                    have h_pr := hs3
                    have h_qpr := hs4
                    have hfr : ∀ q, q ≠ o → q ≠ cA → q ≠ pr → q ≠ qpr → (∀ i, 0 ≤ i → i < 144 → q ≠ pa i) → (∀ i, 0 ≤ i → i < 144 → q ≠ qa i) → q ≠ la → q ≠ qla → M63 q = M q := fun q g0 g1 g2 g3 g4 g5 g6 g7 => (ho q g1 g2 g3 g4 g5 g6 g7).trans (hfr q g0 g1 g2 g3 g4 g5 g6 g7)
                    refine W.eq (g2 := F0 m 149 ls []) rfl ?_
                    have hodE : co0 - 1 = rw0 := by omega
                    refine lv_aload_n hx hb d_MT_take_149 rfl (lv_at hl 3 rfl) ?_
                    refine zq_get hx hb hts i_MT hown hK hw h_o rfl 1 (by decide) (hts _ tw_154) rfl d_MT_take_150 ?_
                    exact zq_aret hx hb hr (Or.inl ⟨_, rfl⟩) hlocks hZ hw ⟨pa1, qa1, res, dr, rfl, ⟨dg2, fc2, dx2, fx2, h_o, h_d, hP2, hPI2, h_pr, h_qpr, hUx2, h_on, h_qon, h_la, h_qla, hDr, zSb_d hSb hpp, zSb_d hSb hon, zSb_d hSb hrsD, hopr, hors, hrp⟩, Or.inl ⟨⟨by omega, by omega⟩, ⟨by omega, by omega⟩, by split <;> omega, fc1, by rw [hodE]; exact hMx1, by rw [hodE]; exact hBo⟩, hSb, hfr⟩ d_MT_take_153
  refine lv_aload_n hx hb d_MT_take_0 rfl (lv_at hl 0 rfl) ?_
  refine zq_get hx hb hts i_MT hown hK hw h_o rfl 4 (by decide) (hts _ tw_157) rfl d_MT_take_1 ?_
  refine zq_if_eq (tgt := 28) hx hb d_MT_take_4 (by decide) ⟨by omega, by omega⟩ (fun hc64 => ?_) (fun hc64 => ?_)
  · exact hJ M _ _ _ rfl hfr h_o h_d h_c h_e h_g h_k h_pr h_qpr h_on h_qon h_la h_qla hw (lv_sub hl [0, 1, 2, 3] rfl)
  · refine lv_iload_n hx hb d_MT_take_7 rfl (lv_at hl 2 rfl) ?_
    refine lv_aload_n hx hb d_MT_take_8 rfl (lv_at hl 0 rfl) ?_
    refine zq_get hx hb hts i_MT hown hK hw h_o rfl 2 (by decide) (hts _ tw_155) rfl d_MT_take_9 ?_
    refine zq_icmp_ne (tgt := 28) hx hb d_MT_take_12 (by decide) hxr hlr1 (fun hc65 => ?_) (fun hc65 => ?_)
    · exact hJ M _ _ _ rfl hfr h_o h_d h_c h_e h_g h_k h_pr h_qpr h_on h_qon h_la h_qla hw (lv_sub hl [0, 1, 2, 3] rfl)
    · refine lv_iload_n hx hb d_MT_take_15 rfl (lv_at hl 3 rfl) ?_
      refine lv_aload_n hx hb d_MT_take_16 rfl (lv_at hl 0 rfl) ?_
      refine zq_get hx hb hts i_MT hown hK hw h_o rfl 3 (by decide) (hts _ tw_156) rfl d_MT_take_17 ?_
      refine zq_icmp_ne (tgt := 28) hx hb d_MT_take_20 (by decide) hxc hlr2 (fun hc66 => ?_) (fun hc66 => ?_)
      · exact hJ M _ _ _ rfl hfr h_o h_d h_c h_e h_g h_k h_pr h_qpr h_on h_qon h_la h_qla hw (lv_sub hl [0, 1, 2, 3] rfl)
      · refine lv_aload_n hx hb d_MT_take_23 rfl (lv_at hl 0 rfl) ?_
        refine zq_get hx hb hts i_MT hown hK hw h_o rfl 1 (by decide) (hts _ tw_154) rfl d_MT_take_24 ?_
        exact zq_aret hx hb hr (Or.inl ⟨_, rfl⟩) hlocks hZ hw ⟨pa, qa, fl, dl, rfl, by rw [show xr = lr from by omega, show xc = lc from by omega]; rw [show kn = 1 from by omega] at h_o; exact ⟨dg, fc, dx, fx, h_o, h_d, hPG, hPI, h_pr, h_qpr, hUp, h_on, h_qon, h_la, h_qla, hDl, hpp, hon, hrsD, hopr, hors, hrp⟩, by rw [show xr = lr from by omega, show xc = lc from by omega]; exact hkn (by omega), fun i h1 h2 => ⟨i, h1, h2, rfl, rfl⟩, hfr⟩ d_MT_take_27
