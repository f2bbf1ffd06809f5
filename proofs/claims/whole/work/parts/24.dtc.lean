abbrev P_DT_clearBelow (K : Nat → ClassId) (M : zq_M) (o : Nat) (cA : Nat) (pr : Nat) (on : Nat) (pa : Int → Nat) (qa : Int → Nat) (dg : Int → Int) (fc : Int → Int → Int) (qpr : Nat) (dpr : Int) (fpr : Int → Int) (ap : Nat) (aq : Nat) (dp : Int) (fp : Int → Int) (st0 : Int) (od : Int) (Qt : Int → Int → Int → Int) (dQ : Int → Int → Int) : Option Value → zq_M → Prop := fun v M' => v = none ∧ ∃ dx fx, zU fx dx ∧ zPG K M' cA pa qa (zup2 st0 od (st0 + 1) od dQ dg) (zup2 st0 od (st0 + 1) od Qt fc) ∧ M' pr = some (.inr (8, [.ref qpr, .int (iI dx)])) ∧ M' qpr = some (cJ (K 1) 25 fx) ∧ ∀ q, q ≠ pr → q ≠ qpr → (∀ i, 0 ≤ i → i < 144 → q ≠ pa i) → (∀ i, 0 ≤ i → i < 144 → q ≠ qa i) → M' q = M q
set_option maxHeartbeats 4000000 in
set_option maxRecDepth 100000 in
theorem c_DT_clearBelow (l : Launch) (D : va_G) (K : Nat → ClassId) (M : zq_M) (o : Nat) (cA : Nat) (pr : Nat) (on : Nat) (pa : Int → Nat) (qa : Int → Nat) (dg : Int → Int) (fc : Int → Int → Int) (qpr : Nat) (dpr : Int) (fpr : Int → Int) (ap : Nat) (aq : Nat) (dp : Int) (fp : Int → Int) (st0 : Int) (od : Int) (Qt : Int → Int → Int → Int) (dQ : Int → Int → Int) (h_o : M o = some (.inr (3, [.ref cA, .ref pr, .ref on]))) (hPG : zPG K M cA pa qa dg fc) (hdg : ∀ i, 0 ≤ i → i < 144 → zD (fc i) (dg i)) (hbd : ∀ i, 0 ≤ i → i < 144 → zB (fc i) ∧ dg i ≤ 12) (h_pr : M pr = some (.inr (8, [.ref qpr, .int (iI dpr)]))) (h_qpr : M qpr = some (cJ (K 1) 25 fpr)) (hUp : zU fpr dpr) (h_ap : M ap = some (.inr (8, [.ref aq, .int (iI dp)]))) (h_aq : M aq = some (cJ (K 1) 25 fp)) (hDp : zD fp dp) (hdp : 0 ≤ dp) (hBp : zB fp ∧ dp ≤ 12) (hpp : ∀ i, 0 ≤ i → i < 144 → pa i ≠ pr ∧ qa i ≠ qpr) (hpv : ∀ i, 0 ≤ i → i < 144 → st0 < i / 12 → pa i ≠ ap ∧ qa i ≠ aq) (hapr : ap ≠ pr ∧ aq ≠ qpr) (hk : 0 ≤ st0 ∧ st0 < od ∧ od ≤ 12) (hQ : ∀ r c, st0 < r → r < od → st0 < c → c < od → zD (Qt r c) (dQ r c) ∧ dQ r c ≤ 12 ∧ zB (Qt r c) ∧ ∀ j, zcv (fc (st0 * 12 + st0)) (fc (r * 12 + c)) j 25 - zcv (fc (r * 12 + st0)) (fc (st0 * 12 + c)) j 25 = zcv (Qt r c) fp j 25) : zq_Met l y_DT_clearBelow (.code y_DT_clearBelow b_DT_clearBelow 9 none :: lw_gd) { frames := 2, cells := 0, slots := 0, locals := 56 } D vwCl (zT K) [.ref o, .int (iI st0), .int (iI od), .ref ap] M (P_DT_clearBelow K M o cA pr on pa qa dg fc qpr dpr fpr ap aq dp fp st0 od Qt dQ) 0 0 := by
  refine zq_start (cc := b_DT_clearBelow) (maxL := 9) (ret := none) (by decide) rfl (Nat.le_of_ble_eq_true rfl) ?_
  intro p e s m below meth co A ls hx hb hr hml hts hown hnm hlocks hA hZ hw hl
  have hts : ∀ w ∈ lw_gd, w.before [.ref o, .int (iI st0), .int (iI od), .ref ap].toArray s = true := fun w h => hts w (List.mem_cons_of_mem _ h)
  have hown : s.vm.findClass R_DT = some m.cls := hown
  have hK := hZ.1
  have hl : lv_has ls 9 [(0, .ref o), (1, .int (iI st0)), (2, .int (iI od)), (3, .ref ap)] := hl
  have hfr : ∀ q, q ≠ pr → q ≠ qpr → (∀ i, 0 ≤ i → i < 144 → q ≠ pa i) → (∀ i, 0 ≤ i → i < 144 → q ≠ qa i) → M q = M q := fun q _ _ _ _ => rfl
  have h_c := hPG.1
  obtain ⟨hp1, hp2⟩ := zD_le hDp
  have hO : ∀ (n : Nat) (i : Int) (dx : Int) (fx : Int → Int) (Mz : zq_M) (H : Heap) (locs : List Loc) (ls : Array Slot), (st0 < i ∧ (i ≤ od ∨ i = st0 + 1)) → (zPG K Mz cA pa qa (zup2 st0 i (st0 + 1) od dQ dg) (zup2 st0 i (st0 + 1) od Qt fc)) → (zU fx dx) → (od - i).toNat < n → (∀ q, q ≠ pr → q ≠ qpr → (∀ i, 0 ≤ i → i < 144 → q ≠ pa i) → (∀ i, 0 ≤ i → i < 144 → q ≠ qa i) → Mz q = M q) → Mz o = some (.inr (3, [.ref cA, .ref pr, .ref on])) → Mz cA = some (cQ (K 3) 144 (fun i => some (pa i))) → Mz pr = some (.inr (8, [.ref qpr, .int (iI dx)])) → Mz qpr = some (cJ (K 1) 25 fx) → Mz ap = some (.inr (8, [.ref aq, .int (iI dp)])) → Mz aq = some (cJ (K 1) 25 fp) → zq_W D vwCl A s.heap Mz H locs → lv_has ls 9 [(0, .ref o), (1, .int (iI st0)), (2, .int (iI od)), (3, .ref ap), (4, .ref (pa (st0 * 12 + st0))), (5, .int (iI i))] → W p l e ({ frames := 2, cells := 0, slots := 0, locals := 56 } : Room) s m [.ref o, .int (iI st0), .int (iI od), .ref ap].toArray below meth co H locs 0 0 (MQ below (zq_Q D vwCl (zT K) (P_DT_clearBelow K M o cA pr on pa qa dg fc qpr dpr fpr ap aq dp fp st0 od Qt dQ) A) [.ref o, .int (iI st0), .int (iI od), .ref ap].toArray s 0 0 A) (F0 m 13 ls []) := by
    intro n
    induction n with
    | zero =>
      intro i dx fx Mz H locs ls hi hF hUx hms hfr h_o h_c h_pr h_qpr h_ap h_aq hw hl
      exact absurd hms (Nat.not_lt_zero _)
    | succ n ih_hO =>
      intro i dx fx Mz H locs ls hi hF hUx hms hfr h_o h_c h_pr h_qpr h_ap h_aq hw hl
      have hN : ∀ (n : Nat) (jj : Int) (dx : Int) (fx : Int → Int) (Mq : zq_M) (H : Heap) (locs : List Loc) (ls : Array Slot), (st0 < jj ∧ (jj ≤ od ∨ jj = st0 + 1) ∧ i < od) → (zPG K Mq cA pa qa (zup2 st0 i jj od dQ dg) (zup2 st0 i jj od Qt fc)) → (zU fx dx) → (od - jj).toNat < n → (∀ q, q ≠ pr → q ≠ qpr → (∀ i, 0 ≤ i → i < 144 → q ≠ pa i) → (∀ i, 0 ≤ i → i < 144 → q ≠ qa i) → Mq q = M q) → Mq o = some (.inr (3, [.ref cA, .ref pr, .ref on])) → Mq cA = some (cQ (K 3) 144 (fun i => some (pa i))) → Mq pr = some (.inr (8, [.ref qpr, .int (iI dx)])) → Mq qpr = some (cJ (K 1) 25 fx) → Mq ap = some (.inr (8, [.ref aq, .int (iI dp)])) → Mq aq = some (cJ (K 1) 25 fp) → zq_W D vwCl A s.heap Mq H locs → lv_has ls 9 [(0, .ref o), (1, .int (iI st0)), (2, .int (iI od)), (3, .ref ap), (4, .ref (pa (st0 * 12 + st0))), (5, .int (iI i)), (6, .ref (pa (i * 12 + st0))), (7, .int (iI jj))] → W p l e ({ frames := 2, cells := 0, slots := 0, locals := 56 } : Room) s m [.ref o, .int (iI st0), .int (iI od), .ref ap].toArray below meth co H locs 0 0 (MQ below (zq_Q D vwCl (zT K) (P_DT_clearBelow K M o cA pr on pa qa dg fc qpr dpr fpr ap aq dp fp st0 od Qt dQ) A) [.ref o, .int (iI st0), .int (iI od), .ref ap].toArray s 0 0 A) (F0 m 33 ls []) := by
        intro n
        induction n with
        | zero =>
          intro jj dx fx Mq H locs ls hj hF2 hUx hms hfr h_o h_c h_pr h_qpr h_ap h_aq hw hl
          exact absurd hms (Nat.not_lt_zero _)
        | succ n ih_hN =>
          intro jj dx fx Mq H locs ls hj hF2 hUx hms hfr h_o h_c h_pr h_qpr h_ap h_aq hw hl
          refine lv_iload hx hb d_DT_clearBelow_33 (lv_at hl 7 rfl) ?_
          refine lv_iload_n hx hb d_DT_clearBelow_35 rfl (lv_at hl 2 rfl) ?_
          refine zq_icmp_ge (tgt := 103) hx hb d_DT_clearBelow_36 (by decide) ⟨by omega, by omega⟩ ⟨by omega, by omega⟩ (fun hc1 => ?_) (fun hc1 => ?_)
          · refine lv_iinc (v := iI (i + 1)) (lv' := [(5, .int (iI (i + 1))), (0, .ref o), (1, .int (iI st0)), (2, .int (iI od)), (3, .ref ap), (4, .ref (pa (st0 * 12 + st0))), (6, .ref (pa (i * 12 + st0))), (7, .int (iI jj))]) hx hb d_DT_clearBelow_103 hl (k := 5) rfl (iI_add _ _) (by decide) rfl (fun ls hl => ?_)
            refine lv_goto (tgt := 13) hx hb d_DT_clearBelow_106 (by decide) ?_
            exact ih_hO (i + 1) dx fx Mq _ _ _ (by omega) (by rw [← zup2_row (j := jj) (by omega) (by omega), ← zup2_row (j := jj) (by omega) (by omega)]; exact hF2) hUx (by omega) hfr h_o h_c h_pr h_qpr h_ap h_aq hw (lv_sub hl [1, 2, 3, 4, 5, 0] rfl)
          · have hfb : ∀ q, q ≠ pr → q ≠ qpr → q ≠ (pa (i * 12 + jj)) → q ≠ (qa (i * 12 + jj)) → Mq q = Mq q := fun q _ _ _ _ => rfl
            obtain ⟨h_pv, h_pvq⟩ : Mq (pa (st0 * 12 + st0)) = some (.inr (8, [.ref (qa (st0 * 12 + st0)), .int (iI (dg (st0 * 12 + st0)))])) ∧ Mq (qa (st0 * 12 + st0)) = some (cJ (K 1) 25 (fc (st0 * 12 + st0))) := by have h9 := hF2.2.1 (st0 * 12 + st0) (by omega) (by omega); rw [zup2_old (by omega), zup2_old (by omega)] at h9; exact h9
            have hD_pv := hdg (st0 * 12 + st0) (by omega) (by omega)
            have hB_pv := hbd (st0 * 12 + st0) (by omega) (by omega)
            obtain ⟨hd_pv1, hd_pv2⟩ := zD_le hD_pv
            have hd_pv3 := hB_pv.2
            obtain ⟨h_lf, h_lfq⟩ : Mq (pa (i * 12 + st0)) = some (.inr (8, [.ref (qa (i * 12 + st0)), .int (iI (dg (i * 12 + st0)))])) ∧ Mq (qa (i * 12 + st0)) = some (cJ (K 1) 25 (fc (i * 12 + st0))) := by have h9 := hF2.2.1 (i * 12 + st0) (by omega) (by omega); rw [zup2_old (by omega), zup2_old (by omega)] at h9; exact h9
            have hD_lf := hdg (i * 12 + st0) (by omega) (by omega)
            have hB_lf := hbd (i * 12 + st0) (by omega) (by omega)
            obtain ⟨hd_lf1, hd_lf2⟩ := zD_le hD_lf
            have hd_lf3 := hB_lf.2
            obtain ⟨h_hr, h_hrq⟩ : Mq (pa (i * 12 + jj)) = some (.inr (8, [.ref (qa (i * 12 + jj)), .int (iI (dg (i * 12 + jj)))])) ∧ Mq (qa (i * 12 + jj)) = some (cJ (K 1) 25 (fc (i * 12 + jj))) := by have h9 := hF2.2.1 (i * 12 + jj) (by omega) (by omega); rw [zup2_old (by omega), zup2_old (by omega)] at h9; exact h9
            have hD_hr := hdg (i * 12 + jj) (by omega) (by omega)
            have hB_hr := hbd (i * 12 + jj) (by omega) (by omega)
            obtain ⟨hd_hr1, hd_hr2⟩ := zD_le hD_hr
            have hd_hr3 := hB_hr.2
            obtain ⟨h_tp, h_tpq⟩ : Mq (pa (st0 * 12 + jj)) = some (.inr (8, [.ref (qa (st0 * 12 + jj)), .int (iI (dg (st0 * 12 + jj)))])) ∧ Mq (qa (st0 * 12 + jj)) = some (cJ (K 1) 25 (fc (st0 * 12 + jj))) := by have h9 := hF2.2.1 (st0 * 12 + jj) (by omega) (by omega); rw [zup2_old (by omega), zup2_old (by omega)] at h9; exact h9
            have hD_tp := hdg (st0 * 12 + jj) (by omega) (by omega)
            have hB_tp := hbd (st0 * 12 + jj) (by omega) (by omega)
            obtain ⟨hd_tp1, hd_tp2⟩ := zD_le hD_tp
            have hd_tp3 := hB_tp.2
            obtain ⟨hQ1, hQ2, hQ3, hQ4⟩ := hQ i jj (by omega) (by omega) (by omega) (by omega)
            have h_prZ := h_pr
            have h_qprZ := h_qpr
            refine lv_aload_n hx hb d_DT_clearBelow_39 rfl (lv_at hl 0 rfl) ?_
            refine lv_iload hx hb d_DT_clearBelow_40 (lv_at hl 5 rfl) ?_
            refine lv_iload hx hb d_DT_clearBelow_42 (lv_at hl 7 rfl) ?_
            refine zq_callV (As := [.int (iI i), .int (iI jj)]) (rest := []) ⟨hx, hb, hml, hown, hts⟩ (c_DT_cell l D K Mq o cA pr on pa i jj h_o h_c ⟨by omega, by omega⟩ ⟨by omega, by omega⟩) (cwV 2 hts (zg_V tw_423 tw_425 ts_16 tw_7 tw_426) rfl rfl rfl (by decide +kernel) ⟨Nat.le_of_ble_eq_true rfl, Nat.le_of_ble_eq_true rfl⟩) hZ hw hA h_o rfl rfl rfl rfl hl.1 (Nat.le_of_ble_eq_true rfl) d_DT_clearBelow_44 ⟨Nat.le_of_ble_eq_true rfl, Nat.le_of_ble_eq_true rfl⟩ (fun v M2 H locs hp hw => ?_)
            obtain ⟨rfl, hMe⟩ := hp
            rw [hMe] at hw
            refine W.eq (g2 := F0 m 47 ls [.ref (pa (i * 12 + jj))]) rfl ?_
            refine lv_astore (lv' := [(8, .ref (pa (i * 12 + jj))), (0, .ref o), (1, .int (iI st0)), (2, .int (iI od)), (3, .ref ap), (4, .ref (pa (st0 * 12 + st0))), (5, .int (iI i)), (6, .ref (pa (i * 12 + st0))), (7, .int (iI jj))]) hx hb d_DT_clearBelow_47 hl (by decide) rfl (fun ls hl => ?_)
            refine lv_aload_n hx hb d_DT_clearBelow_49 rfl (lv_at hl 1 rfl) ?_
            refine zq_get hx hb hts i_DT hown hK hw h_o rfl 1 (by decide) (hts _ tw_142) rfl d_DT_clearBelow_50 ?_
            refine zq_callV (As := []) (rest := []) ⟨hx, hb, hml, hown, hts⟩ (c_PO_setZero l D K Mq pr qpr dx fx h_pr h_qpr hUx) (cwV 0 hts (zg_V tw_431 tw_134 tw_135 tw_8 tw_136) rfl rfl rfl (by decide +kernel) ⟨Nat.le_of_ble_eq_true rfl, Nat.le_of_ble_eq_true rfl⟩) hZ hw hA h_pr rfl rfl rfl rfl hl.1 (Nat.le_of_ble_eq_true rfl) d_DT_clearBelow_53 ⟨Nat.le_of_ble_eq_true rfl, Nat.le_of_ble_eq_true rfl⟩ (fun v M3 H locs hp hw => ?_)
            obtain ⟨rfl, hs1, hs2, ho⟩ := hp
            have h_o : M3 o = some (.inr (3, [.ref cA, .ref pr, .ref on])) := (ho _ (zq_ne h_o h_pr (by simp)) (zq_ne h_o h_qpr (by simp))).trans h_o
            have h_c : M3 cA = some (cQ (K 3) 144 (fun i => some (pa i))) := (ho _ (zq_ne h_c h_pr (by simp)) (zq_ne h_c h_qpr (by simp))).trans h_c
            have h_ap : M3 ap = some (.inr (8, [.ref aq, .int (iI dp)])) := (ho _ hapr.1 (zq_ne h_ap h_qpr (by simp))).trans h_ap
            have h_aq : M3 aq = some (cJ (K 1) 25 fp) := (ho _ (zq_ne h_aq h_pr (by simp)) hapr.2).trans h_aq
            have h_pv : M3 (pa (st0 * 12 + st0)) = some (.inr (8, [.ref (qa (st0 * 12 + st0)), .int (iI (dg (st0 * 12 + st0)))])) := (ho _ (hpp (st0 * 12 + st0) (by omega) (by omega)).1 (zq_ne h_pv h_qpr (by simp))).trans h_pv
            have h_pvq : M3 (qa (st0 * 12 + st0)) = some (cJ (K 1) 25 (fc (st0 * 12 + st0))) := (ho _ (zq_ne h_pvq h_pr (by simp)) (hpp (st0 * 12 + st0) (by omega) (by omega)).2).trans h_pvq
            have h_lf : M3 (pa (i * 12 + st0)) = some (.inr (8, [.ref (qa (i * 12 + st0)), .int (iI (dg (i * 12 + st0)))])) := (ho _ (hpp (i * 12 + st0) (by omega) (by omega)).1 (zq_ne h_lf h_qpr (by simp))).trans h_lf
            have h_lfq : M3 (qa (i * 12 + st0)) = some (cJ (K 1) 25 (fc (i * 12 + st0))) := (ho _ (zq_ne h_lfq h_pr (by simp)) (hpp (i * 12 + st0) (by omega) (by omega)).2).trans h_lfq
            have h_hr : M3 (pa (i * 12 + jj)) = some (.inr (8, [.ref (qa (i * 12 + jj)), .int (iI (dg (i * 12 + jj)))])) := (ho _ (hpp (i * 12 + jj) (by omega) (by omega)).1 (zq_ne h_hr h_qpr (by simp))).trans h_hr
            have h_hrq : M3 (qa (i * 12 + jj)) = some (cJ (K 1) 25 (fc (i * 12 + jj))) := (ho _ (zq_ne h_hrq h_pr (by simp)) (hpp (i * 12 + jj) (by omega) (by omega)).2).trans h_hrq
            have h_tp : M3 (pa (st0 * 12 + jj)) = some (.inr (8, [.ref (qa (st0 * 12 + jj)), .int (iI (dg (st0 * 12 + jj)))])) := (ho _ (hpp (st0 * 12 + jj) (by omega) (by omega)).1 (zq_ne h_tp h_qpr (by simp))).trans h_tp
            have h_tpq : M3 (qa (st0 * 12 + jj)) = some (cJ (K 1) 25 (fc (st0 * 12 + jj))) := (ho _ (zq_ne h_tpq h_pr (by simp)) (hpp (st0 * 12 + jj) (by omega) (by omega)).2).trans h_tpq
            have h_pr : M3 pr = some (.inr (8, [.ref qpr, .int (iI (-1))])) := hs1
            have h_qpr : M3 qpr = some (cJ (K 1) 25 (fun _ => 0)) := hs2
            have hfr : ∀ q, q ≠ pr → q ≠ qpr → (∀ i, 0 ≤ i → i < 144 → q ≠ pa i) → (∀ i, 0 ≤ i → i < 144 → q ≠ qa i) → M3 q = M q := fun q g0 g1 g2 g3 => (ho q g0 g1).trans (hfr q g0 g1 g2 g3)
            have hfb : ∀ q, q ≠ pr → q ≠ qpr → q ≠ (pa (i * 12 + jj)) → q ≠ (qa (i * 12 + jj)) → M3 q = Mq q := fun q g0 g1 g2 g3 => (ho q g0 g1).trans (hfb q g0 g1 g2 g3)
            refine W.eq (g2 := F0 m 56 ls []) rfl ?_
            refine lv_aload_n hx hb d_DT_clearBelow_56 rfl (lv_at hl 1 rfl) ?_
            refine zq_get hx hb hts i_DT hown hK hw h_o rfl 1 (by decide) (hts _ tw_142) rfl d_DT_clearBelow_57 ?_
            refine lv_aload hx hb d_DT_clearBelow_60 (lv_at hl 5 rfl) ?_
            refine lv_aload hx hb d_DT_clearBelow_62 (lv_at hl 0 rfl) ?_
            refine lv_lconst (v := iL 1) hx hb d_DT_clearBelow_64 (by decide) ?_
            refine zq_callV (As := [.ref (pa (st0 * 12 + st0)), .ref (pa (i * 12 + jj)), .long (iL 1)]) (rest := []) ⟨hx, hb, hml, hown, hts⟩ (c_PO_addProduct l D K M3 pr qpr (pa (st0 * 12 + st0)) (qa (st0 * 12 + st0)) (pa (i * 12 + jj)) (qa (i * 12 + jj)) (-1) (fun _ => 0) (dg (st0 * 12 + st0)) (fc (st0 * 12 + st0)) (dg (i * 12 + jj)) (fc (i * 12 + jj)) 1 h_pr h_qpr h_pv h_pvq h_hr h_hrq (Ne.symm (hpp (st0 * 12 + st0) (by omega) (by omega)).1) (Ne.symm (hpp (st0 * 12 + st0) (by omega) (by omega)).2) (Ne.symm (hpp (i * 12 + jj) (by omega) (by omega)).1) (Ne.symm (hpp (i * 12 + jj) (by omega) (by omega)).2) zU_0 (zD_U hD_pv) (zD_U hD_hr) (by omega) (fun j => by have := hB_pv.1 j; exact ⟨by omega, by omega⟩) (fun j => by have h1 := zcv_bd hB_pv.1 hB_hr.1 j (dg (st0 * 12 + st0) + 1).toNat; exact ⟨by show _ ≤ (0 : Int) + 1 * _; omega, by show (0 : Int) + 1 * _ < _; omega⟩)) (cwV 3 hts (zg_V tw_448 tw_449 tw_450 tw_8 tw_451) rfl rfl rfl (by decide +kernel) ⟨Nat.le_of_ble_eq_true rfl, Nat.le_of_ble_eq_true rfl⟩) hZ hw hA h_pr rfl rfl rfl rfl hl.1 (Nat.le_of_ble_eq_true rfl) d_DT_clearBelow_65 ⟨Nat.le_of_ble_eq_true rfl, Nat.le_of_ble_eq_true rfl⟩ (fun v M5 H locs hp hw => ?_)
            obtain ⟨rfl, dd4, hDdd4, hs1, hs2, ho⟩ := hp
            have h_o : M5 o = some (.inr (3, [.ref cA, .ref pr, .ref on])) := (ho _ (zq_ne h_o h_pr (by simp)) (zq_ne h_o h_qpr (by simp))).trans h_o
            have h_c : M5 cA = some (cQ (K 3) 144 (fun i => some (pa i))) := (ho _ (zq_ne h_c h_pr (by simp)) (zq_ne h_c h_qpr (by simp))).trans h_c
            have h_ap : M5 ap = some (.inr (8, [.ref aq, .int (iI dp)])) := (ho _ hapr.1 (zq_ne h_ap h_qpr (by simp))).trans h_ap
            have h_aq : M5 aq = some (cJ (K 1) 25 fp) := (ho _ (zq_ne h_aq h_pr (by simp)) hapr.2).trans h_aq
            have h_pv : M5 (pa (st0 * 12 + st0)) = some (.inr (8, [.ref (qa (st0 * 12 + st0)), .int (iI (dg (st0 * 12 + st0)))])) := (ho _ (hpp (st0 * 12 + st0) (by omega) (by omega)).1 (zq_ne h_pv h_qpr (by simp))).trans h_pv
            have h_pvq : M5 (qa (st0 * 12 + st0)) = some (cJ (K 1) 25 (fc (st0 * 12 + st0))) := (ho _ (zq_ne h_pvq h_pr (by simp)) (hpp (st0 * 12 + st0) (by omega) (by omega)).2).trans h_pvq
            have h_lf : M5 (pa (i * 12 + st0)) = some (.inr (8, [.ref (qa (i * 12 + st0)), .int (iI (dg (i * 12 + st0)))])) := (ho _ (hpp (i * 12 + st0) (by omega) (by omega)).1 (zq_ne h_lf h_qpr (by simp))).trans h_lf
            have h_lfq : M5 (qa (i * 12 + st0)) = some (cJ (K 1) 25 (fc (i * 12 + st0))) := (ho _ (zq_ne h_lfq h_pr (by simp)) (hpp (i * 12 + st0) (by omega) (by omega)).2).trans h_lfq
            have h_hr : M5 (pa (i * 12 + jj)) = some (.inr (8, [.ref (qa (i * 12 + jj)), .int (iI (dg (i * 12 + jj)))])) := (ho _ (hpp (i * 12 + jj) (by omega) (by omega)).1 (zq_ne h_hr h_qpr (by simp))).trans h_hr
            have h_hrq : M5 (qa (i * 12 + jj)) = some (cJ (K 1) 25 (fc (i * 12 + jj))) := (ho _ (zq_ne h_hrq h_pr (by simp)) (hpp (i * 12 + jj) (by omega) (by omega)).2).trans h_hrq
            have h_tp : M5 (pa (st0 * 12 + jj)) = some (.inr (8, [.ref (qa (st0 * 12 + jj)), .int (iI (dg (st0 * 12 + jj)))])) := (ho _ (hpp (st0 * 12 + jj) (by omega) (by omega)).1 (zq_ne h_tp h_qpr (by simp))).trans h_tp
            have h_tpq : M5 (qa (st0 * 12 + jj)) = some (cJ (K 1) 25 (fc (st0 * 12 + jj))) := (ho _ (zq_ne h_tpq h_pr (by simp)) (hpp (st0 * 12 + jj) (by omega) (by omega)).2).trans h_tpq
            have h_pr : M5 pr = some (.inr (8, [.ref qpr, .int (iI dd4)])) := hs1
            have h_qpr : M5 qpr = some (cJ (K 1) 25 (fun j => (fun _ => 0) j + 1 * zcv (fc (st0 * 12 + st0)) (fc (i * 12 + jj)) j ((dg (st0 * 12 + st0)) + 1).toNat)) := hs2
            have hfr : ∀ q, q ≠ pr → q ≠ qpr → (∀ i, 0 ≤ i → i < 144 → q ≠ pa i) → (∀ i, 0 ≤ i → i < 144 → q ≠ qa i) → M5 q = M q := fun q g0 g1 g2 g3 => (ho q g0 g1).trans (hfr q g0 g1 g2 g3)
            have hfb : ∀ q, q ≠ pr → q ≠ qpr → q ≠ (pa (i * 12 + jj)) → q ≠ (qa (i * 12 + jj)) → M5 q = Mq q := fun q g0 g1 g2 g3 => (ho q g0 g1).trans (hfb q g0 g1 g2 g3)
            refine W.eq (g2 := F0 m 68 ls []) rfl ?_
            refine lv_aload_n hx hb d_DT_clearBelow_68 rfl (lv_at hl 1 rfl) ?_
            refine zq_get hx hb hts i_DT hown hK hw h_o rfl 1 (by decide) (hts _ tw_142) rfl d_DT_clearBelow_69 ?_
            refine lv_aload hx hb d_DT_clearBelow_72 (lv_at hl 7 rfl) ?_
            refine lv_aload_n hx hb d_DT_clearBelow_74 rfl (lv_at hl 1 rfl) ?_
            refine lv_iload_n hx hb d_DT_clearBelow_75 rfl (lv_at hl 2 rfl) ?_
            refine lv_iload hx hb d_DT_clearBelow_76 (lv_at hl 8 rfl) ?_
            refine zq_callV (As := [.int (iI st0), .int (iI jj)]) (rest := [.ref (pa (i * 12 + st0)), .ref pr]) ⟨hx, hb, hml, hown, hts⟩ (c_DT_cell l D K M5 o cA pr on pa st0 jj h_o h_c ⟨by omega, by omega⟩ ⟨by omega, by omega⟩) (cwV 2 hts (zg_V tw_423 tw_425 ts_16 tw_7 tw_426) rfl rfl rfl (by decide +kernel) ⟨Nat.le_of_ble_eq_true rfl, Nat.le_of_ble_eq_true rfl⟩) hZ hw hA h_o rfl rfl rfl rfl hl.1 (Nat.le_of_ble_eq_true rfl) d_DT_clearBelow_78 ⟨Nat.le_of_ble_eq_true rfl, Nat.le_of_ble_eq_true rfl⟩ (fun v M6 H locs hp hw => ?_)
            obtain ⟨rfl, hMe⟩ := hp
            rw [hMe] at hw
            refine W.eq (g2 := F0 m 81 ls [.ref (pa (st0 * 12 + jj)), .ref (pa (i * 12 + st0)), .ref pr]) rfl ?_
            refine lv_ldc2 (v := iL (-1)) hx hb hown (hts _ tw_460) d_DT_clearBelow_81 ?_
            refine zq_callV (As := [.ref (pa (i * 12 + st0)), .ref (pa (st0 * 12 + jj)), .long (iL (-1))]) (rest := []) ⟨hx, hb, hml, hown, hts⟩ (c_PO_addProduct l D K M5 pr qpr (pa (i * 12 + st0)) (qa (i * 12 + st0)) (pa (st0 * 12 + jj)) (qa (st0 * 12 + jj)) dd4 (fun j => (fun _ => 0) j + 1 * zcv (fc (st0 * 12 + st0)) (fc (i * 12 + jj)) j ((dg (st0 * 12 + st0)) + 1).toNat) (dg (i * 12 + st0)) (fc (i * 12 + st0)) (dg (st0 * 12 + jj)) (fc (st0 * 12 + jj)) (-1) h_pr h_qpr h_lf h_lfq h_tp h_tpq (Ne.symm (hpp (i * 12 + st0) (by omega) (by omega)).1) (Ne.symm (hpp (i * 12 + st0) (by omega) (by omega)).2) (Ne.symm (hpp (st0 * 12 + jj) (by omega) (by omega)).1) (Ne.symm (hpp (st0 * 12 + jj) (by omega) (by omega)).2) (zD_U hDdd4) (zD_U hD_lf) (zD_U hD_tp) (by omega) (fun j => by have := hB_lf.1 j; exact ⟨by omega, by omega⟩) (fun j => by have h1 := zcv_bd hB_lf.1 hB_tp.1 j (dg (i * 12 + st0) + 1).toNat; have h2 := zcv_bd hB_pv.1 hB_hr.1 j (dg (st0 * 12 + st0) + 1).toNat; exact ⟨by show _ ≤ ((0 : Int) + 1 * _) + (-1) * _; omega, by show ((0 : Int) + 1 * _) + (-1) * _ < _; omega⟩)) (cwV 3 hts (zg_V tw_448 tw_449 tw_450 tw_8 tw_451) rfl rfl rfl (by decide +kernel) ⟨Nat.le_of_ble_eq_true rfl, Nat.le_of_ble_eq_true rfl⟩) hZ hw hA h_pr rfl rfl rfl rfl hl.1 (Nat.le_of_ble_eq_true rfl) d_DT_clearBelow_84 ⟨Nat.le_of_ble_eq_true rfl, Nat.le_of_ble_eq_true rfl⟩ (fun v M8 H locs hp hw => ?_)
            obtain ⟨rfl, dd7, hDdd7, hs1, hs2, ho⟩ := hp
            have h_o : M8 o = some (.inr (3, [.ref cA, .ref pr, .ref on])) := (ho _ (zq_ne h_o h_pr (by simp)) (zq_ne h_o h_qpr (by simp))).trans h_o
            have h_c : M8 cA = some (cQ (K 3) 144 (fun i => some (pa i))) := (ho _ (zq_ne h_c h_pr (by simp)) (zq_ne h_c h_qpr (by simp))).trans h_c
            have h_ap : M8 ap = some (.inr (8, [.ref aq, .int (iI dp)])) := (ho _ hapr.1 (zq_ne h_ap h_qpr (by simp))).trans h_ap
            have h_aq : M8 aq = some (cJ (K 1) 25 fp) := (ho _ (zq_ne h_aq h_pr (by simp)) hapr.2).trans h_aq
            have h_pv : M8 (pa (st0 * 12 + st0)) = some (.inr (8, [.ref (qa (st0 * 12 + st0)), .int (iI (dg (st0 * 12 + st0)))])) := (ho _ (hpp (st0 * 12 + st0) (by omega) (by omega)).1 (zq_ne h_pv h_qpr (by simp))).trans h_pv
            have h_pvq : M8 (qa (st0 * 12 + st0)) = some (cJ (K 1) 25 (fc (st0 * 12 + st0))) := (ho _ (zq_ne h_pvq h_pr (by simp)) (hpp (st0 * 12 + st0) (by omega) (by omega)).2).trans h_pvq
            have h_lf : M8 (pa (i * 12 + st0)) = some (.inr (8, [.ref (qa (i * 12 + st0)), .int (iI (dg (i * 12 + st0)))])) := (ho _ (hpp (i * 12 + st0) (by omega) (by omega)).1 (zq_ne h_lf h_qpr (by simp))).trans h_lf
            have h_lfq : M8 (qa (i * 12 + st0)) = some (cJ (K 1) 25 (fc (i * 12 + st0))) := (ho _ (zq_ne h_lfq h_pr (by simp)) (hpp (i * 12 + st0) (by omega) (by omega)).2).trans h_lfq
            have h_hr : M8 (pa (i * 12 + jj)) = some (.inr (8, [.ref (qa (i * 12 + jj)), .int (iI (dg (i * 12 + jj)))])) := (ho _ (hpp (i * 12 + jj) (by omega) (by omega)).1 (zq_ne h_hr h_qpr (by simp))).trans h_hr
            have h_hrq : M8 (qa (i * 12 + jj)) = some (cJ (K 1) 25 (fc (i * 12 + jj))) := (ho _ (zq_ne h_hrq h_pr (by simp)) (hpp (i * 12 + jj) (by omega) (by omega)).2).trans h_hrq
            have h_tp : M8 (pa (st0 * 12 + jj)) = some (.inr (8, [.ref (qa (st0 * 12 + jj)), .int (iI (dg (st0 * 12 + jj)))])) := (ho _ (hpp (st0 * 12 + jj) (by omega) (by omega)).1 (zq_ne h_tp h_qpr (by simp))).trans h_tp
            have h_tpq : M8 (qa (st0 * 12 + jj)) = some (cJ (K 1) 25 (fc (st0 * 12 + jj))) := (ho _ (zq_ne h_tpq h_pr (by simp)) (hpp (st0 * 12 + jj) (by omega) (by omega)).2).trans h_tpq
            have h_pr : M8 pr = some (.inr (8, [.ref qpr, .int (iI dd7)])) := hs1
            have h_qpr : M8 qpr = some (cJ (K 1) 25 (fun j => (fun j => (fun _ => 0) j + 1 * zcv (fc (st0 * 12 + st0)) (fc (i * 12 + jj)) j ((dg (st0 * 12 + st0)) + 1).toNat) j + (-1) * zcv (fc (i * 12 + st0)) (fc (st0 * 12 + jj)) j ((dg (i * 12 + st0)) + 1).toNat)) := hs2
            have hfr : ∀ q, q ≠ pr → q ≠ qpr → (∀ i, 0 ≤ i → i < 144 → q ≠ pa i) → (∀ i, 0 ≤ i → i < 144 → q ≠ qa i) → M8 q = M q := fun q g0 g1 g2 g3 => (ho q g0 g1).trans (hfr q g0 g1 g2 g3)
            have hfb : ∀ q, q ≠ pr → q ≠ qpr → q ≠ (pa (i * 12 + jj)) → q ≠ (qa (i * 12 + jj)) → M8 q = Mq q := fun q g0 g1 g2 g3 => (ho q g0 g1).trans (hfb q g0 g1 g2 g3)
            refine W.eq (g2 := F0 m 87 ls []) rfl ?_
            have hpd : ∀ j, (fun j => (fun j => (fun _ => 0) j + 1 * zcv (fc (st0 * 12 + st0)) (fc (i * 12 + jj)) j ((dg (st0 * 12 + st0)) + 1).toNat) j + (-1) * zcv (fc (i * 12 + st0)) (fc (st0 * 12 + jj)) j ((dg (i * 12 + st0)) + 1).toNat) j = zcv (Qt i jj) fp j 25 := fun j => by show (0 + 1 * zcv _ _ j _) + (-1) * zcv _ _ j _ = _; rw [zcv_all hD_pv.2.2.1 j (by omega) (by omega) rfl, zcv_all hD_lf.2.2.1 j (by omega) (by omega) rfl, ← hQ4 j]; omega
            obtain ⟨hz0, hzp⟩ := zquo hpd hDdd7 hQ1 hDp hdp (by omega)
            refine lv_aload hx hb d_DT_clearBelow_87 (lv_at hl 0 rfl) ?_
            refine lv_aload_n hx hb d_DT_clearBelow_89 rfl (lv_at hl 1 rfl) ?_
            refine zq_get hx hb hts i_DT hown hK hw h_o rfl 1 (by decide) (hts _ tw_142) rfl d_DT_clearBelow_90 ?_
            refine lv_aload_n hx hb d_DT_clearBelow_93 rfl (lv_at hl 4 rfl) ?_
            refine zq_callV (As := [.ref pr, .ref ap]) (rest := []) ⟨hx, hb, hml, hown, hts⟩ (c_PO_setQuotient l D K M8 (pa (i * 12 + jj)) (qa (i * 12 + jj)) pr qpr ap aq (dg (i * 12 + jj)) (fc (i * 12 + jj)) dd7 (fun j => (fun j => (fun _ => 0) j + 1 * zcv (fc (st0 * 12 + st0)) (fc (i * 12 + jj)) j ((dg (st0 * 12 + st0)) + 1).toNat) j + (-1) * zcv (fc (i * 12 + st0)) (fc (st0 * 12 + jj)) j ((dg (i * 12 + st0)) + 1).toNat) dp fp (Qt i jj) h_hr h_hrq h_pr h_qpr h_ap h_aq (hpp (i * 12 + jj) (by omega) (by omega)).1 (hpp (i * 12 + jj) (by omega) (by omega)).2 (hpv (i * 12 + jj) (by omega) (by omega) (by omega)).1 (hpv (i * 12 + jj) (by omega) (by omega) (by omega)).2 (Ne.symm hapr.1) (Ne.symm hapr.2) (zD_U hD_hr) (zD_U hDdd7) hDp hdp (by have := hBp.1 dp; exact ⟨by omega, by omega⟩) hz0 hzp (fun j => by have := zB_mul (hQ3 j) (hBp.1 dp); exact ⟨by omega, by omega⟩) (fun j => by have := hQ3 j; exact ⟨by omega, by omega⟩)) (cwV 2 hts (zg_V tw_461 tw_462 tw_463 tw_8 tw_464) rfl rfl rfl (by decide +kernel) ⟨Nat.le_of_ble_eq_true rfl, Nat.le_of_ble_eq_true rfl⟩) hZ hw hA h_hr rfl rfl rfl rfl hl.1 (Nat.le_of_ble_eq_true rfl) d_DT_clearBelow_94 ⟨Nat.le_of_ble_eq_true rfl, Nat.le_of_ble_eq_true rfl⟩ (fun v M12 H locs hp hw => ?_)
            obtain ⟨rfl, dd9, xx10, hh11, hDdd9, hUxx10, hs1, hs2, hs3, hs4, ho⟩ := hp
            have h_o : M12 o = some (.inr (3, [.ref cA, .ref pr, .ref on])) := (ho _ (zq_ne h_o h_hr (by simp)) (zq_ne h_o h_hrq (by simp)) (zq_ne h_o h_pr (by simp)) (zq_ne h_o h_qpr (by simp))).trans h_o
            have h_c : M12 cA = some (cQ (K 3) 144 (fun i => some (pa i))) := (ho _ (zq_ne h_c h_hr (by simp)) (zq_ne h_c h_hrq (by simp)) (zq_ne h_c h_pr (by simp)) (zq_ne h_c h_qpr (by simp))).trans h_c
            have h_ap : M12 ap = some (.inr (8, [.ref aq, .int (iI dp)])) := (ho _ (Ne.symm (hpv (i * 12 + jj) (by omega) (by omega) (by omega)).1) (zq_ne h_ap h_hrq (by simp)) hapr.1 (zq_ne h_ap h_qpr (by simp))).trans h_ap
            have h_aq : M12 aq = some (cJ (K 1) 25 fp) := (ho _ (zq_ne h_aq h_hr (by simp)) (Ne.symm (hpv (i * 12 + jj) (by omega) (by omega) (by omega)).2) (zq_ne h_aq h_pr (by simp)) hapr.2).trans h_aq
            have h_pv : M12 (pa (st0 * 12 + st0)) = some (.inr (8, [.ref (qa (st0 * 12 + st0)), .int (iI (dg (st0 * 12 + st0)))])) := (ho _ (fun z => by have := hPG.2.2.1 _ _ (by omega) (by omega) (by omega) (by omega) z; omega) (zq_ne h_pv h_hrq (by simp)) (hpp (st0 * 12 + st0) (by omega) (by omega)).1 (zq_ne h_pv h_qpr (by simp))).trans h_pv
            have h_pvq : M12 (qa (st0 * 12 + st0)) = some (cJ (K 1) 25 (fc (st0 * 12 + st0))) := (ho _ (zq_ne h_pvq h_hr (by simp)) (fun z => by have := hPG.2.2.2 _ _ (by omega) (by omega) (by omega) (by omega) z; omega) (zq_ne h_pvq h_pr (by simp)) (hpp (st0 * 12 + st0) (by omega) (by omega)).2).trans h_pvq
            have h_lf : M12 (pa (i * 12 + st0)) = some (.inr (8, [.ref (qa (i * 12 + st0)), .int (iI (dg (i * 12 + st0)))])) := (ho _ (fun z => by have := hPG.2.2.1 _ _ (by omega) (by omega) (by omega) (by omega) z; omega) (zq_ne h_lf h_hrq (by simp)) (hpp (i * 12 + st0) (by omega) (by omega)).1 (zq_ne h_lf h_qpr (by simp))).trans h_lf
            have h_lfq : M12 (qa (i * 12 + st0)) = some (cJ (K 1) 25 (fc (i * 12 + st0))) := (ho _ (zq_ne h_lfq h_hr (by simp)) (fun z => by have := hPG.2.2.2 _ _ (by omega) (by omega) (by omega) (by omega) z; omega) (zq_ne h_lfq h_pr (by simp)) (hpp (i * 12 + st0) (by omega) (by omega)).2).trans h_lfq
            have h_tp : M12 (pa (st0 * 12 + jj)) = some (.inr (8, [.ref (qa (st0 * 12 + jj)), .int (iI (dg (st0 * 12 + jj)))])) := (ho _ (fun z => by have := hPG.2.2.1 _ _ (by omega) (by omega) (by omega) (by omega) z; omega) (zq_ne h_tp h_hrq (by simp)) (hpp (st0 * 12 + jj) (by omega) (by omega)).1 (zq_ne h_tp h_qpr (by simp))).trans h_tp
            have h_tpq : M12 (qa (st0 * 12 + jj)) = some (cJ (K 1) 25 (fc (st0 * 12 + jj))) := (ho _ (zq_ne h_tpq h_hr (by simp)) (fun z => by have := hPG.2.2.2 _ _ (by omega) (by omega) (by omega) (by omega) z; omega) (zq_ne h_tpq h_pr (by simp)) (hpp (st0 * 12 + jj) (by omega) (by omega)).2).trans h_tpq
            have h_hr : M12 (pa (i * 12 + jj)) = some (.inr (8, [.ref (qa (i * 12 + jj)), .int (iI dd9)])) := hs1
            have h_hrq : M12 (qa (i * 12 + jj)) = some (cJ (K 1) 25 (Qt i jj)) := hs2
            have h_pr : M12 pr = some (.inr (8, [.ref qpr, .int (iI xx10)])) := hs3
            have h_qpr : M12 qpr = some (cJ (K 1) 25 hh11) := hs4
            have hfr : ∀ q, q ≠ pr → q ≠ qpr → (∀ i, 0 ≤ i → i < 144 → q ≠ pa i) → (∀ i, 0 ≤ i → i < 144 → q ≠ qa i) → M12 q = M q := fun q g0 g1 g2 g3 => (ho q (g2 (i * 12 + jj) (by omega) (by omega)) (g3 (i * 12 + jj) (by omega) (by omega)) g0 g1).trans (hfr q g0 g1 g2 g3)
            have hfb : ∀ q, q ≠ pr → q ≠ qpr → q ≠ (pa (i * 12 + jj)) → q ≠ (qa (i * 12 + jj)) → M12 q = Mq q := fun q g0 g1 g2 g3 => (ho q g2 g3 g0 g1).trans (hfb q g0 g1 g2 g3)
            refine W.eq (g2 := F0 m 97 ls []) rfl ?_
            have hde : dd9 = dQ i jj := zD_uniq hDdd9 hQ1
            rw [hde] at h_hr
            have hNew : zPG K M12 cA pa qa (zup2 st0 i (jj + 1) od dQ dg) (zup2 st0 i (jj + 1) od Qt fc) := by rw [← zup2_step (by omega), ← zup2_step (by omega)]; exact zPG_up hF2 (by omega) h_hr h_hrq h_prZ (Or.inr ⟨_, h_qprZ⟩) hpp hfb
            refine lv_iinc (v := iI (jj + 1)) (lv' := [(7, .int (iI (jj + 1))), (8, .ref (pa (i * 12 + jj))), (0, .ref o), (1, .int (iI st0)), (2, .int (iI od)), (3, .ref ap), (4, .ref (pa (st0 * 12 + st0))), (5, .int (iI i)), (6, .ref (pa (i * 12 + st0)))]) hx hb d_DT_clearBelow_97 hl (k := 8) rfl (iI_add _ _) (by decide) rfl (fun ls hl => ?_)
            refine lv_goto (tgt := 33) hx hb d_DT_clearBelow_100 (by decide) ?_
            exact ih_hN (jj + 1) xx10 hh11 M12 _ _ _ (by omega) hNew hUxx10 (by omega) hfr h_o h_c h_pr h_qpr h_ap h_aq hw (lv_sub hl [2, 3, 4, 5, 6, 7, 8, 0] rfl)
      refine lv_iload hx hb d_DT_clearBelow_13 (lv_at hl 5 rfl) ?_
      refine lv_iload_n hx hb d_DT_clearBelow_15 rfl (lv_at hl 2 rfl) ?_
      refine zq_icmp_ge (tgt := 109) hx hb d_DT_clearBelow_16 (by decide) ⟨by omega, by omega⟩ ⟨by omega, by omega⟩ (fun hc13 => ?_) (fun hc13 => ?_)
      · exact zq_vret hx hb hr hlocks hZ hw ⟨rfl, dx, fx, hUx, by rw [← zup2_end (i := i) (by omega), ← zup2_end (i := i) (by omega)]; exact hF, h_pr, h_qpr, hfr⟩ d_DT_clearBelow_109
      · refine lv_aload_n hx hb d_DT_clearBelow_19 rfl (lv_at hl 0 rfl) ?_
        refine lv_iload hx hb d_DT_clearBelow_20 (lv_at hl 5 rfl) ?_
        refine lv_iload_n hx hb d_DT_clearBelow_22 rfl (lv_at hl 1 rfl) ?_
        refine zq_callV (As := [.int (iI i), .int (iI st0)]) (rest := []) ⟨hx, hb, hml, hown, hts⟩ (c_DT_cell l D K Mz o cA pr on pa i st0 h_o h_c ⟨by omega, by omega⟩ ⟨by omega, by omega⟩) (cwV 2 hts (zg_V tw_423 tw_425 ts_16 tw_7 tw_426) rfl rfl rfl (by decide +kernel) ⟨Nat.le_of_ble_eq_true rfl, Nat.le_of_ble_eq_true rfl⟩) hZ hw hA h_o rfl rfl rfl rfl hl.1 (Nat.le_of_ble_eq_true rfl) d_DT_clearBelow_23 ⟨Nat.le_of_ble_eq_true rfl, Nat.le_of_ble_eq_true rfl⟩ (fun v M14 H locs hp hw => ?_)
        obtain ⟨rfl, hMe⟩ := hp
        rw [hMe] at hw
        refine W.eq (g2 := F0 m 26 ls [.ref (pa (i * 12 + st0))]) rfl ?_
        refine lv_astore (lv' := [(6, .ref (pa (i * 12 + st0))), (0, .ref o), (1, .int (iI st0)), (2, .int (iI od)), (3, .ref ap), (4, .ref (pa (st0 * 12 + st0))), (5, .int (iI i))]) hx hb d_DT_clearBelow_26 hl (by decide) rfl (fun ls hl => ?_)
        refine lv_iload_n hx hb d_DT_clearBelow_28 rfl (lv_at hl 2 rfl) ?_
        refine lv_iconst (v := iI 1) hx hb d_DT_clearBelow_29 rfl ?_
        refine zq_iadd hx hb d_DT_clearBelow_30 ?_
        refine lv_istore (lv' := [(7, .int (iI (st0 + 1))), (6, .ref (pa (i * 12 + st0))), (0, .ref o), (1, .int (iI st0)), (2, .int (iI od)), (3, .ref ap), (4, .ref (pa (st0 * 12 + st0))), (5, .int (iI i))]) hx hb d_DT_clearBelow_31 hl (by decide) rfl (fun ls hl => ?_)
        exact hN _ (st0 + 1) dx fx Mz _ _ _ (by omega) hF hUx (Nat.lt_succ_self _) hfr h_o h_c h_pr h_qpr h_ap h_aq hw (lv_sub hl [2, 3, 4, 5, 6, 7, 1, 0] rfl)
  refine lv_aload_n hx hb d_DT_clearBelow_0 rfl (lv_at hl 0 rfl) ?_
  refine lv_iload_n hx hb d_DT_clearBelow_1 rfl (lv_at hl 1 rfl) ?_
  refine lv_iload_n hx hb d_DT_clearBelow_2 rfl (lv_at hl 1 rfl) ?_
  refine zq_callV (As := [.int (iI st0), .int (iI st0)]) (rest := []) ⟨hx, hb, hml, hown, hts⟩ (c_DT_cell l D K M o cA pr on pa st0 st0 h_o h_c ⟨by omega, by omega⟩ ⟨by omega, by omega⟩) (cwV 2 hts (zg_V tw_423 tw_425 ts_16 tw_7 tw_426) rfl rfl rfl (by decide +kernel) ⟨Nat.le_of_ble_eq_true rfl, Nat.le_of_ble_eq_true rfl⟩) hZ hw hA h_o rfl rfl rfl rfl hl.1 (Nat.le_of_ble_eq_true rfl) d_DT_clearBelow_3 ⟨Nat.le_of_ble_eq_true rfl, Nat.le_of_ble_eq_true rfl⟩ (fun v M15 H locs hp hw => ?_)
  obtain ⟨rfl, hMe⟩ := hp
  rw [hMe] at hw
  refine W.eq (g2 := F0 m 6 ls [.ref (pa (st0 * 12 + st0))]) rfl ?_
  refine lv_astore (lv' := [(4, .ref (pa (st0 * 12 + st0))), (0, .ref o), (1, .int (iI st0)), (2, .int (iI od)), (3, .ref ap)]) hx hb d_DT_clearBelow_6 hl (by decide) rfl (fun ls hl => ?_)
  refine lv_iload_n hx hb d_DT_clearBelow_8 rfl (lv_at hl 2 rfl) ?_
  refine lv_iconst (v := iI 1) hx hb d_DT_clearBelow_9 rfl ?_
  refine zq_iadd hx hb d_DT_clearBelow_10 ?_
  refine lv_istore (lv' := [(5, .int (iI (st0 + 1))), (4, .ref (pa (st0 * 12 + st0))), (0, .ref o), (1, .int (iI st0)), (2, .int (iI od)), (3, .ref ap)]) hx hb d_DT_clearBelow_11 hl (by decide) rfl (fun ls hl => ?_)
  exact hO _ (st0 + 1) dpr fpr M _ _ _ (by omega) (by rw [zup2_0, zup2_0]; exact hPG) hUp (Nat.lt_succ_self _) hfr h_o h_c h_pr h_qpr h_ap h_aq hw (lv_sub hl [2, 3, 4, 5, 1, 0] rfl)
