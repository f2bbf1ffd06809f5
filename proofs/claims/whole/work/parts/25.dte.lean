abbrev P_DT_evaluate (K : Nat → ClassId) (M : zq_M) (o : Nat) (cA : Nat) (pr : Nat) (on : Nat) (pa : Int → Nat) (qa : Int → Nat) (dg : Int → Int) (fc : Int → Int → Int) (qpr : Nat) (dpr : Int) (fpr : Int → Int) (qon : Nat) (rs : Nat) (qrs : Nat) (drs : Int) (frs : Int → Int) (od : Int) : Option Value → zq_M → Prop := fun v M' => v = none ∧ ∃ res dr pa1 qa1 dg1 fc1 dx fx, zBo fc od res ∧ zD res dr ∧ M' rs = some (.inr (8, [.ref qrs, .int (iI dr)])) ∧ M' qrs = some (cJ (K 1) 25 res) ∧ zPG K M' cA pa1 qa1 dg1 fc1 ∧ zPI dg1 fc1 ∧ zSb pa qa pa1 qa1 ∧ zU fx dx ∧ M' pr = some (.inr (8, [.ref qpr, .int (iI dx)])) ∧ M' qpr = some (cJ (K 1) 25 fx) ∧ ∀ q, q ≠ cA → q ≠ pr → q ≠ qpr → (∀ i, 0 ≤ i → i < 144 → q ≠ pa i) → (∀ i, 0 ≤ i → i < 144 → q ≠ qa i) → q ≠ rs → q ≠ qrs → M' q = M q
set_option maxHeartbeats 4000000 in
set_option maxRecDepth 100000 in
theorem c_DT_evaluate (l : Launch) (D : va_G) (K : Nat → ClassId) (M : zq_M) (o : Nat) (cA : Nat) (pr : Nat) (on : Nat) (pa : Int → Nat) (qa : Int → Nat) (dg : Int → Int) (fc : Int → Int → Int) (qpr : Nat) (dpr : Int) (fpr : Int → Int) (qon : Nat) (rs : Nat) (qrs : Nat) (drs : Int) (frs : Int → Int) (od : Int) (h_o : M o = some (.inr (3, [.ref cA, .ref pr, .ref on]))) (hPG : zPG K M cA pa qa dg fc) (hPI0 : zPI dg fc) (h_pr : M pr = some (.inr (8, [.ref qpr, .int (iI dpr)]))) (h_qpr : M qpr = some (cJ (K 1) 25 fpr)) (hUp : zU fpr dpr) (h_on : M on = some (.inr (8, [.ref qon, .int (iI 0)]))) (h_qon : M qon = some (cJ (K 1) 25 (zu (zu (fun _ => 0) 0 1) 1 0))) (h_rs : M rs = some (.inr (8, [.ref qrs, .int (iI drs)]))) (h_qrs : M qrs = some (cJ (K 1) 25 frs)) (hUr : zU frs drs) (hpp : ∀ i, 0 ≤ i → i < 144 → pa i ≠ pr ∧ qa i ≠ qpr) (hon : ∀ i, 0 ≤ i → i < 144 → pa i ≠ on ∧ qa i ≠ qon) (hrsD : ∀ i, 0 ≤ i → i < 144 → pa i ≠ rs ∧ qa i ≠ qrs) (hopr : on ≠ pr ∧ qon ≠ qpr) (hors : on ≠ rs ∧ qon ≠ qrs) (hrp : rs ≠ pr ∧ qrs ≠ qpr) (hod : 0 ≤ od ∧ od ≤ 12) (hok : ∀ n fcA pv oA r fcB oB, (n : Nat) < od → zBr fc od n fcA pv oA → zBp fcA od n r fcB oA oB → ∃ Qt dQ, zBq fcB pv n od Qt dQ) : zq_Met l y_DT_evaluate (.code y_DT_evaluate b_DT_evaluate 7 none :: lw_gd) { frames := 3, cells := 0, slots := 0, locals := 84 } D vwCl (zT K) [.ref o, .int (iI od), .ref rs] M (P_DT_evaluate K M o cA pr on pa qa dg fc qpr dpr fpr qon rs qrs drs frs od) 0 0 := by
  refine zq_start (cc := b_DT_evaluate) (maxL := 7) (ret := none) (by decide) rfl (Nat.le_of_ble_eq_true rfl) ?_
  intro p e s m below meth co A ls hx hb hr hml hts hown hnm hlocks hA hZ hw hl
  have hts : ∀ w ∈ lw_gd, w.before [.ref o, .int (iI od), .ref rs].toArray s = true := fun w h => hts w (List.mem_cons_of_mem _ h)
  have hown : s.vm.findClass R_DT = some m.cls := hown
  have hK := hZ.1
  have hl : lv_has ls 7 [(0, .ref o), (1, .int (iI od)), (2, .ref rs)] := hl
  have hfr : ∀ q, q ≠ cA → q ≠ pr → q ≠ qpr → (∀ i, 0 ≤ i → i < 144 → q ≠ pa i) → (∀ i, 0 ≤ i → i < 144 → q ≠ qa i) → q ≠ rs → q ≠ qrs → M q = M q := fun q _ _ _ _ _ _ _ => rfl
  have h_c := hPG.1
  have h_rs0 := h_rs
  have h_qrs0 := h_qrs
  have hE : ∀ (n : Nat) (k : Nat) (i : Int) (pa1 : Int → Nat) (qa1 : Int → Nat) (dg1 : Int → Int) (fc1 : Int → Int → Int) (ov : Int) (ap : Nat) (aq : Nat) (dp : Int) (fp : Int → Int) (dx : Int) (fx : Int → Int) (Mq : zq_M) (H : Heap) (locs : List Loc) (ls : Array Slot), (i = k) → (i ≤ od ∧ (ov = 0 ∨ ov = 1)) → (zPG K Mq cA pa1 qa1 dg1 fc1) → (zPI dg1 fc1) → (zSb pa qa pa1 qa1) → (zD fp dp ∧ 0 ≤ dp ∧ zB fp ∧ dp ≤ 12) → (∀ x, 0 ≤ x → x < 144 → i ≤ x / 12 → pa1 x ≠ ap ∧ qa1 x ≠ aq) → ((ap ≠ pr ∧ aq ≠ qpr) ∧ ap ≠ rs ∧ aq ≠ qrs) → (zU fx dx) → (zBr fc od k fc1 fp ov) → (od - i).toNat < n → (∀ q, q ≠ cA → q ≠ pr → q ≠ qpr → (∀ i, 0 ≤ i → i < 144 → q ≠ pa i) → (∀ i, 0 ≤ i → i < 144 → q ≠ qa i) → q ≠ rs → q ≠ qrs → Mq q = M q) → Mq o = some (.inr (3, [.ref cA, .ref pr, .ref on])) → Mq cA = some (cQ (K 3) 144 (fun i => some (pa1 i))) → Mq pr = some (.inr (8, [.ref qpr, .int (iI dx)])) → Mq qpr = some (cJ (K 1) 25 fx) → Mq ap = some (.inr (8, [.ref aq, .int (iI dp)])) → Mq aq = some (cJ (K 1) 25 fp) → Mq rs = some (.inr (8, [.ref qrs, .int (iI (-1))])) → Mq qrs = some (cJ (K 1) 25 (fun _ => 0)) → zq_W D vwCl A s.heap Mq H locs → lv_has ls 7 [(0, .ref o), (1, .int (iI od)), (2, .ref rs), (3, .int (iI ov)), (4, .ref ap), (5, .int (iI i))] → W p l e ({ frames := 3, cells := 0, slots := 0, locals := 84 } : Room) s m [.ref o, .int (iI od), .ref rs].toArray below meth co H locs 0 0 (MQ below (zq_Q D vwCl (zT K) (P_DT_evaluate K M o cA pr on pa qa dg fc qpr dpr fpr qon rs qrs drs frs od) A) [.ref o, .int (iI od), .ref rs].toArray s 0 0 A) (F0 m 26 ls []) := by
    intro n
    induction n with
    | zero =>
      intro k i pa1 qa1 dg1 fc1 ov ap aq dp fp dx fx Mq H locs ls hk hi hP1 hPI hSb hDp hpv hap hUx hBr hms hfr h_o h_c h_pr h_qpr h_ap h_aq h_rs h_qrs hw hl
      exact absurd hms (Nat.not_lt_zero _)
    | succ n ih_hE =>
      intro k i pa1 qa1 dg1 fc1 ov ap aq dp fp dx fx Mq H locs ls hk hi hP1 hPI hSb hDp hpv hap hUx hBr hms hfr h_o h_c h_pr h_qpr h_ap h_aq h_rs h_qrs hw hl
      have hJ : ∀ (k : Nat) (i : Int) (pa1 : Int → Nat) (qa1 : Int → Nat) (dg1 : Int → Int) (fc1 : Int → Int → Int) (ov : Int) (ap : Nat) (aq : Nat) (dp : Int) (fp : Int → Int) (dx : Int) (fx : Int → Int) (Mq : zq_M) (H : Heap) (locs : List Loc) (ls : Array Slot), (i = k) → (i ≤ od ∧ (ov = 0 ∨ ov = 1)) → (zPG K Mq cA pa1 qa1 dg1 fc1) → (zPI dg1 fc1) → (zSb pa qa pa1 qa1) → (zD fp dp ∧ 0 ≤ dp ∧ zB fp ∧ dp ≤ 12) → (∀ x, 0 ≤ x → x < 144 → i ≤ x / 12 → pa1 x ≠ ap ∧ qa1 x ≠ aq) → ((ap ≠ pr ∧ aq ≠ qpr) ∧ ap ≠ rs ∧ aq ≠ qrs) → (zU fx dx) → ((od - i).toNat < n + 1) → (i < od ∧ 0 ≤ dg1 (i * 12 + i)) → (∃ fcA oA rA, zBr fc od k fcA fp oA ∧ zBp fcA od k rA fc1 oA ov) → (∀ q, q ≠ cA → q ≠ pr → q ≠ qpr → (∀ i, 0 ≤ i → i < 144 → q ≠ pa i) → (∀ i, 0 ≤ i → i < 144 → q ≠ qa i) → q ≠ rs → q ≠ qrs → Mq q = M q) → Mq o = some (.inr (3, [.ref cA, .ref pr, .ref on])) → Mq cA = some (cQ (K 3) 144 (fun i => some (pa1 i))) → Mq pr = some (.inr (8, [.ref qpr, .int (iI dx)])) → Mq qpr = some (cJ (K 1) 25 fx) → Mq ap = some (.inr (8, [.ref aq, .int (iI dp)])) → Mq aq = some (cJ (K 1) 25 fp) → Mq rs = some (.inr (8, [.ref qrs, .int (iI (-1))])) → Mq qrs = some (cJ (K 1) 25 (fun _ => 0)) → zq_W D vwCl A s.heap Mq H locs → lv_has ls 7 [(0, .ref o), (1, .int (iI od)), (2, .ref rs), (3, .int (iI ov)), (4, .ref ap), (5, .int (iI i))] → W p l e ({ frames := 3, cells := 0, slots := 0, locals := 84 } : Room) s m [.ref o, .int (iI od), .ref rs].toArray below meth co H locs 0 0 (MQ below (zq_Q D vwCl (zT K) (P_DT_evaluate K M o cA pr on pa qa dg fc qpr dpr fpr qon rs qrs drs frs od) A) [.ref o, .int (iI od), .ref rs].toArray s 0 0 A) (F0 m 72 ls []) := by
        intro k i pa1 qa1 dg1 fc1 ov ap aq dp fp dx fx Mq H locs ls hk hi hP1 hPI hSb hDp hpv hap hUx hmj hlt hB hfr h_o h_c h_pr h_qpr h_ap h_aq h_rs h_qrs hw hl
        obtain ⟨fcA, oA, rA, hBrA, hBpA⟩ := hB
        obtain ⟨Qt, dQ, hQq⟩ := hok k fcA fp oA rA fc1 ov (by omega) hBrA hBpA
        have hQi : zBq fc1 fp i od Qt dQ := by rw [hk]; exact hQq
        have hpp1 : ∀ i, 0 ≤ i → i < 144 → pa1 i ≠ pr ∧ qa1 i ≠ qpr := fun i h1 h2 => by obtain ⟨j, j1, j2, e1, e2⟩ := hSb i h1 h2; rw [e1, e2]; exact hpp j j1 j2
        refine lv_aload_n hx hb d_DT_evaluate_72 rfl (lv_at hl 0 rfl) ?_
        refine lv_iload hx hb d_DT_evaluate_73 (lv_at hl 5 rfl) ?_
        refine lv_iload_n hx hb d_DT_evaluate_75 rfl (lv_at hl 1 rfl) ?_
        refine lv_aload hx hb d_DT_evaluate_76 (lv_at hl 4 rfl) ?_
        refine zq_callV (As := [.int (iI i), .int (iI od), .ref ap]) (rest := []) ⟨hx, hb, hml, hown, hts⟩ (c_DT_clearBelow l D K Mq o cA pr on pa1 qa1 dg1 fc1 qpr dx fx ap aq dp fp i od Qt dQ h_o hP1 (fun i h1 h2 => (hPI i h1 h2).1) (fun i h1 h2 => (hPI i h1 h2).2) h_pr h_qpr hUx h_ap h_aq hDp.1 hDp.2.1 hDp.2.2 hpp1 (fun x h1 h2 h3 => hpv x h1 h2 (by omega)) hap.1 ⟨by omega, by omega, by omega⟩ hQi) (cwV 3 hts (zg_V tw_444 tw_446 ts_19 tw_7 tw_447) rfl rfl rfl (by decide +kernel) ⟨Nat.le_of_ble_eq_true rfl, Nat.le_of_ble_eq_true rfl⟩) hZ hw hA h_o rfl rfl rfl rfl hl.1 (Nat.le_of_ble_eq_true rfl) d_DT_evaluate_78 ⟨Nat.le_of_ble_eq_true rfl, Nat.le_of_ble_eq_true rfl⟩ (fun v M3 H locs hp hw => ?_)
        obtain ⟨rfl, dz1, fz2, hUdz1, hgN, hs1, hs2, ho⟩ := hp
        have hP3 := hgN
        have h_oN : M3 o = some (.inr (3, [.ref cA, .ref pr, .ref on])) := (ho _ (zq_ne h_o h_pr (by simp)) (zq_ne h_o h_qpr (by simp)) (fun i h1 h2 => zq_ne h_o (hP1.2.1 i h1 h2).1 (by simp)) (fun i h1 h2 => zq_ne h_o (hP1.2.1 i h1 h2).2 (by simp))).trans h_o
        have h_rsN : M3 rs = some (.inr (8, [.ref qrs, .int (iI (-1))])) := (ho _ hrp.1 (zq_ne h_rs h_qpr (by simp)) (fun i h1 h2 z => by obtain ⟨j, j1, j2, e1, e2⟩ := hSb i h1 h2; exact (hrsD j j1 j2).1 (e1.symm.trans z.symm)) (fun i h1 h2 => zq_ne h_rs (hP1.2.1 i h1 h2).2 (by simp))).trans h_rs
        have h_qrsN : M3 qrs = some (cJ (K 1) 25 (fun _ => 0)) := (ho _ (zq_ne h_qrs h_pr (by simp)) hrp.2 (fun i h1 h2 => zq_ne h_qrs (hP1.2.1 i h1 h2).1 (by simp)) (fun i h1 h2 z => by obtain ⟨j, j1, j2, e1, e2⟩ := hSb i h1 h2; exact (hrsD j j1 j2).2 (e2.symm.trans z.symm))).trans h_qrs
        have h_o := h_oN
        have h_rs := h_rsN
        have h_qrs := h_qrsN
        have h_c : M3 cA = some (cQ (K 3) 144 (fun i => some (pa1 i))) := hP3.1
        have h_pr := hs1
        have h_qpr := hs2
        have hfr : ∀ q, q ≠ cA → q ≠ pr → q ≠ qpr → (∀ i, 0 ≤ i → i < 144 → q ≠ pa i) → (∀ i, 0 ≤ i → i < 144 → q ≠ qa i) → q ≠ rs → q ≠ qrs → M3 q = M q := fun q g0 g1 g2 g3 g4 g5 g6 => (ho q g1 g2 (fun i h1 h2 e9 => by obtain ⟨j, j1, j2, e1, e2⟩ := hSb i h1 h2; exact g3 j j1 j2 (e9.trans e1)) (fun i h1 h2 e9 => by obtain ⟨j, j1, j2, e1, e2⟩ := hSb i h1 h2; exact g4 j j1 j2 (e9.trans e2))).trans (hfr q g0 g1 g2 g3 g4 g5 g6)
        refine W.eq (g2 := F0 m 81 ls []) rfl ?_
        refine lv_aload_n hx hb d_DT_evaluate_81 rfl (lv_at hl 0 rfl) ?_
        refine lv_iload hx hb d_DT_evaluate_82 (lv_at hl 5 rfl) ?_
        refine lv_iload hx hb d_DT_evaluate_84 (lv_at hl 5 rfl) ?_
        refine zq_callV (As := [.int (iI i), .int (iI i)]) (rest := []) ⟨hx, hb, hml, hown, hts⟩ (c_DT_cell l D K M3 o cA pr on pa1 i i h_o h_c ⟨by omega, by omega⟩ ⟨by omega, by omega⟩) (cwV 2 hts (zg_V tw_423 tw_425 ts_16 tw_7 tw_426) rfl rfl rfl (by decide +kernel) ⟨Nat.le_of_ble_eq_true rfl, Nat.le_of_ble_eq_true rfl⟩) hZ hw hA h_o rfl rfl rfl rfl hl.1 (Nat.le_of_ble_eq_true rfl) d_DT_evaluate_86 ⟨Nat.le_of_ble_eq_true rfl, Nat.le_of_ble_eq_true rfl⟩ (fun v M4 H locs hp hw => ?_)
        obtain ⟨rfl, hMe⟩ := hp
        rw [hMe] at hw
        refine W.eq (g2 := F0 m 89 ls [.ref (pa1 (i * 12 + i))]) rfl ?_
        obtain ⟨h_ap, h_aq⟩ : M3 (pa1 (i * 12 + i)) = some (.inr (8, [.ref (qa1 (i * 12 + i)), .int (iI (dg1 (i * 12 + i)))])) ∧ M3 (qa1 (i * 12 + i)) = some (cJ (K 1) 25 (fc1 (i * 12 + i))) := by have h9 := hP3.2.1 (i * 12 + i) (by omega) (by omega); rw [zup2_old (by omega), zup2_old (by omega)] at h9; exact h9
        have hPd := hPI (i * 12 + i) (by omega) (by omega)
        have hpd0 := hlt.2
        have hapN : (pa1 (i * 12 + i) ≠ pr ∧ qa1 (i * 12 + i) ≠ qpr) ∧ pa1 (i * 12 + i) ≠ rs ∧ qa1 (i * 12 + i) ≠ qrs := by obtain ⟨j, j1, j2, e1, e2⟩ := hSb (i * 12 + i) (by omega) (by omega); rw [e1, e2]; exact ⟨hpp j j1 j2, hrsD j j1 j2⟩
        refine lv_astore (lv' := [(4, .ref (pa1 (i * 12 + i))), (0, .ref o), (1, .int (iI od)), (2, .ref rs), (3, .int (iI ov)), (5, .int (iI i))]) hx hb d_DT_evaluate_89 hl (by decide) rfl (fun ls hl => ?_)
        refine lv_iinc (v := iI (i + 1)) (lv' := [(5, .int (iI (i + 1))), (4, .ref (pa1 (i * 12 + i))), (0, .ref o), (1, .int (iI od)), (2, .ref rs), (3, .int (iI ov))]) hx hb d_DT_evaluate_91 hl (k := 5) rfl (iI_add _ _) (by decide) rfl (fun ls hl => ?_)
        refine lv_goto (tgt := 26) hx hb d_DT_evaluate_94 (by decide) ?_
        exact ih_hE (k + 1) (i + 1) pa1 qa1 (zup2 i od (i + 1) od dQ dg1) (zup2 i od (i + 1) od Qt fc1) ov (pa1 (i * 12 + i)) (qa1 (i * 12 + i)) (dg1 (i * 12 + i)) (fc1 (i * 12 + i)) dz1 fz2 M3 _ _ _ (by omega) ⟨by omega, by omega⟩ hP3 (zPI_up2 hPI hQi) hSb ⟨hPd.1, hpd0, hPd.2.1, hPd.2.2⟩ (fun x h1 h2 h3 => ⟨fun z => by have := hP1.2.2.1 _ _ h1 h2 (by omega) (by omega) z; omega, fun z => by have := hP1.2.2.2 _ _ h1 h2 (by omega) (by omega) z; omega⟩) hapN hUdz1 (by rw [hk]; exact ⟨fcA, fp, oA, rA, fc1, Qt, dQ, hBrA, hBpA, hQq, rfl, rfl⟩) (by omega) hfr h_o h_c h_pr h_qpr h_ap h_aq h_rs h_qrs hw (lv_sub hl [2, 3, 4, 5, 1, 0] rfl)
      refine lv_iload hx hb d_DT_evaluate_26 (lv_at hl 5 rfl) ?_
      refine lv_iload_n hx hb d_DT_evaluate_28 rfl (lv_at hl 1 rfl) ?_
      refine zq_icmp_ge (tgt := 97) hx hb d_DT_evaluate_29 (by decide) ⟨by omega, by omega⟩ ⟨by omega, by omega⟩ (fun hc5 => ?_) (fun hc5 => ?_)
      · have h_rsK := h_rs
        have h_qrsK := h_qrs
        have hrs1 : ∀ i, 0 ≤ i → i < 144 → pa1 i ≠ rs ∧ qa1 i ≠ qrs := fun i h1 h2 => by obtain ⟨j, j1, j2, e1, e2⟩ := hSb i h1 h2; rw [e1, e2]; exact hrsD j j1 j2
        refine lv_aload_n hx hb d_DT_evaluate_97 rfl (lv_at hl 2 rfl) ?_
        refine lv_aload hx hb d_DT_evaluate_98 (lv_at hl 4 rfl) ?_
        refine lv_iload_n hx hb d_DT_evaluate_100 rfl (lv_at hl 3 rfl) ?_
        refine zq_if_eq (tgt := 110) hx hb d_DT_evaluate_101 (by decide) ⟨by omega, by omega⟩ (fun hc6 => ?_) (fun hc6 => ?_)
        · refine lv_lconst (v := iL 1) hx hb d_DT_evaluate_110 (by decide) ?_
          refine zq_callV (As := [.ref ap, .long (iL 1)]) (rest := []) ⟨hx, hb, hml, hown, hts⟩ (c_PO_setMultiple l D K Mq rs qrs ap aq (-1) (fun _ => 0) dp fp 1 h_rs h_qrs h_ap h_aq (Ne.symm hap.2.1) (Ne.symm hap.2.2) zU_0 (zD_U hDp.1) (by decide) (fun j => by have := hDp.2.2.1 j; exact ⟨by omega, by omega⟩)) (cwV 2 hts (zg_V tw_465 tw_466 tw_467 tw_8 tw_468) rfl rfl rfl (by decide +kernel) ⟨Nat.le_of_ble_eq_true rfl, Nat.le_of_ble_eq_true rfl⟩) hZ hw hA h_rs rfl rfl rfl rfl hl.1 (Nat.le_of_ble_eq_true rfl) d_DT_evaluate_111 ⟨Nat.le_of_ble_eq_true rfl, Nat.le_of_ble_eq_true rfl⟩ (fun v M8 H locs hp hw => ?_)
          obtain ⟨rfl, dd7, hDdd7, hs1, hs2, ho⟩ := hp
          have h_o : M8 o = some (.inr (3, [.ref cA, .ref pr, .ref on])) := (ho _ (zq_ne h_o h_rs (by simp)) (zq_ne h_o h_qrs (by simp))).trans h_o
          have h_c : M8 cA = some (cQ (K 3) 144 (fun i => some (pa1 i))) := (ho _ (zq_ne h_c h_rs (by simp)) (zq_ne h_c h_qrs (by simp))).trans h_c
          have h_pr : M8 pr = some (.inr (8, [.ref qpr, .int (iI dx)])) := (ho _ (Ne.symm hrp.1) (zq_ne h_pr h_qrs (by simp))).trans h_pr
          have h_qpr : M8 qpr = some (cJ (K 1) 25 fx) := (ho _ (zq_ne h_qpr h_rs (by simp)) (Ne.symm hrp.2)).trans h_qpr
          have h_ap : M8 ap = some (.inr (8, [.ref aq, .int (iI dp)])) := (ho _ hap.2.1 (zq_ne h_ap h_qrs (by simp))).trans h_ap
          have h_aq : M8 aq = some (cJ (K 1) 25 fp) := (ho _ (zq_ne h_aq h_rs (by simp)) hap.2.2).trans h_aq
          have h_rs : M8 rs = some (.inr (8, [.ref qrs, .int (iI dd7)])) := hs1
          have h_qrs : M8 qrs = some (cJ (K 1) 25 (fun j => 1 * fp j)) := hs2
          have hfr : ∀ q, q ≠ cA → q ≠ pr → q ≠ qpr → (∀ i, 0 ≤ i → i < 144 → q ≠ pa i) → (∀ i, 0 ≤ i → i < 144 → q ≠ qa i) → q ≠ rs → q ≠ qrs → M8 q = M q := fun q g0 g1 g2 g3 g4 g5 g6 => (ho q g5 g6).trans (hfr q g0 g1 g2 g3 g4 g5 g6)
          refine W.eq (g2 := F0 m 114 ls []) rfl ?_
          exact zq_vret hx hb hr hlocks hZ hw ⟨rfl, _, _, pa1, qa1, dg1, fc1, dx, fx, Or.inr ⟨fc1, fp, ov, by rw [show od.toNat = k from by omega]; exact hBr, by rw [if_pos (by omega)]⟩, hDdd7, h_rs, h_qrs, zPG_keepR hP1 h_rsK h_qrsK hrs1 (fun q g0 g1 => ho q g0 g1), hPI, hSb, hUx, h_pr, h_qpr, hfr⟩ d_DT_evaluate_114
        · refine lv_ldc2 (v := iL (-1)) hx hb hown (hts _ tw_460) d_DT_evaluate_104 ?_
          refine lv_goto (tgt := 111) hx hb d_DT_evaluate_107 (by decide) ?_
          refine zq_callV (As := [.ref ap, .long (iL (-1))]) (rest := []) ⟨hx, hb, hml, hown, hts⟩ (c_PO_setMultiple l D K Mq rs qrs ap aq (-1) (fun _ => 0) dp fp (-1) h_rs h_qrs h_ap h_aq (Ne.symm hap.2.1) (Ne.symm hap.2.2) zU_0 (zD_U hDp.1) (by decide) (fun j => by have := hDp.2.2.1 j; exact ⟨by omega, by omega⟩)) (cwV 2 hts (zg_V tw_465 tw_466 tw_467 tw_8 tw_468) rfl rfl rfl (by decide +kernel) ⟨Nat.le_of_ble_eq_true rfl, Nat.le_of_ble_eq_true rfl⟩) hZ hw hA h_rs rfl rfl rfl rfl hl.1 (Nat.le_of_ble_eq_true rfl) d_DT_evaluate_111 ⟨Nat.le_of_ble_eq_true rfl, Nat.le_of_ble_eq_true rfl⟩ (fun v M10 H locs hp hw => ?_)
          obtain ⟨rfl, dd9, hDdd9, hs1, hs2, ho⟩ := hp
          have h_o : M10 o = some (.inr (3, [.ref cA, .ref pr, .ref on])) := (ho _ (zq_ne h_o h_rs (by simp)) (zq_ne h_o h_qrs (by simp))).trans h_o
          have h_c : M10 cA = some (cQ (K 3) 144 (fun i => some (pa1 i))) := (ho _ (zq_ne h_c h_rs (by simp)) (zq_ne h_c h_qrs (by simp))).trans h_c
          have h_pr : M10 pr = some (.inr (8, [.ref qpr, .int (iI dx)])) := (ho _ (Ne.symm hrp.1) (zq_ne h_pr h_qrs (by simp))).trans h_pr
          have h_qpr : M10 qpr = some (cJ (K 1) 25 fx) := (ho _ (zq_ne h_qpr h_rs (by simp)) (Ne.symm hrp.2)).trans h_qpr
          have h_ap : M10 ap = some (.inr (8, [.ref aq, .int (iI dp)])) := (ho _ hap.2.1 (zq_ne h_ap h_qrs (by simp))).trans h_ap
          have h_aq : M10 aq = some (cJ (K 1) 25 fp) := (ho _ (zq_ne h_aq h_rs (by simp)) hap.2.2).trans h_aq
          have h_rs : M10 rs = some (.inr (8, [.ref qrs, .int (iI dd9)])) := hs1
          have h_qrs : M10 qrs = some (cJ (K 1) 25 (fun j => (-1) * fp j)) := hs2
          have hfr : ∀ q, q ≠ cA → q ≠ pr → q ≠ qpr → (∀ i, 0 ≤ i → i < 144 → q ≠ pa i) → (∀ i, 0 ≤ i → i < 144 → q ≠ qa i) → q ≠ rs → q ≠ qrs → M10 q = M q := fun q g0 g1 g2 g3 g4 g5 g6 => (ho q g5 g6).trans (hfr q g0 g1 g2 g3 g4 g5 g6)
          refine W.eq (g2 := F0 m 114 ls []) rfl ?_
          exact zq_vret hx hb hr hlocks hZ hw ⟨rfl, _, _, pa1, qa1, dg1, fc1, dx, fx, Or.inr ⟨fc1, fp, ov, by rw [show od.toNat = k from by omega]; exact hBr, by rw [if_neg (by omega)]⟩, hDdd9, h_rs, h_qrs, zPG_keepR hP1 h_rsK h_qrsK hrs1 (fun q g0 g1 => ho q g0 g1), hPI, hSb, hUx, h_pr, h_qpr, hfr⟩ d_DT_evaluate_114
      · refine lv_aload_n hx hb d_DT_evaluate_32 rfl (lv_at hl 0 rfl) ?_
        refine lv_iload hx hb d_DT_evaluate_33 (lv_at hl 5 rfl) ?_
        refine lv_iload_n hx hb d_DT_evaluate_35 rfl (lv_at hl 1 rfl) ?_
        refine zq_callV (As := [.int (iI i), .int (iI od)]) (rest := []) ⟨hx, hb, hml, hown, hts⟩ (c_DT_findPivot l D K Mq o cA pr on pa1 qa1 dg1 fc1 i od h_o hP1 (fun i h1 h2 => (hPI i h1 h2).1) ⟨by omega, by omega, by omega⟩) (cwV 2 hts (zg_V tw_432 tw_434 ts_17 tw_7 tw_435) rfl rfl rfl (by decide +kernel) ⟨Nat.le_of_ble_eq_true rfl, Nat.le_of_ble_eq_true rfl⟩) hZ hw hA h_o rfl rfl rfl rfl hl.1 (Nat.le_of_ble_eq_true rfl) d_DT_evaluate_36 ⟨Nat.le_of_ble_eq_true rfl, Nat.le_of_ble_eq_true rfl⟩ (fun v M12 H locs hp hw => ?_)
        obtain ⟨rr11, rfl, hFrr11, hMe⟩ := hp
        rw [hMe] at hw
        refine W.eq (g2 := F0 m 39 ls [.int (iI rr11)]) rfl ?_
        refine lv_istore (lv' := [(6, .int (iI rr11)), (0, .ref o), (1, .int (iI od)), (2, .ref rs), (3, .int (iI ov)), (4, .ref ap), (5, .int (iI i))]) hx hb d_DT_evaluate_39 hl (by decide) rfl (fun ls hl => ?_)
        have hr8 : -1 ≤ rr11 ∧ rr11 < 12 := by rcases hFrr11 with h | h <;> omega
        refine lv_iload hx hb d_DT_evaluate_41 (lv_at hl 0 rfl) ?_
        refine zq_if_ge (tgt := 47) hx hb d_DT_evaluate_43 (by decide) ⟨by omega, by omega⟩ (fun hc13 => ?_) (fun hc13 => ?_)
        · have hFf := zFd_Ff hFrr11 (by omega) (by omega) (fun i h1 h2 => (hPI i h1 h2).1)
          have hr9 : 0 ≤ rr11 ∧ rr11 < 12 := by have := hFf.2.1; omega
          have hge : i ≤ rr11 := hFf.1
          have hPv : 0 ≤ dg1 (rr11 * 12 + i) := by rcases hFrr11 with h | h; exact h.2.2.1; omega
          refine lv_iload hx hb d_DT_evaluate_47 (lv_at hl 0 rfl) ?_
          refine lv_iload hx hb d_DT_evaluate_49 (lv_at hl 6 rfl) ?_
          refine zq_icmp_eq (tgt := 72) hx hb d_DT_evaluate_51 (by decide) ⟨by omega, by omega⟩ ⟨by omega, by omega⟩ (fun hc14 => ?_) (fun hc14 => ?_)
          · exact hJ k i pa1 qa1 dg1 fc1 ov ap aq dp fp dx fx Mq _ _ _ hk (by omega) hP1 hPI hSb hDp hpv hap hUx hms ⟨by omega, by rw [show i = rr11 from by omega] at hPv ⊢; exact hPv⟩ ⟨fc1, ov, rr11, hBr, by rw [← hk]; exact hFf, Or.inl ⟨by rw [← hk]; omega, rfl, rfl⟩⟩ hfr h_o h_c h_pr h_qpr h_ap h_aq h_rs h_qrs hw (lv_sub hl [1, 2, 3, 4, 5, 6] rfl)
          · refine lv_aload_n hx hb d_DT_evaluate_54 rfl (lv_at hl 1 rfl) ?_
            refine lv_iload hx hb d_DT_evaluate_55 (lv_at hl 0 rfl) ?_
            refine lv_iload hx hb d_DT_evaluate_57 (lv_at hl 6 rfl) ?_
            refine zq_callV (As := [.int (iI rr11), .int (iI i)]) (rest := []) ⟨hx, hb, hml, hown, hts⟩ (c_DT_exchangeRows l D K Mq o cA pr on pa1 qa1 dg1 fc1 rr11 i h_o hP1 (fun i h1 h2 => (hPI i h1 h2).1) ⟨by omega, by omega⟩ ⟨by omega, by omega⟩) (cwV 2 hts (zg_V tw_440 tw_442 ts_18 tw_7 tw_443) rfl rfl rfl (by decide +kernel) ⟨Nat.le_of_ble_eq_true rfl, Nat.le_of_ble_eq_true rfl⟩) hZ hw hA h_o rfl rfl rfl rfl hl.1 (Nat.le_of_ble_eq_true rfl) d_DT_evaluate_59 ⟨Nat.le_of_ble_eq_true rfl, Nat.le_of_ble_eq_true rfl⟩ (fun v M15 H locs hp hw => ?_)
            obtain ⟨rfl, hgN, ho⟩ := hp
            have h_o : M15 o = some (.inr (3, [.ref cA, .ref pr, .ref on])) := (ho _ (zq_ne h_o h_c (by simp))).trans h_o
            have h_pr : M15 pr = some (.inr (8, [.ref qpr, .int (iI dx)])) := (ho _ (zq_ne h_pr h_c (by simp))).trans h_pr
            have h_qpr : M15 qpr = some (cJ (K 1) 25 fx) := (ho _ (zq_ne h_qpr h_c (by simp))).trans h_qpr
            have h_ap : M15 ap = some (.inr (8, [.ref aq, .int (iI dp)])) := (ho _ (zq_ne h_ap h_c (by simp))).trans h_ap
            have h_aq : M15 aq = some (cJ (K 1) 25 fp) := (ho _ (zq_ne h_aq h_c (by simp))).trans h_aq
            have h_rs : M15 rs = some (.inr (8, [.ref qrs, .int (iI (-1))])) := (ho _ (zq_ne h_rs h_c (by simp))).trans h_rs
            have h_qrs : M15 qrs = some (cJ (K 1) 25 (fun _ => 0)) := (ho _ (zq_ne h_qrs h_c (by simp))).trans h_qrs
            have h_c : M15 cA = some (cQ (K 3) 144 (fun z0 => some (pa1 (zri rr11 i z0)))) := hgN.1
            have hfr : ∀ q, q ≠ cA → q ≠ pr → q ≠ qpr → (∀ i, 0 ≤ i → i < 144 → q ≠ pa i) → (∀ i, 0 ≤ i → i < 144 → q ≠ qa i) → q ≠ rs → q ≠ qrs → M15 q = M q := fun q g0 g1 g2 g3 g4 g5 g6 => (ho q g0).trans (hfr q g0 g1 g2 g3 g4 g5 g6)
            refine W.eq (g2 := F0 m 62 ls []) rfl ?_
            have hPs := hgN
            refine lv_iload_n hx hb d_DT_evaluate_62 rfl (lv_at hl 4 rfl) ?_
            refine zq_if_ne (tgt := 70) hx hb d_DT_evaluate_63 (by decide) ⟨by omega, by omega⟩ (fun hc16 => ?_) (fun hc16 => ?_)
            · refine lv_iconst (v := iI 0) hx hb d_DT_evaluate_70 rfl ?_
              refine lv_istore_n (lv' := [(3, .int (iI 0)), (6, .int (iI rr11)), (0, .ref o), (1, .int (iI od)), (2, .ref rs), (4, .ref ap), (5, .int (iI i))]) hx hb d_DT_evaluate_71 rfl hl (by decide) rfl (fun ls hl => ?_)
              exact hJ k i (fun x => pa1 (zri rr11 i x)) (fun x => qa1 (zri rr11 i x)) (fun x => dg1 (zri rr11 i x)) (fun x => fc1 (zri rr11 i x)) 0 ap aq dp fp dx fx M15 _ _ _ hk (by omega) hPs (zPI_swp hPI hr9 (by omega)) (zSb_swp hSb hr9 (by omega)) hDp (fun x h1 h2 h3 => by have z := zri_in hr9 (show 0 ≤ i ∧ i < 12 by omega) ⟨h1, h2⟩; exact hpv _ z.1 z.2 (zri_row (by omega) (by omega) h3 h1)) hap hUx hms ⟨by omega, by show 0 ≤ dg1 (zri rr11 i (i * 12 + i)); unfold zri; rw [if_pos (by omega), show (i * 12 + i) % 12 = i from by omega]; exact hPv⟩ ⟨fc1, ov, rr11, hBr, by rw [← hk]; exact hFf, Or.inr ⟨by rw [← hk]; omega, by rw [← hk], by omega⟩⟩ hfr h_o h_c h_pr h_qpr h_ap h_aq h_rs h_qrs hw (lv_sub hl [2, 3, 4, 0, 5, 6] rfl)
            · refine lv_iconst (v := iI 1) hx hb d_DT_evaluate_66 rfl ?_
              refine lv_goto (tgt := 71) hx hb d_DT_evaluate_67 (by decide) ?_
              refine lv_istore_n (lv' := [(3, .int (iI 1)), (6, .int (iI rr11)), (0, .ref o), (1, .int (iI od)), (2, .ref rs), (4, .ref ap), (5, .int (iI i))]) hx hb d_DT_evaluate_71 rfl hl (by decide) rfl (fun ls hl => ?_)
              exact hJ k i (fun x => pa1 (zri rr11 i x)) (fun x => qa1 (zri rr11 i x)) (fun x => dg1 (zri rr11 i x)) (fun x => fc1 (zri rr11 i x)) 1 ap aq dp fp dx fx M15 _ _ _ hk (by omega) hPs (zPI_swp hPI hr9 (by omega)) (zSb_swp hSb hr9 (by omega)) hDp (fun x h1 h2 h3 => by have z := zri_in hr9 (show 0 ≤ i ∧ i < 12 by omega) ⟨h1, h2⟩; exact hpv _ z.1 z.2 (zri_row (by omega) (by omega) h3 h1)) hap hUx hms ⟨by omega, by show 0 ≤ dg1 (zri rr11 i (i * 12 + i)); unfold zri; rw [if_pos (by omega), show (i * 12 + i) % 12 = i from by omega]; exact hPv⟩ ⟨fc1, ov, rr11, hBr, by rw [← hk]; exact hFf, Or.inr ⟨by rw [← hk]; omega, by rw [← hk], by omega⟩⟩ hfr h_o h_c h_pr h_qpr h_ap h_aq h_rs h_qrs hw (lv_sub hl [2, 3, 4, 0, 5, 6] rfl)
        · exact zq_vret hx hb hr hlocks hZ hw ⟨rfl, fun _ => 0, -1, pa1, qa1, dg1, fc1, dx, fx, Or.inl ⟨k, fc1, fp, ov, by omega, hBr, fun x h1 h2 => by rw [← hk] at h1 ⊢; exact zFd_no hFrr11 (by omega) (by omega) (fun i h1 h2 => (hPI i h1 h2).1) x h1 h2, rfl⟩, zD_0, h_rs, h_qrs, hP1, hPI, hSb, hUx, h_pr, h_qpr, hfr⟩ d_DT_evaluate_46
  have hfr0 : ∀ q, q ≠ rs → q ≠ qrs → M q = M q := fun q _ _ => rfl
  refine lv_aload_n hx hb d_DT_evaluate_0 rfl (lv_at hl 2 rfl) ?_
  refine zq_callV (As := []) (rest := []) ⟨hx, hb, hml, hown, hts⟩ (c_PO_setZero l D K M rs qrs drs frs h_rs h_qrs hUr) (cwV 0 hts (zg_V tw_431 tw_134 tw_135 tw_8 tw_136) rfl rfl rfl (by decide +kernel) ⟨Nat.le_of_ble_eq_true rfl, Nat.le_of_ble_eq_true rfl⟩) hZ hw hA h_rs rfl rfl rfl rfl hl.1 (Nat.le_of_ble_eq_true rfl) d_DT_evaluate_1 ⟨Nat.le_of_ble_eq_true rfl, Nat.le_of_ble_eq_true rfl⟩ (fun v M17 H locs hp hw => ?_)
  obtain ⟨rfl, hs1, hs2, ho⟩ := hp
  have h_o : M17 o = some (.inr (3, [.ref cA, .ref pr, .ref on])) := (ho _ (zq_ne h_o h_rs (by simp)) (zq_ne h_o h_qrs (by simp))).trans h_o
  have h_c : M17 cA = some (cQ (K 3) 144 (fun i => some (pa i))) := (ho _ (zq_ne h_c h_rs (by simp)) (zq_ne h_c h_qrs (by simp))).trans h_c
  have h_pr : M17 pr = some (.inr (8, [.ref qpr, .int (iI dpr)])) := (ho _ (Ne.symm hrp.1) (zq_ne h_pr h_qrs (by simp))).trans h_pr
  have h_qpr : M17 qpr = some (cJ (K 1) 25 fpr) := (ho _ (zq_ne h_qpr h_rs (by simp)) (Ne.symm hrp.2)).trans h_qpr
  have h_on : M17 on = some (.inr (8, [.ref qon, .int (iI 0)])) := (ho _ hors.1 (zq_ne h_on h_qrs (by simp))).trans h_on
  have h_qon : M17 qon = some (cJ (K 1) 25 (zu (zu (fun _ => 0) 0 1) 1 0)) := (ho _ (zq_ne h_qon h_rs (by simp)) hors.2).trans h_qon
  have h_rs : M17 rs = some (.inr (8, [.ref qrs, .int (iI (-1))])) := hs1
  have h_qrs : M17 qrs = some (cJ (K 1) 25 (fun _ => 0)) := hs2
  have hfr : ∀ q, q ≠ cA → q ≠ pr → q ≠ qpr → (∀ i, 0 ≤ i → i < 144 → q ≠ pa i) → (∀ i, 0 ≤ i → i < 144 → q ≠ qa i) → q ≠ rs → q ≠ qrs → M17 q = M q := fun q g0 g1 g2 g3 g4 g5 g6 => (ho q g5 g6).trans (hfr q g0 g1 g2 g3 g4 g5 g6)
  have hfr0 : ∀ q, q ≠ rs → q ≠ qrs → M17 q = M q := fun q g0 g1 => (ho q g0 g1).trans (hfr0 q g0 g1)
  refine W.eq (g2 := F0 m 4 ls []) rfl ?_
  refine lv_iload_n hx hb d_DT_evaluate_4 rfl (lv_at hl 1 rfl) ?_
  refine zq_if_lt (tgt := 14) hx hb d_DT_evaluate_5 (by decide) ⟨by omega, by omega⟩ (fun hc18 => ?_) (fun hc18 => ?_)
  · exact absurd hc18 (by omega)
  · refine lv_iload_n hx hb d_DT_evaluate_8 rfl (lv_at hl 1 rfl) ?_
    refine lv_bipush (v := iI 12) hx hb d_DT_evaluate_9 (by decide) ?_
    refine zq_icmp_le (tgt := 15) hx hb d_DT_evaluate_11 (by decide) ⟨by omega, by omega⟩ (by decide) (fun hc19 => ?_) (fun hc19 => ?_)
    · refine lv_iconst (v := iI 0) hx hb d_DT_evaluate_15 rfl ?_
      refine lv_istore_n (lv' := [(3, .int (iI 0)), (0, .ref o), (1, .int (iI od)), (2, .ref rs)]) hx hb d_DT_evaluate_16 rfl hl (by decide) rfl (fun ls hl => ?_)
      refine lv_aload_n hx hb d_DT_evaluate_17 rfl (lv_at hl 1 rfl) ?_
      refine zq_get hx hb hts i_DT hown hK hw h_o rfl 2 (by decide) (hts _ tw_143) rfl d_DT_evaluate_18 ?_
      refine lv_astore (lv' := [(4, .ref on), (3, .int (iI 0)), (0, .ref o), (1, .int (iI od)), (2, .ref rs)]) hx hb d_DT_evaluate_21 hl (by decide) rfl (fun ls hl => ?_)
      refine lv_iconst (v := iI 0) hx hb d_DT_evaluate_23 rfl ?_
      refine lv_istore (lv' := [(5, .int (iI 0)), (4, .ref on), (3, .int (iI 0)), (0, .ref o), (1, .int (iI od)), (2, .ref rs)]) hx hb d_DT_evaluate_24 hl (by decide) rfl (fun ls hl => ?_)
      exact hE _ 0 0 pa qa dg fc 0 on qon 0 (zu (zu (fun _ => 0) 0 1) 1 0) dpr fpr M17 _ _ _ rfl ⟨by omega, Or.inl rfl⟩ (zPG_keepR hPG h_rs0 h_qrs0 hrsD hfr0) hPI0 (fun i h1 h2 => ⟨i, h1, h2, rfl, rfl⟩) ⟨zD_one, by decide, zB_one, by decide⟩ (fun x h1 h2 _ => hon x h1 h2) ⟨hopr, hors⟩ hUp ⟨rfl, rfl, rfl⟩ (Nat.lt_succ_self _) hfr h_o h_c h_pr h_qpr h_on h_qon h_rs h_qrs hw (lv_sub hl [3, 4, 5, 2, 1, 0] rfl)
    · exact absurd hc19 (by omega)
