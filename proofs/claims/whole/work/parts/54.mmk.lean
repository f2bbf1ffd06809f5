abbrev P_MM_know (K : Nat → ClassId) (M : zq_M) (o : Nat) (bd : Nat → Nat) (put : Int) (pS : Int → Int) (pL : Int → Int) (nn : Int) (cir : Int) (sg : Int → Int) (lb : Int → Int) (kn : Int) (arcs : Int) (al : Int → Int) (on : Int → Int) (tw : Int → Int) (mns : Int) (av : Int → Int) (po : Int → Int) : Option Value → zq_M → Prop := fun v M' => v = none ∧ ∃ arcs1 al1 on1 tw1 mns1 av1 po1, zKn nn cir sg lb arcs1 al1 on1 tw1 mns1 av1 po1 ∧ zMK K M' o bd put pS pL nn cir sg lb 1 arcs1 al1 on1 tw1 mns1 av1 po1 ∧ ∀ q, q ≠ o → (∀ i, i < 18 → q ≠ bd i) → M' q = M q
set_option maxHeartbeats 4000000 in
set_option maxRecDepth 100000 in
theorem c_MM_know (l : Launch) (D : va_G) (K : Nat → ClassId) (M : zq_M) (o : Nat) (bd : Nat → Nat) (put : Int) (pS : Int → Int) (pL : Int → Int) (nn : Int) (cir : Int) (sg : Int → Int) (lb : Int → Int) (kn : Int) (arcs : Int) (al : Int → Int) (on : Int → Int) (tw : Int → Int) (mns : Int) (av : Int → Int) (po : Int → Int) (hS : zMK K M o bd put pS pL nn cir sg lb kn arcs al on tw mns av po) (hkn : kn = 0 ∨ (kn = 1 ∧ zKn nn cir sg lb arcs al on tw mns av po)) (hnn : 0 ≤ nn ∧ nn ≤ 12) (hcir : 0 ≤ cir ∧ cir ≤ 9) (hgd : zGd sg lb (4 * nn)) (hmath : zMth nn cir sg lb) : zq_Met l y_MM_know (.code y_MM_know b_MM_know 7 none :: lw_gd) { frames := 6, cells := 0, slots := 0, locals := 139 } D vwCl (zT K) [.ref o] M (P_MM_know K M o bd put pS pL nn cir sg lb kn arcs al on tw mns av po) 0 0 := by
  refine zq_start (cc := b_MM_know) (maxL := 7) (ret := none) (by decide) rfl (Nat.le_of_ble_eq_true rfl) ?_
  intro p e s m below meth co A ls hx hb hr hml hts hown hnm hlocks hA hZ hw hl
  have hts : ∀ w ∈ lw_gd, w.before [.ref o].toArray s = true := fun w h => hts w (List.mem_cons_of_mem _ h)
  have hown : s.vm.findClass R_MM = some m.cls := hown
  have hK := hZ.1
  have hl : lv_has ls 7 [(0, .ref o)] := hl
  have hfr : ∀ q, q ≠ o → (∀ i, i < 18 → q ≠ bd i) → M q = M q := fun q _ _ => rfl
  have hS0 := hS
  obtain ⟨th, wr, oN, oC, lbs, fcs, oS, oL, rw, fr, pi, fo, sm, le, gd, h_o, hbd, h_pS, h_pL, h_sg, h_lb, h_oS, h_oL, h_rw, h_fr, h_pi, h_fo, h_al, h_on, h_tw, h_sm, h_av, h_po, h_le, h_gd, hrg⟩ := hS
  have hpS : ∀ j, inI (pS j) := fun j => (hrg j).1
  have hpL : ∀ j, inI (pL j) := fun j => (hrg j).2.1
  have hsg : ∀ j, inI (sg j) := fun j => (hrg j).2.2.1
  have hlb : ∀ j, inI (lb j) := fun j => (hrg j).2.2.2.1
  have hoS : ∀ j, inI (oS j) := fun j => (hrg j).2.2.2.2.1
  have hoL : ∀ j, inI (oL j) := fun j => (hrg j).2.2.2.2.2.1
  have hrw : ∀ j, inI (rw j) := fun j => (hrg j).2.2.2.2.2.2.1
  have hfo : ∀ j, inI (fo j) := fun j => (hrg j).2.2.2.2.2.2.2.1
  have hal : ∀ j, inI (al j) := fun j => (hrg j).2.2.2.2.2.2.2.2
  refine lv_aload_n hx hb d_MM_know_0 rfl (lv_at hl 0 rfl) ?_
  refine zq_get hx hb hts i_MM hown hK hw h_o rfl 28 (by decide) (hts _ tw_614) rfl d_MM_know_1 ?_
  refine zq_if_eq (tgt := 8) hx hb d_MM_know_4 (by decide) (by rcases hkn with q | q; rw [q]; decide; rw [q.1]; decide) (fun hc1 => ?_) (fun hc1 => ?_)
  · refine lv_aload_n hx hb d_MM_know_8 rfl (lv_at hl 0 rfl) ?_
    refine lv_iconst (v := iI 1) hx hb d_MM_know_9 rfl ?_
    refine zq_put (ci := 9) (v := .int (iI 1)) (ty := .boolean) hx hb hts i_MM t_MM t_MM_ok n_MM hown hK hw h_o rfl 28 (by decide) (hts _ tw_614) rfl (by decide +kernel) rfl rfl (Nat.le_of_ble_eq_true rfl) d_MM_know_10 (fun M2 H locs hs ho hw => ?_)
    have h_pS : M2 (bd 0) = some (cI (K 0) 12 pS) := (ho _ (zq_ne h_pS h_o (by simp))).trans h_pS
    have h_pL : M2 (bd 1) = some (cI (K 0) 48 pL) := (ho _ (zq_ne h_pL h_o (by simp))).trans h_pL
    have h_sg : M2 (bd 2) = some (cI (K 0) 12 sg) := (ho _ (zq_ne h_sg h_o (by simp))).trans h_sg
    have h_lb : M2 (bd 3) = some (cI (K 0) 48 lb) := (ho _ (zq_ne h_lb h_o (by simp))).trans h_lb
    have h_oS : M2 (bd 4) = some (cI (K 0) 12 oS) := (ho _ (zq_ne h_oS h_o (by simp))).trans h_oS
    have h_oL : M2 (bd 5) = some (cI (K 0) 48 oL) := (ho _ (zq_ne h_oL h_o (by simp))).trans h_oL
    have h_rw : M2 (bd 6) = some (cI (K 0) 48 rw) := (ho _ (zq_ne h_rw h_o (by simp))).trans h_rw
    have h_fr : M2 (bd 7) = some (cI (K 0) 48 fr) := (ho _ (zq_ne h_fr h_o (by simp))).trans h_fr
    have h_pi : M2 (bd 8) = some (cI (K 0) 12 pi) := (ho _ (zq_ne h_pi h_o (by simp))).trans h_pi
    have h_fo : M2 (bd 9) = some (cI (K 0) 48 fo) := (ho _ (zq_ne h_fo h_o (by simp))).trans h_fo
    have h_al : M2 (bd 10) = some (cI (K 0) 40 al) := (ho _ (zq_ne h_al h_o (by simp))).trans h_al
    have h_on : M2 (bd 11) = some (cI (K 0) 384 on) := (ho _ (zq_ne h_on h_o (by simp))).trans h_on
    have h_tw : M2 (bd 12) = some (cI (K 0) 384 tw) := (ho _ (zq_ne h_tw h_o (by simp))).trans h_tw
    have h_sm : M2 (bd 13) = some (cJ (K 1) 114688 sm) := (ho _ (zq_ne h_sm h_o (by simp))).trans h_sm
    have h_av : M2 (bd 14) = some (cJ (K 1) 2100 av) := (ho _ (zq_ne h_av h_o (by simp))).trans h_av
    have h_po : M2 (bd 15) = some (cJ (K 1) 14 po) := (ho _ (zq_ne h_po h_o (by simp))).trans h_po
    have h_le : M2 (bd 16) = some (cJ (K 1) 28 le) := (ho _ (zq_ne h_le h_o (by simp))).trans h_le
    have h_gd : M2 (bd 17) = some (cI (K 0) 384 gd) := (ho _ (zq_ne h_gd h_o (by simp))).trans h_gd
    have h_o : M2 o = some (.inr (9, [.int (iI th), .int (iI put), .int (iI wr), .ref (bd 0), .ref (bd 1), .int (iI nn), .int (iI cir), .int (iI oN), .int (iI oC), .ref (bd 2), .ref (bd 3), .ref (bd 4), .ref (bd 5), .int (iI lbs), .ref (bd 6), .ref (bd 7), .ref (bd 8), .int (iI fcs), .ref (bd 9), .int (iI arcs), .ref (bd 10), .ref (bd 11), .ref (bd 12), .ref (bd 13), .int (iI mns), .ref (bd 14), .ref (bd 15), .ref (bd 16), .int (iI 1), .ref (bd 17)])) := hs
    have hfr : ∀ q, q ≠ o → (∀ i, i < 18 → q ≠ bd i) → M2 q = M q := fun q g0 g1 => (ho q g0).trans (hfr q g0 g1)
    refine lv_aload_n hx hb d_MM_know_13 rfl (lv_at hl 0 rfl) ?_
    refine zq_callV (As := []) (rest := []) ⟨hx, hb, hml, hown, hts⟩ (c_MM_fill l D K M2 o bd th put wr nn cir oN oC lbs fcs arcs mns 1 sg lb rw al on tw   h_o hbd h_sg h_lb h_rw h_al h_on h_tw hsg hlb hnn hrw hal hgd hcir) (cwV 0 hts (zg_V tw_745 tw_747 ts_40 tw_10 tw_748) rfl rfl rfl (by decide +kernel) ⟨Nat.le_of_ble_eq_true rfl, Nat.le_of_ble_eq_true rfl⟩) hZ hw hA h_o rfl rfl rfl rfl hl.1 (Nat.le_of_ble_eq_true rfl) d_MM_know_14 ⟨Nat.le_of_ble_eq_true rfl, Nat.le_of_ble_eq_true rfl⟩ (fun v M3 H locs hp hw => ?_)
    obtain ⟨rfl, cV, fV, c0, alV, NV, onV, twV, hLsV, hAlV, hAzV, hAiV, hNV, hFiV, hs1, hs2, hs3, hs4, hs5, ho⟩ := hp
    have h_pS : M3 (bd 0) = some (cI (K 0) 12 pS) := (ho _ (zq_ne h_pS h_o (by simp)) (zbd hbd 0 6) (zbd hbd 0 10) (zbd hbd 0 11) (zbd hbd 0 12)).trans h_pS
    have h_pL : M3 (bd 1) = some (cI (K 0) 48 pL) := (ho _ (zq_ne h_pL h_o (by simp)) (zbd hbd 1 6) (zbd hbd 1 10) (zbd hbd 1 11) (zbd hbd 1 12)).trans h_pL
    have h_sg : M3 (bd 2) = some (cI (K 0) 12 sg) := (ho _ (zq_ne h_sg h_o (by simp)) (zbd hbd 2 6) (zbd hbd 2 10) (zbd hbd 2 11) (zbd hbd 2 12)).trans h_sg
    have h_lb : M3 (bd 3) = some (cI (K 0) 48 lb) := (ho _ (zq_ne h_lb h_o (by simp)) (zbd hbd 3 6) (zbd hbd 3 10) (zbd hbd 3 11) (zbd hbd 3 12)).trans h_lb
    have h_oS : M3 (bd 4) = some (cI (K 0) 12 oS) := (ho _ (zq_ne h_oS h_o (by simp)) (zbd hbd 4 6) (zbd hbd 4 10) (zbd hbd 4 11) (zbd hbd 4 12)).trans h_oS
    have h_oL : M3 (bd 5) = some (cI (K 0) 48 oL) := (ho _ (zq_ne h_oL h_o (by simp)) (zbd hbd 5 6) (zbd hbd 5 10) (zbd hbd 5 11) (zbd hbd 5 12)).trans h_oL
    have h_fr : M3 (bd 7) = some (cI (K 0) 48 fr) := (ho _ (zq_ne h_fr h_o (by simp)) (Ne.symm (zbd hbd 6 7)) (zbd hbd 7 10) (zbd hbd 7 11) (zbd hbd 7 12)).trans h_fr
    have h_pi : M3 (bd 8) = some (cI (K 0) 12 pi) := (ho _ (zq_ne h_pi h_o (by simp)) (Ne.symm (zbd hbd 6 8)) (zbd hbd 8 10) (zbd hbd 8 11) (zbd hbd 8 12)).trans h_pi
    have h_fo : M3 (bd 9) = some (cI (K 0) 48 fo) := (ho _ (zq_ne h_fo h_o (by simp)) (Ne.symm (zbd hbd 6 9)) (zbd hbd 9 10) (zbd hbd 9 11) (zbd hbd 9 12)).trans h_fo
    have h_sm : M3 (bd 13) = some (cJ (K 1) 114688 sm) := (ho _ (zq_ne h_sm h_o (by simp)) (Ne.symm (zbd hbd 6 13)) (Ne.symm (zbd hbd 10 13)) (Ne.symm (zbd hbd 11 13)) (Ne.symm (zbd hbd 12 13))).trans h_sm
    have h_av : M3 (bd 14) = some (cJ (K 1) 2100 av) := (ho _ (zq_ne h_av h_o (by simp)) (Ne.symm (zbd hbd 6 14)) (Ne.symm (zbd hbd 10 14)) (Ne.symm (zbd hbd 11 14)) (Ne.symm (zbd hbd 12 14))).trans h_av
    have h_po : M3 (bd 15) = some (cJ (K 1) 14 po) := (ho _ (zq_ne h_po h_o (by simp)) (Ne.symm (zbd hbd 6 15)) (Ne.symm (zbd hbd 10 15)) (Ne.symm (zbd hbd 11 15)) (Ne.symm (zbd hbd 12 15))).trans h_po
    have h_le : M3 (bd 16) = some (cJ (K 1) 28 le) := (ho _ (zq_ne h_le h_o (by simp)) (Ne.symm (zbd hbd 6 16)) (Ne.symm (zbd hbd 10 16)) (Ne.symm (zbd hbd 11 16)) (Ne.symm (zbd hbd 12 16))).trans h_le
    have h_gd : M3 (bd 17) = some (cI (K 0) 384 gd) := (ho _ (zq_ne h_gd h_o (by simp)) (Ne.symm (zbd hbd 6 17)) (Ne.symm (zbd hbd 10 17)) (Ne.symm (zbd hbd 11 17)) (Ne.symm (zbd hbd 12 17))).trans h_gd
    have h_o : M3 o = some (.inr (9, [.int (iI th), .int (iI put), .int (iI wr), .ref (bd 0), .ref (bd 1), .int (iI nn), .int (iI cir), .int (iI oN), .int (iI oC), .ref (bd 2), .ref (bd 3), .ref (bd 4), .ref (bd 5), .int (iI cV), .ref (bd 6), .ref (bd 7), .ref (bd 8), .int (iI fcs), .ref (bd 9), .int (iI (c0 + cir)), .ref (bd 10), .ref (bd 11), .ref (bd 12), .ref (bd 13), .int (iI mns), .ref (bd 14), .ref (bd 15), .ref (bd 16), .int (iI 1), .ref (bd 17)])) := hs1
    have h_rw : M3 (bd 6) = some (cI (K 0) 48 fV) := hs2
    have h_al : M3 (bd 10) = some (cI (K 0) 40 alV) := hs3
    have h_on : M3 (bd 11) = some (cI (K 0) 384 onV) := hs4
    have h_tw : M3 (bd 12) = some (cI (K 0) 384 twV) := hs5
    have hfr : ∀ q, q ≠ o → (∀ i, i < 18 → q ≠ bd i) → M3 q = M q := fun q g0 g1 => (ho q g0 (g1 6 (by decide)) (g1 10 (by decide)) (g1 11 (by decide)) (g1 12 (by decide))).trans (hfr q g0 g1)
    refine W.eq (g2 := F0 m 17 ls []) rfl ?_
    obtain ⟨ar, har⟩ : ∃ z, z = c0 + cir := ⟨_, rfl⟩
    rw [← har] at h_o
    have hM3 := hmath c0 alV NV onV twV hAlV hNV hFiV
    have hge := hM3.1
    have hle := hM3.2.1
    have hFin := zFi_in hFiV
    refine lv_aload_n hx hb d_MM_know_17 rfl (lv_at hl 0 rfl) ?_
    refine lv_iconst (v := iI 0) hx hb d_MM_know_18 rfl ?_
    refine zq_put (ci := 9) (v := .int (iI 0)) (ty := .int) hx hb hts i_MM t_MM t_MM_ok n_MM hown hK hw h_o rfl 24 (by decide) (hts _ tw_610) rfl (by decide +kernel) rfl rfl (Nat.le_of_ble_eq_true rfl) d_MM_know_19 (fun M4 H locs hs ho hw => ?_)
    have h_pS : M4 (bd 0) = some (cI (K 0) 12 pS) := (ho _ (zq_ne h_pS h_o (by simp))).trans h_pS
    have h_pL : M4 (bd 1) = some (cI (K 0) 48 pL) := (ho _ (zq_ne h_pL h_o (by simp))).trans h_pL
    have h_sg : M4 (bd 2) = some (cI (K 0) 12 sg) := (ho _ (zq_ne h_sg h_o (by simp))).trans h_sg
    have h_lb : M4 (bd 3) = some (cI (K 0) 48 lb) := (ho _ (zq_ne h_lb h_o (by simp))).trans h_lb
    have h_oS : M4 (bd 4) = some (cI (K 0) 12 oS) := (ho _ (zq_ne h_oS h_o (by simp))).trans h_oS
    have h_oL : M4 (bd 5) = some (cI (K 0) 48 oL) := (ho _ (zq_ne h_oL h_o (by simp))).trans h_oL
    have h_rw : M4 (bd 6) = some (cI (K 0) 48 fV) := (ho _ (zq_ne h_rw h_o (by simp))).trans h_rw
    have h_fr : M4 (bd 7) = some (cI (K 0) 48 fr) := (ho _ (zq_ne h_fr h_o (by simp))).trans h_fr
    have h_pi : M4 (bd 8) = some (cI (K 0) 12 pi) := (ho _ (zq_ne h_pi h_o (by simp))).trans h_pi
    have h_fo : M4 (bd 9) = some (cI (K 0) 48 fo) := (ho _ (zq_ne h_fo h_o (by simp))).trans h_fo
    have h_al : M4 (bd 10) = some (cI (K 0) 40 alV) := (ho _ (zq_ne h_al h_o (by simp))).trans h_al
    have h_on : M4 (bd 11) = some (cI (K 0) 384 onV) := (ho _ (zq_ne h_on h_o (by simp))).trans h_on
    have h_tw : M4 (bd 12) = some (cI (K 0) 384 twV) := (ho _ (zq_ne h_tw h_o (by simp))).trans h_tw
    have h_sm : M4 (bd 13) = some (cJ (K 1) 114688 sm) := (ho _ (zq_ne h_sm h_o (by simp))).trans h_sm
    have h_av : M4 (bd 14) = some (cJ (K 1) 2100 av) := (ho _ (zq_ne h_av h_o (by simp))).trans h_av
    have h_po : M4 (bd 15) = some (cJ (K 1) 14 po) := (ho _ (zq_ne h_po h_o (by simp))).trans h_po
    have h_le : M4 (bd 16) = some (cJ (K 1) 28 le) := (ho _ (zq_ne h_le h_o (by simp))).trans h_le
    have h_gd : M4 (bd 17) = some (cI (K 0) 384 gd) := (ho _ (zq_ne h_gd h_o (by simp))).trans h_gd
    have h_o : M4 o = some (.inr (9, [.int (iI th), .int (iI put), .int (iI wr), .ref (bd 0), .ref (bd 1), .int (iI nn), .int (iI cir), .int (iI oN), .int (iI oC), .ref (bd 2), .ref (bd 3), .ref (bd 4), .ref (bd 5), .int (iI cV), .ref (bd 6), .ref (bd 7), .ref (bd 8), .int (iI fcs), .ref (bd 9), .int (iI ar), .ref (bd 10), .ref (bd 11), .ref (bd 12), .ref (bd 13), .int (iI 0), .ref (bd 14), .ref (bd 15), .ref (bd 16), .int (iI 1), .ref (bd 17)])) := hs
    have hfr : ∀ q, q ≠ o → (∀ i, i < 18 → q ≠ bd i) → M4 q = M q := fun q g0 g1 => (ho q g0).trans (hfr q g0 g1)
    have hL1 : ∀ (n : Nat) (e0 : Int) (gp : Int → Int) (Mq : zq_M) (H : Heap) (locs : List Loc) (ls : Array Slot), (0 ≤ e0 ∧ e0 ≤ 14) → (∀ z, gp z = if 0 ≤ z ∧ z < e0 then 0 else po z) → (14 - e0).toNat < n → (∀ q, q ≠ o → (∀ i, i < 18 → q ≠ bd i) → Mq q = M q) → Mq o = some (.inr (9, [.int (iI th), .int (iI put), .int (iI wr), .ref (bd 0), .ref (bd 1), .int (iI nn), .int (iI cir), .int (iI oN), .int (iI oC), .ref (bd 2), .ref (bd 3), .ref (bd 4), .ref (bd 5), .int (iI cV), .ref (bd 6), .ref (bd 7), .ref (bd 8), .int (iI fcs), .ref (bd 9), .int (iI ar), .ref (bd 10), .ref (bd 11), .ref (bd 12), .ref (bd 13), .int (iI 0), .ref (bd 14), .ref (bd 15), .ref (bd 16), .int (iI 1), .ref (bd 17)])) → Mq (bd 0) = some (cI (K 0) 12 pS) → Mq (bd 1) = some (cI (K 0) 48 pL) → Mq (bd 2) = some (cI (K 0) 12 sg) → Mq (bd 3) = some (cI (K 0) 48 lb) → Mq (bd 4) = some (cI (K 0) 12 oS) → Mq (bd 5) = some (cI (K 0) 48 oL) → Mq (bd 6) = some (cI (K 0) 48 fV) → Mq (bd 7) = some (cI (K 0) 48 fr) → Mq (bd 8) = some (cI (K 0) 12 pi) → Mq (bd 9) = some (cI (K 0) 48 fo) → Mq (bd 10) = some (cI (K 0) 40 alV) → Mq (bd 11) = some (cI (K 0) 384 onV) → Mq (bd 12) = some (cI (K 0) 384 twV) → Mq (bd 13) = some (cJ (K 1) 114688 sm) → Mq (bd 14) = some (cJ (K 1) 2100 av) → Mq (bd 15) = some (cJ (K 1) 14 gp) → Mq (bd 16) = some (cJ (K 1) 28 le) → Mq (bd 17) = some (cI (K 0) 384 gd) → zq_W D vwCl A s.heap Mq H locs → lv_has ls 7 [(0, .ref o), (1, .int (iI e0))] → W p l e ({ frames := 6, cells := 0, slots := 0, locals := 139 } : Room) s m [.ref o].toArray below meth co H locs 0 0 (MQ below (zq_Q D vwCl (zT K) (P_MM_know K M o bd put pS pL nn cir sg lb kn arcs al on tw mns av po) A) [.ref o].toArray s 0 0 A) (F0 m 24 ls []) := by
      intro n
      induction n with
      | zero =>
        intro e0 gp Mq H locs ls he hgp hms hfr h_o h_pS h_pL h_sg h_lb h_oS h_oL h_rw h_fr h_pi h_fo h_al h_on h_tw h_sm h_av h_po h_le h_gd hw hl
        exact absurd hms (Nat.not_lt_zero _)
      | succ n ih_hL1 =>
        intro e0 gp Mq H locs ls he hgp hms hfr h_o h_pS h_pL h_sg h_lb h_oS h_oL h_rw h_fr h_pi h_fo h_al h_on h_tw h_sm h_av h_po h_le h_gd hw hl
        refine lv_iload_n hx hb d_MM_know_24 rfl (lv_at hl 1 rfl) ?_
        refine lv_bipush (v := iI 14) hx hb d_MM_know_25 (by decide) ?_
        refine zq_icmp_ge (tgt := 43) hx hb d_MM_know_27 (by decide) ⟨by omega, by omega⟩ (by decide) (fun hc5 => ?_) (fun hc5 => ?_)
        · refine lv_aload_n hx hb d_MM_know_43 rfl (lv_at hl 0 rfl) ?_
          refine zq_get hx hb hts i_MM hown hK hw h_o rfl 19 (by decide) (hts _ tw_605) rfl d_MM_know_44 ?_
          refine zq_if_eq (tgt := 63) hx hb d_MM_know_47 (by decide) ⟨by omega, by omega⟩ (fun hc6 => ?_) (fun hc6 => ?_)
          · exact zq_vret hx hb hr hlocks hZ hw ⟨rfl, ar, alV, onV, twV, 0, av, gp, ⟨c0, NV, hAlV, har, hAzV, hNV, hFiV, Or.inl ⟨by omega, rfl⟩, Or.inl ⟨fun e h1 h2 => by rw [hgp, if_pos ⟨h1, by omega⟩], fun j h1 h2 => by omega⟩, ⟨fun j h1 h2 => by omega, fun mi ki lo fm h1 h2 => by omega⟩, hFin, fun e h1 h2 => by rw [hgp, if_pos ⟨h1, by omega⟩]; decide⟩, ⟨_, _, _, _, _, _, _, _, _, _, _, _, _, _, _, h_o, hbd, h_pS, h_pL, h_sg, h_lb, h_oS, h_oL, h_rw, h_fr, h_pi, h_fo, h_al, h_on, h_tw, h_sm, h_av, h_po, h_le, h_gd, fun j => ⟨hpS j, hpL j, hsg j, hlb j, hoS j, hoL j, hLsV.2.2.2.2 j, hfo j, hAiV j⟩⟩, hfr⟩ d_MM_know_63
          · refine lv_aload_n hx hb d_MM_know_50 rfl (lv_at hl 0 rfl) ?_
            refine zq_get hx hb hts i_MM hown hK hw h_o rfl 19 (by decide) (hts _ tw_605) rfl d_MM_know_51 ?_
            refine lv_aload_n hx hb d_MM_know_54 rfl (lv_at hl 0 rfl) ?_
            refine zq_get hx hb hts i_MM hown hK hw h_o rfl 5 (by decide) (hts _ tw_591) rfl d_MM_know_55 ?_
            refine lv_iconst (v := iI 1) hx hb d_MM_know_58 rfl ?_
            refine zq_iadd hx hb d_MM_know_59 ?_
            refine zq_icmp_le (tgt := 64) hx hb d_MM_know_60 (by decide) ⟨by omega, by omega⟩ ⟨by omega, by omega⟩ (fun hc7 => ?_) (fun hc7 => ?_)
            · refine lv_aload_n hx hb d_MM_know_64 rfl (lv_at hl 0 rfl) ?_
              refine zq_get hx hb hts i_MM hown hK hw h_o rfl 19 (by decide) (hts _ tw_605) rfl d_MM_know_65 ?_
              refine lv_aload_n hx hb d_MM_know_68 rfl (lv_at hl 0 rfl) ?_
              refine zq_get hx hb hts i_MM hown hK hw h_o rfl 5 (by decide) (hts _ tw_591) rfl d_MM_know_69 ?_
              refine lv_iconst (v := iI 1) hx hb d_MM_know_72 rfl ?_
              refine zq_iadd hx hb d_MM_know_73 ?_
              refine zq_icmp_ne (tgt := 81) hx hb d_MM_know_74 (by decide) ⟨by omega, by omega⟩ ⟨by omega, by omega⟩ (fun hc8 => ?_) (fun hc8 => ?_)
              · refine lv_iconst (v := iI 0) hx hb d_MM_know_81 rfl ?_
                refine lv_istore_n (lv' := [(1, .int (iI 0)), (0, .ref o)]) hx hb d_MM_know_82 rfl hl (by decide) rfl (fun ls hl => ?_)
                refine lv_aload_n hx hb d_MM_know_83 rfl (lv_at hl 1 rfl) ?_
                refine zq_get hx hb hts i_MM hown hK hw h_o rfl 19 (by decide) (hts _ tw_605) rfl d_MM_know_84 ?_
                refine lv_aload_n hx hb d_MM_know_87 rfl (lv_at hl 1 rfl) ?_
                refine zq_get hx hb hts i_MM hown hK hw h_o rfl 5 (by decide) (hts _ tw_591) rfl d_MM_know_88 ?_
                refine lv_iconst (v := iI 1) hx hb d_MM_know_91 rfl ?_
                refine zq_iadd hx hb d_MM_know_92 ?_
                refine zq_icmp_ne (tgt := 100) hx hb d_MM_know_93 (by decide) ⟨by omega, by omega⟩ ⟨by omega, by omega⟩ (fun hc9 => ?_) (fun hc9 => ?_)
                · refine lv_aload_n hx hb d_MM_know_100 rfl (lv_at hl 1 rfl) ?_
                  refine zq_get hx hb hts i_MM hown hK hw h_o rfl 5 (by decide) (hts _ tw_591) rfl d_MM_know_101 ?_
                  refine lv_iconst (v := iI 1) hx hb d_MM_know_104 rfl ?_
                  refine zq_isub hx hb d_MM_know_105 ?_
                  refine lv_istore_n (lv' := [(2, .int (iI (nn - 1))), (1, .int (iI 0)), (0, .ref o)]) hx hb d_MM_know_106 rfl hl (by decide) rfl (fun ls hl => ?_)
                  have hL2 : ∀ (n : Nat) (fi : Int) (la : Int) (k : Int) (mn : Int) (ga : Int → Int) (gs : Int → Int) (Mq : zq_M) (H : Heap) (locs : List Loc) (ls : Array Slot), ((fi = -1 ∧ la = -1 ∧ ar = nn + 1) ∨ (fi = 0 ∧ la = nn - 1 ∧ ar = nn)) → (fi ≤ k ∧ k ≤ la + 1) → (mn = ar * (k - fi)) → (zAvr onV twV nn ar fi k 0 ga) → (la + 1 - k).toNat < n → (∀ q, q ≠ o → (∀ i, i < 18 → q ≠ bd i) → Mq q = M q) → Mq o = some (.inr (9, [.int (iI th), .int (iI put), .int (iI wr), .ref (bd 0), .ref (bd 1), .int (iI nn), .int (iI cir), .int (iI oN), .int (iI oC), .ref (bd 2), .ref (bd 3), .ref (bd 4), .ref (bd 5), .int (iI cV), .ref (bd 6), .ref (bd 7), .ref (bd 8), .int (iI fcs), .ref (bd 9), .int (iI ar), .ref (bd 10), .ref (bd 11), .ref (bd 12), .ref (bd 13), .int (iI mn), .ref (bd 14), .ref (bd 15), .ref (bd 16), .int (iI 1), .ref (bd 17)])) → Mq (bd 0) = some (cI (K 0) 12 pS) → Mq (bd 1) = some (cI (K 0) 48 pL) → Mq (bd 2) = some (cI (K 0) 12 sg) → Mq (bd 3) = some (cI (K 0) 48 lb) → Mq (bd 4) = some (cI (K 0) 12 oS) → Mq (bd 5) = some (cI (K 0) 48 oL) → Mq (bd 6) = some (cI (K 0) 48 fV) → Mq (bd 7) = some (cI (K 0) 48 fr) → Mq (bd 8) = some (cI (K 0) 12 pi) → Mq (bd 9) = some (cI (K 0) 48 fo) → Mq (bd 10) = some (cI (K 0) 40 alV) → Mq (bd 11) = some (cI (K 0) 384 onV) → Mq (bd 12) = some (cI (K 0) 384 twV) → Mq (bd 13) = some (cJ (K 1) 114688 gs) → Mq (bd 14) = some (cJ (K 1) 2100 ga) → Mq (bd 15) = some (cJ (K 1) 14 gp) → Mq (bd 16) = some (cJ (K 1) 28 le) → Mq (bd 17) = some (cI (K 0) 384 gd) → zq_W D vwCl A s.heap Mq H locs → lv_has ls 7 [(0, .ref o), (1, .int (iI fi)), (2, .int (iI la)), (3, .int (iI k))] → W p l e ({ frames := 6, cells := 0, slots := 0, locals := 139 } : Room) s m [.ref o].toArray below meth co H locs 0 0 (MQ below (zq_Q D vwCl (zT K) (P_MM_know K M o bd put pS pL nn cir sg lb kn arcs al on tw mns av po) A) [.ref o].toArray s 0 0 A) (F0 m 109 ls []) := by
                    intro n
                    induction n with
                    | zero =>
                      intro fi la k mn ga gs Mq H locs ls hfl hk hmn hAv hms hfr h_o h_pS h_pL h_sg h_lb h_oS h_oL h_rw h_fr h_pi h_fo h_al h_on h_tw h_sm h_av h_po h_le h_gd hw hl
                      exact absurd hms (Nat.not_lt_zero _)
                    | succ n ih_hL2 =>
                      intro fi la k mn ga gs Mq H locs ls hfl hk hmn hAv hms hfr h_o h_pS h_pL h_sg h_lb h_oS h_oL h_rw h_fr h_pi h_fo h_al h_on h_tw h_sm h_av h_po h_le h_gd hw hl
                      refine lv_iload_n hx hb d_MM_know_109 rfl (lv_at hl 3 rfl) ?_
                      refine lv_iload_n hx hb d_MM_know_110 rfl (lv_at hl 2 rfl) ?_
                      refine zq_icmp_gt (tgt := 212) hx hb d_MM_know_111 (by decide) ⟨by omega, by omega⟩ ⟨by omega, by omega⟩ (fun hc10 => ?_) (fun hc10 => ?_)
                      · have hMn : zMn nn ar onV twV mn ga := by rcases hfl with ⟨e1, e2, e3⟩ | ⟨e1, e2, e3⟩; exact Or.inr (Or.inl ⟨⟨by omega, by omega⟩, e3, (by rw [hmn, show k - fi = 1 by omega, Int.mul_one]), (by rw [e1, show k = 0 by omega] at hAv; exact hAv)⟩); exact Or.inr (Or.inr ⟨⟨by omega, by omega⟩, e3, (by rw [hmn, show k - fi = nn by omega]), (by rw [e1, show k = nn by omega] at hAv; exact hAv)⟩)
                        have hQ := hM3.2.2 mn ga (by rw [← har]; exact hMn)
                        have hmb := zMn_b hMn hnn
                        refine lv_aload_n hx hb d_MM_know_212 rfl (lv_at hl 0 rfl) ?_
                        refine zq_callV (As := []) (rest := []) ⟨hx, hb, hml, hown, hts⟩ (c_MM_findDivisor l D K Mq o bd th put wr nn cir oN oC cV fcs ar mn 1 ga le gp   h_o hbd h_av h_le h_po hmb hQ.1 (fun mi ki lo fm a1 a2 a3 a4 a5 a6 a7 => by obtain ⟨q0, b1, b2⟩ := hQ.2 mi ki lo fm a1 a2 a3 a4 a5 a6 a7; exact ⟨q0, Or.inr b1, b2⟩)) (cwV 0 hts (zg_V tw_789 tw_791 ts_48 tw_10 tw_792) rfl rfl rfl (by decide +kernel) ⟨Nat.le_of_ble_eq_true rfl, Nat.le_of_ble_eq_true rfl⟩) hZ hw hA h_o rfl rfl rfl rfl hl.1 (Nat.le_of_ble_eq_true rfl) d_MM_know_213 ⟨Nat.le_of_ble_eq_true rfl, Nat.le_of_ble_eq_true rfl⟩ (fun v M11 H locs hp hw => ?_)
                        obtain ⟨rfl, leF, poF, hFd, hs1, hs2, ho⟩ := hp
                        have h_o : M11 o = some (.inr (9, [.int (iI th), .int (iI put), .int (iI wr), .ref (bd 0), .ref (bd 1), .int (iI nn), .int (iI cir), .int (iI oN), .int (iI oC), .ref (bd 2), .ref (bd 3), .ref (bd 4), .ref (bd 5), .int (iI cV), .ref (bd 6), .ref (bd 7), .ref (bd 8), .int (iI fcs), .ref (bd 9), .int (iI ar), .ref (bd 10), .ref (bd 11), .ref (bd 12), .ref (bd 13), .int (iI mn), .ref (bd 14), .ref (bd 15), .ref (bd 16), .int (iI 1), .ref (bd 17)])) := (ho _ (zq_ne h_o h_le (by simp)) (zq_ne h_o h_po (by simp))).trans h_o
                        have h_pS : M11 (bd 0) = some (cI (K 0) 12 pS) := (ho _ (zbd hbd 0 16) (zbd hbd 0 15)).trans h_pS
                        have h_pL : M11 (bd 1) = some (cI (K 0) 48 pL) := (ho _ (zbd hbd 1 16) (zbd hbd 1 15)).trans h_pL
                        have h_sg : M11 (bd 2) = some (cI (K 0) 12 sg) := (ho _ (zbd hbd 2 16) (zbd hbd 2 15)).trans h_sg
                        have h_lb : M11 (bd 3) = some (cI (K 0) 48 lb) := (ho _ (zbd hbd 3 16) (zbd hbd 3 15)).trans h_lb
                        have h_oS : M11 (bd 4) = some (cI (K 0) 12 oS) := (ho _ (zbd hbd 4 16) (zbd hbd 4 15)).trans h_oS
                        have h_oL : M11 (bd 5) = some (cI (K 0) 48 oL) := (ho _ (zbd hbd 5 16) (zbd hbd 5 15)).trans h_oL
                        have h_rw : M11 (bd 6) = some (cI (K 0) 48 fV) := (ho _ (zbd hbd 6 16) (zbd hbd 6 15)).trans h_rw
                        have h_fr : M11 (bd 7) = some (cI (K 0) 48 fr) := (ho _ (zbd hbd 7 16) (zbd hbd 7 15)).trans h_fr
                        have h_pi : M11 (bd 8) = some (cI (K 0) 12 pi) := (ho _ (zbd hbd 8 16) (zbd hbd 8 15)).trans h_pi
                        have h_fo : M11 (bd 9) = some (cI (K 0) 48 fo) := (ho _ (zbd hbd 9 16) (zbd hbd 9 15)).trans h_fo
                        have h_al : M11 (bd 10) = some (cI (K 0) 40 alV) := (ho _ (zbd hbd 10 16) (zbd hbd 10 15)).trans h_al
                        have h_on : M11 (bd 11) = some (cI (K 0) 384 onV) := (ho _ (zbd hbd 11 16) (zbd hbd 11 15)).trans h_on
                        have h_tw : M11 (bd 12) = some (cI (K 0) 384 twV) := (ho _ (zbd hbd 12 16) (zbd hbd 12 15)).trans h_tw
                        have h_sm : M11 (bd 13) = some (cJ (K 1) 114688 gs) := (ho _ (zbd hbd 13 16) (zbd hbd 13 15)).trans h_sm
                        have h_av : M11 (bd 14) = some (cJ (K 1) 2100 ga) := (ho _ (zbd hbd 14 16) (zbd hbd 14 15)).trans h_av
                        have h_gd : M11 (bd 17) = some (cI (K 0) 384 gd) := (ho _ (Ne.symm (zbd hbd 16 17)) (Ne.symm (zbd hbd 15 17))).trans h_gd
                        have h_le : M11 (bd 16) = some (cJ (K 1) 28 leF) := hs1
                        have h_po : M11 (bd 15) = some (cJ (K 1) 14 poF) := hs2
                        have hfr : ∀ q, q ≠ o → (∀ i, i < 18 → q ≠ bd i) → M11 q = M q := fun q g0 g1 => (ho q (g1 16 (by decide)) (g1 15 (by decide))).trans (hfr q g0 g1)
                        refine W.eq (g2 := F0 m 216 ls []) rfl ?_
                        have hPp : zPp mn ga poF := by rcases hFd with ⟨e1, e2⟩ | ⟨m0, lw, e1, e2, e3, e4, sv, e5, e6⟩; exact Or.inl ⟨fun e h1 h2 => (by rw [e1, hgp, if_pos ⟨h1, by omega⟩]), e2⟩; exact Or.inr ⟨m0, lw, e1, e2, e3, e4, sv, e5, fun z h1 h2 => (by rw [e6 z]; by_cases q : z < 14 - lw; rw [if_pos ⟨h1, q⟩, if_pos q]; rw [if_neg (by omega), if_neg q, hgp, if_pos ⟨h1, by omega⟩])⟩
                        exact zq_vret hx hb hr hlocks hZ hw ⟨rfl, ar, alV, onV, twV, mn, ga, poF, ⟨c0, NV, hAlV, har, hAzV, hNV, hFiV, hMn, hPp, hQ, hFin, zPp_in hPp hQ⟩, ⟨_, _, _, _, _, _, _, _, _, _, _, _, _, _, _, h_o, hbd, h_pS, h_pL, h_sg, h_lb, h_oS, h_oL, h_rw, h_fr, h_pi, h_fo, h_al, h_on, h_tw, h_sm, h_av, h_po, h_le, h_gd, fun j => ⟨hpS j, hpL j, hsg j, hlb j, hoS j, hoL j, hLsV.2.2.2.2 j, hfo j, hAiV j⟩⟩, hfr⟩ d_MM_know_216
                      · refine lv_aload_n hx hb d_MM_know_114 rfl (lv_at hl 0 rfl) ?_
                        refine lv_iload_n hx hb d_MM_know_115 rfl (lv_at hl 3 rfl) ?_
                        refine zq_callV (As := [.int (iI k)]) (rest := []) ⟨hx, hb, hml, hown, hts⟩ (c_MM_sumUp l D K Mq o bd th put wr nn cir oN oC cV fcs ar mn 1 onV twV gs  k h_o hbd h_on h_tw h_sm (fun j h1 h2 => (hFin j h1 h2).1) (fun j h1 h2 => (hFin j h1 h2).2) hnn ⟨by omega, by omega⟩ ⟨by omega, by omega⟩) (cwV 1 hts (zg_V tw_775 tw_777 ts_46 tw_10 tw_778) rfl rfl rfl (by decide +kernel) ⟨Nat.le_of_ble_eq_true rfl, Nat.le_of_ble_eq_true rfl⟩) hZ hw hA h_o rfl rfl rfl rfl hl.1 (Nat.le_of_ble_eq_true rfl) d_MM_know_116 ⟨Nat.le_of_ble_eq_true rfl, Nat.le_of_ble_eq_true rfl⟩ (fun v M12 H locs hp hw => ?_)
                        obtain ⟨rfl, smS, hSRs, hs1, ho⟩ := hp
                        have h_o : M12 o = some (.inr (9, [.int (iI th), .int (iI put), .int (iI wr), .ref (bd 0), .ref (bd 1), .int (iI nn), .int (iI cir), .int (iI oN), .int (iI oC), .ref (bd 2), .ref (bd 3), .ref (bd 4), .ref (bd 5), .int (iI cV), .ref (bd 6), .ref (bd 7), .ref (bd 8), .int (iI fcs), .ref (bd 9), .int (iI ar), .ref (bd 10), .ref (bd 11), .ref (bd 12), .ref (bd 13), .int (iI mn), .ref (bd 14), .ref (bd 15), .ref (bd 16), .int (iI 1), .ref (bd 17)])) := (ho _ (zq_ne h_o h_sm (by simp))).trans h_o
                        have h_pS : M12 (bd 0) = some (cI (K 0) 12 pS) := (ho _ (zbd hbd 0 13)).trans h_pS
                        have h_pL : M12 (bd 1) = some (cI (K 0) 48 pL) := (ho _ (zbd hbd 1 13)).trans h_pL
                        have h_sg : M12 (bd 2) = some (cI (K 0) 12 sg) := (ho _ (zbd hbd 2 13)).trans h_sg
                        have h_lb : M12 (bd 3) = some (cI (K 0) 48 lb) := (ho _ (zbd hbd 3 13)).trans h_lb
                        have h_oS : M12 (bd 4) = some (cI (K 0) 12 oS) := (ho _ (zbd hbd 4 13)).trans h_oS
                        have h_oL : M12 (bd 5) = some (cI (K 0) 48 oL) := (ho _ (zbd hbd 5 13)).trans h_oL
                        have h_rw : M12 (bd 6) = some (cI (K 0) 48 fV) := (ho _ (zbd hbd 6 13)).trans h_rw
                        have h_fr : M12 (bd 7) = some (cI (K 0) 48 fr) := (ho _ (zbd hbd 7 13)).trans h_fr
                        have h_pi : M12 (bd 8) = some (cI (K 0) 12 pi) := (ho _ (zbd hbd 8 13)).trans h_pi
                        have h_fo : M12 (bd 9) = some (cI (K 0) 48 fo) := (ho _ (zbd hbd 9 13)).trans h_fo
                        have h_al : M12 (bd 10) = some (cI (K 0) 40 alV) := (ho _ (zbd hbd 10 13)).trans h_al
                        have h_on : M12 (bd 11) = some (cI (K 0) 384 onV) := (ho _ (zbd hbd 11 13)).trans h_on
                        have h_tw : M12 (bd 12) = some (cI (K 0) 384 twV) := (ho _ (zbd hbd 12 13)).trans h_tw
                        have h_av : M12 (bd 14) = some (cJ (K 1) 2100 ga) := (ho _ (Ne.symm (zbd hbd 13 14))).trans h_av
                        have h_po : M12 (bd 15) = some (cJ (K 1) 14 gp) := (ho _ (Ne.symm (zbd hbd 13 15))).trans h_po
                        have h_le : M12 (bd 16) = some (cJ (K 1) 28 le) := (ho _ (Ne.symm (zbd hbd 13 16))).trans h_le
                        have h_gd : M12 (bd 17) = some (cI (K 0) 384 gd) := (ho _ (Ne.symm (zbd hbd 13 17))).trans h_gd
                        have h_sm : M12 (bd 13) = some (cJ (K 1) 114688 smS) := hs1
                        have hfr : ∀ q, q ≠ o → (∀ i, i < 18 → q ≠ bd i) → M12 q = M q := fun q g0 g1 => (ho q (g1 13 (by decide))).trans (hfr q g0 g1)
                        refine W.eq (g2 := F0 m 119 ls []) rfl ?_
                        have hL3 : ∀ (n : Nat) (a : Int) (mn : Int) (ga : Int → Int) (Mq : zq_M) (H : Heap) (locs : List Loc) (ls : Array Slot), (0 ≤ a ∧ a ≤ ar) → (mn = ar * (k - fi) + a) → (zAvr onV twV nn ar fi k a ga) → (ar - a).toNat < n → (∀ q, q ≠ o → (∀ i, i < 18 → q ≠ bd i) → Mq q = M q) → Mq o = some (.inr (9, [.int (iI th), .int (iI put), .int (iI wr), .ref (bd 0), .ref (bd 1), .int (iI nn), .int (iI cir), .int (iI oN), .int (iI oC), .ref (bd 2), .ref (bd 3), .ref (bd 4), .ref (bd 5), .int (iI cV), .ref (bd 6), .ref (bd 7), .ref (bd 8), .int (iI fcs), .ref (bd 9), .int (iI ar), .ref (bd 10), .ref (bd 11), .ref (bd 12), .ref (bd 13), .int (iI mn), .ref (bd 14), .ref (bd 15), .ref (bd 16), .int (iI 1), .ref (bd 17)])) → Mq (bd 0) = some (cI (K 0) 12 pS) → Mq (bd 1) = some (cI (K 0) 48 pL) → Mq (bd 2) = some (cI (K 0) 12 sg) → Mq (bd 3) = some (cI (K 0) 48 lb) → Mq (bd 4) = some (cI (K 0) 12 oS) → Mq (bd 5) = some (cI (K 0) 48 oL) → Mq (bd 6) = some (cI (K 0) 48 fV) → Mq (bd 7) = some (cI (K 0) 48 fr) → Mq (bd 8) = some (cI (K 0) 12 pi) → Mq (bd 9) = some (cI (K 0) 48 fo) → Mq (bd 10) = some (cI (K 0) 40 alV) → Mq (bd 11) = some (cI (K 0) 384 onV) → Mq (bd 12) = some (cI (K 0) 384 twV) → Mq (bd 13) = some (cJ (K 1) 114688 smS) → Mq (bd 14) = some (cJ (K 1) 2100 ga) → Mq (bd 15) = some (cJ (K 1) 14 gp) → Mq (bd 16) = some (cJ (K 1) 28 le) → Mq (bd 17) = some (cI (K 0) 384 gd) → zq_W D vwCl A s.heap Mq H locs → lv_has ls 7 [(0, .ref o), (1, .int (iI fi)), (2, .int (iI la)), (3, .int (iI k)), (4, .int (iI a))] → W p l e ({ frames := 6, cells := 0, slots := 0, locals := 139 } : Room) s m [.ref o].toArray below meth co H locs 0 0 (MQ below (zq_Q D vwCl (zT K) (P_MM_know K M o bd put pS pL nn cir sg lb kn arcs al on tw mns av po) A) [.ref o].toArray s 0 0 A) (F0 m 122 ls []) := by
                          intro n
                          induction n with
                          | zero =>
                            intro a mn ga Mq H locs ls ha hmn hAv hms hfr h_o h_pS h_pL h_sg h_lb h_oS h_oL h_rw h_fr h_pi h_fo h_al h_on h_tw h_sm h_av h_po h_le h_gd hw hl
                            exact absurd hms (Nat.not_lt_zero _)
                          | succ n ih_hL3 =>
                            intro a mn ga Mq H locs ls ha hmn hAv hms hfr h_o h_pS h_pL h_sg h_lb h_oS h_oL h_rw h_fr h_pi h_fo h_al h_on h_tw h_sm h_av h_po h_le h_gd hw hl
                            refine lv_iload hx hb d_MM_know_122 (lv_at hl 4 rfl) ?_
                            refine lv_aload_n hx hb d_MM_know_124 rfl (lv_at hl 0 rfl) ?_
                            refine zq_get hx hb hts i_MM hown hK hw h_o rfl 19 (by decide) (hts _ tw_605) rfl d_MM_know_125 ?_
                            refine zq_icmp_ge (tgt := 206) hx hb d_MM_know_128 (by decide) ⟨by omega, by omega⟩ ⟨by omega, by omega⟩ (fun hc13 => ?_) (fun hc13 => ?_)
                            · refine lv_iinc (v := iI (k + 1)) (lv' := [(3, .int (iI (k + 1))), (0, .ref o), (1, .int (iI fi)), (2, .int (iI la)), (4, .int (iI a))]) hx hb d_MM_know_206 hl (k := 3) rfl (iI_add _ _) (by decide) rfl (fun ls hl => ?_)
                              refine lv_goto (tgt := 109) hx hb d_MM_know_209 (by decide) ?_
                              exact ih_hL2 fi la (k + 1) mn ga smS Mq _ _ _ hfl (by omega) (by rw [show k + 1 - fi = (k - fi) + 1 by omega, Int.mul_add, Int.mul_one]; omega) (zAvr_row hAv (by omega)) (by omega) hfr h_o h_pS h_pL h_sg h_lb h_oS h_oL h_rw h_fr h_pi h_fo h_al h_on h_tw h_sm h_av h_po h_le h_gd hw (lv_sub hl [1, 2, 3, 0] rfl)
                            · have hzf := zfull (r := ar) (a := a) ⟨by omega, by omega⟩ (by omega)
                              have hp1 := zpw ar.toNat
                              have hp2 := zpw a.toNat
                              have hp3 := (zsl (k := ar) (by omega) (by omega)).2.2
                              have hmb : 0 ≤ mn ∧ mn ≤ 148 := by rcases hfl with q | q; have e9 : k - fi = 0 := (by omega); rw [e9, Int.mul_zero] at hmn; omega; have h9 := zmnb (ar := ar) (x := k - fi) (by omega) (by omega); omega
                              refine lv_iconst (v := iI 1) hx hb d_MM_know_131 rfl ?_
                              refine lv_aload_n hx hb d_MM_know_132 rfl (lv_at hl 0 rfl) ?_
                              refine zq_get hx hb hts i_MM hown hK hw h_o rfl 19 (by decide) (hts _ tw_605) rfl d_MM_know_133 ?_
                              refine zq_ishl1 hx hb (by omega) (by omega) d_MM_know_136 ?_
                              refine lv_iconst (v := iI 1) hx hb d_MM_know_137 rfl ?_
                              refine zq_isub hx hb d_MM_know_138 ?_
                              refine lv_iconst (v := iI 1) hx hb d_MM_know_139 rfl ?_
                              refine lv_iload hx hb d_MM_know_140 (lv_at hl 4 rfl) ?_
                              refine zq_ishl1 hx hb (by omega) (by omega) d_MM_know_142 ?_
                              refine zq_isub hx hb d_MM_know_143 ?_
                              refine lv_istore (lv' := [(5, .int (iI (((2 ^ ar.toNat) - 1) - (2 ^ a.toNat)))), (0, .ref o), (1, .int (iI fi)), (2, .int (iI la)), (3, .int (iI k)), (4, .int (iI a))]) hx hb d_MM_know_144 hl (by decide) rfl (fun ls hl => ?_)
                              have hL4 : ∀ (n : Nat) (e0 : Int) (g2 : Int → Int) (Mq : zq_M) (H : Heap) (locs : List Loc) (ls : Array Slot), (0 ≤ e0 ∧ e0 ≤ 14) → (∀ z, g2 z = if 14 * mn ≤ z ∧ z < 14 * mn + e0 then smS (14 * (2 ^ ar.toNat - 1 - 2 ^ a.toNat) + (z - 14 * mn)) else ga z) → (14 - e0).toNat < n → (∀ q, q ≠ o → (∀ i, i < 18 → q ≠ bd i) → Mq q = M q) → Mq o = some (.inr (9, [.int (iI th), .int (iI put), .int (iI wr), .ref (bd 0), .ref (bd 1), .int (iI nn), .int (iI cir), .int (iI oN), .int (iI oC), .ref (bd 2), .ref (bd 3), .ref (bd 4), .ref (bd 5), .int (iI cV), .ref (bd 6), .ref (bd 7), .ref (bd 8), .int (iI fcs), .ref (bd 9), .int (iI ar), .ref (bd 10), .ref (bd 11), .ref (bd 12), .ref (bd 13), .int (iI mn), .ref (bd 14), .ref (bd 15), .ref (bd 16), .int (iI 1), .ref (bd 17)])) → Mq (bd 0) = some (cI (K 0) 12 pS) → Mq (bd 1) = some (cI (K 0) 48 pL) → Mq (bd 2) = some (cI (K 0) 12 sg) → Mq (bd 3) = some (cI (K 0) 48 lb) → Mq (bd 4) = some (cI (K 0) 12 oS) → Mq (bd 5) = some (cI (K 0) 48 oL) → Mq (bd 6) = some (cI (K 0) 48 fV) → Mq (bd 7) = some (cI (K 0) 48 fr) → Mq (bd 8) = some (cI (K 0) 12 pi) → Mq (bd 9) = some (cI (K 0) 48 fo) → Mq (bd 10) = some (cI (K 0) 40 alV) → Mq (bd 11) = some (cI (K 0) 384 onV) → Mq (bd 12) = some (cI (K 0) 384 twV) → Mq (bd 13) = some (cJ (K 1) 114688 smS) → Mq (bd 14) = some (cJ (K 1) 2100 g2) → Mq (bd 15) = some (cJ (K 1) 14 gp) → Mq (bd 16) = some (cJ (K 1) 28 le) → Mq (bd 17) = some (cI (K 0) 384 gd) → zq_W D vwCl A s.heap Mq H locs → lv_has ls 7 [(0, .ref o), (1, .int (iI fi)), (2, .int (iI la)), (3, .int (iI k)), (4, .int (iI a)), (5, .int (iI (((2 ^ ar.toNat) - 1) - (2 ^ a.toNat)))), (6, .int (iI e0))] → W p l e ({ frames := 6, cells := 0, slots := 0, locals := 139 } : Room) s m [.ref o].toArray below meth co H locs 0 0 (MQ below (zq_Q D vwCl (zT K) (P_MM_know K M o bd put pS pL nn cir sg lb kn arcs al on tw mns av po) A) [.ref o].toArray s 0 0 A) (F0 m 149 ls []) := by
                                intro n
                                induction n with
                                | zero =>
                                  intro e0 g2 Mq H locs ls he hg2 hms hfr h_o h_pS h_pL h_sg h_lb h_oS h_oL h_rw h_fr h_pi h_fo h_al h_on h_tw h_sm h_av h_po h_le h_gd hw hl
                                  exact absurd hms (Nat.not_lt_zero _)
                                | succ n ih_hL4 =>
                                  intro e0 g2 Mq H locs ls he hg2 hms hfr h_o h_pS h_pL h_sg h_lb h_oS h_oL h_rw h_fr h_pi h_fo h_al h_on h_tw h_sm h_av h_po h_le h_gd hw hl
                                  refine lv_iload hx hb d_MM_know_149 (lv_at hl 6 rfl) ?_
                                  refine lv_bipush (v := iI 14) hx hb d_MM_know_151 (by decide) ?_
                                  refine zq_icmp_ge (tgt := 190) hx hb d_MM_know_153 (by decide) ⟨by omega, by omega⟩ (by decide) (fun hc14 => ?_) (fun hc14 => ?_)
                                  · have hAn : zAvr onV twV nn ar fi k (a + 1) g2 := zAvr_col hAv (by omega) ⟨by omega, by omega⟩ hmn (fun e h1 h2 => (hSRs _ hzf.2 (by omega) e h1 h2).1 (by rw [hzf.1, zdn_eq]; by_cases q9 : 0 ≤ k ∧ k < (nn.toNat : Int); rw [if_pos q9]; omega; rw [if_neg q9]; omega)) (fun z => by rw [hg2 z, show e0 = 14 by omega])
                                    refine lv_aload_n hx hb d_MM_know_190 rfl (lv_at hl 0 rfl) ?_
                                    refine lv_dup hx hb d_MM_know_191 rfl ?_
                                    refine zq_get hx hb hts i_MM hown hK hw h_o rfl 24 (by decide) (hts _ tw_610) rfl d_MM_know_192 ?_
                                    refine lv_iconst (v := iI 1) hx hb d_MM_know_195 rfl ?_
                                    refine zq_iadd hx hb d_MM_know_196 ?_
                                    refine zq_put (ci := 9) (v := .int (iI (mn + 1))) (ty := .int) hx hb hts i_MM t_MM t_MM_ok n_MM hown hK hw h_o rfl 24 (by decide) (hts _ tw_610) rfl (by decide +kernel) rfl rfl (Nat.le_of_ble_eq_true rfl) d_MM_know_197 (fun M15 H locs hs ho hw => ?_)
                                    have h_pS : M15 (bd 0) = some (cI (K 0) 12 pS) := (ho _ (zq_ne h_pS h_o (by simp))).trans h_pS
                                    have h_pL : M15 (bd 1) = some (cI (K 0) 48 pL) := (ho _ (zq_ne h_pL h_o (by simp))).trans h_pL
                                    have h_sg : M15 (bd 2) = some (cI (K 0) 12 sg) := (ho _ (zq_ne h_sg h_o (by simp))).trans h_sg
                                    have h_lb : M15 (bd 3) = some (cI (K 0) 48 lb) := (ho _ (zq_ne h_lb h_o (by simp))).trans h_lb
                                    have h_oS : M15 (bd 4) = some (cI (K 0) 12 oS) := (ho _ (zq_ne h_oS h_o (by simp))).trans h_oS
                                    have h_oL : M15 (bd 5) = some (cI (K 0) 48 oL) := (ho _ (zq_ne h_oL h_o (by simp))).trans h_oL
                                    have h_rw : M15 (bd 6) = some (cI (K 0) 48 fV) := (ho _ (zq_ne h_rw h_o (by simp))).trans h_rw
                                    have h_fr : M15 (bd 7) = some (cI (K 0) 48 fr) := (ho _ (zq_ne h_fr h_o (by simp))).trans h_fr
                                    have h_pi : M15 (bd 8) = some (cI (K 0) 12 pi) := (ho _ (zq_ne h_pi h_o (by simp))).trans h_pi
                                    have h_fo : M15 (bd 9) = some (cI (K 0) 48 fo) := (ho _ (zq_ne h_fo h_o (by simp))).trans h_fo
                                    have h_al : M15 (bd 10) = some (cI (K 0) 40 alV) := (ho _ (zq_ne h_al h_o (by simp))).trans h_al
                                    have h_on : M15 (bd 11) = some (cI (K 0) 384 onV) := (ho _ (zq_ne h_on h_o (by simp))).trans h_on
                                    have h_tw : M15 (bd 12) = some (cI (K 0) 384 twV) := (ho _ (zq_ne h_tw h_o (by simp))).trans h_tw
                                    have h_sm : M15 (bd 13) = some (cJ (K 1) 114688 smS) := (ho _ (zq_ne h_sm h_o (by simp))).trans h_sm
                                    have h_av : M15 (bd 14) = some (cJ (K 1) 2100 g2) := (ho _ (zq_ne h_av h_o (by simp))).trans h_av
                                    have h_po : M15 (bd 15) = some (cJ (K 1) 14 gp) := (ho _ (zq_ne h_po h_o (by simp))).trans h_po
                                    have h_le : M15 (bd 16) = some (cJ (K 1) 28 le) := (ho _ (zq_ne h_le h_o (by simp))).trans h_le
                                    have h_gd : M15 (bd 17) = some (cI (K 0) 384 gd) := (ho _ (zq_ne h_gd h_o (by simp))).trans h_gd
                                    have h_o : M15 o = some (.inr (9, [.int (iI th), .int (iI put), .int (iI wr), .ref (bd 0), .ref (bd 1), .int (iI nn), .int (iI cir), .int (iI oN), .int (iI oC), .ref (bd 2), .ref (bd 3), .ref (bd 4), .ref (bd 5), .int (iI cV), .ref (bd 6), .ref (bd 7), .ref (bd 8), .int (iI fcs), .ref (bd 9), .int (iI ar), .ref (bd 10), .ref (bd 11), .ref (bd 12), .ref (bd 13), .int (iI (mn + 1)), .ref (bd 14), .ref (bd 15), .ref (bd 16), .int (iI 1), .ref (bd 17)])) := hs
                                    have hfr : ∀ q, q ≠ o → (∀ i, i < 18 → q ≠ bd i) → M15 q = M q := fun q g0 g1 => (ho q g0).trans (hfr q g0 g1)
                                    refine lv_iinc (v := iI (a + 1)) (lv' := [(4, .int (iI (a + 1))), (0, .ref o), (1, .int (iI fi)), (2, .int (iI la)), (3, .int (iI k)), (5, .int (iI (((2 ^ ar.toNat) - 1) - (2 ^ a.toNat)))), (6, .int (iI e0))]) hx hb d_MM_know_200 hl (k := 4) rfl (iI_add _ _) (by decide) rfl (fun ls hl => ?_)
                                    refine lv_goto (tgt := 122) hx hb d_MM_know_203 (by decide) ?_
                                    exact ih_hL3 (a + 1) (mn + 1) g2 M15 _ _ _ (by omega) (by omega) hAn (by omega) hfr h_o h_pS h_pL h_sg h_lb h_oS h_oL h_rw h_fr h_pi h_fo h_al h_on h_tw h_sm h_av h_po h_le h_gd hw (lv_sub hl [1, 2, 3, 4, 0] rfl)
                                  · refine lv_aload_n hx hb d_MM_know_156 rfl (lv_at hl 0 rfl) ?_
                                    refine zq_get hx hb hts i_MM hown hK hw h_o rfl 25 (by decide) (hts _ tw_611) rfl d_MM_know_157 ?_
                                    refine lv_bipush (v := iI 14) hx hb d_MM_know_160 (by decide) ?_
                                    refine lv_aload_n hx hb d_MM_know_162 rfl (lv_at hl 0 rfl) ?_
                                    refine zq_get hx hb hts i_MM hown hK hw h_o rfl 24 (by decide) (hts _ tw_610) rfl d_MM_know_163 ?_
                                    refine zq_imul hx hb d_MM_know_166 ?_
                                    refine lv_iload hx hb d_MM_know_167 (lv_at hl 6 rfl) ?_
                                    refine zq_iadd hx hb d_MM_know_169 ?_
                                    refine lv_aload_n hx hb d_MM_know_170 rfl (lv_at hl 0 rfl) ?_
                                    refine zq_get hx hb hts i_MM hown hK hw h_o rfl 23 (by decide) (hts _ tw_609) rfl d_MM_know_171 ?_
                                    refine lv_bipush (v := iI 14) hx hb d_MM_know_174 (by decide) ?_
                                    refine lv_iload hx hb d_MM_know_176 (lv_at hl 5 rfl) ?_
                                    refine zq_imul hx hb d_MM_know_178 ?_
                                    refine lv_iload hx hb d_MM_know_179 (lv_at hl 6 rfl) ?_
                                    refine zq_iadd hx hb d_MM_know_181 ?_
                                    refine zq_lald hx hb hK hw 1 h_sm rfl (by omega) (by omega) (by decide) d_MM_know_182 ?_
                                    refine zq_last hx hb hK hw 1 h_av rfl (by omega) (by omega) (by decide) d_MM_know_183 (fun M16 H locs hs ho hw => ?_)
                                    have h_o : M16 o = some (.inr (9, [.int (iI th), .int (iI put), .int (iI wr), .ref (bd 0), .ref (bd 1), .int (iI nn), .int (iI cir), .int (iI oN), .int (iI oC), .ref (bd 2), .ref (bd 3), .ref (bd 4), .ref (bd 5), .int (iI cV), .ref (bd 6), .ref (bd 7), .ref (bd 8), .int (iI fcs), .ref (bd 9), .int (iI ar), .ref (bd 10), .ref (bd 11), .ref (bd 12), .ref (bd 13), .int (iI mn), .ref (bd 14), .ref (bd 15), .ref (bd 16), .int (iI 1), .ref (bd 17)])) := (ho _ (zq_ne h_o h_av (by simp))).trans h_o
                                    have h_pS : M16 (bd 0) = some (cI (K 0) 12 pS) := (ho _ (zbd hbd 0 14)).trans h_pS
                                    have h_pL : M16 (bd 1) = some (cI (K 0) 48 pL) := (ho _ (zbd hbd 1 14)).trans h_pL
                                    have h_sg : M16 (bd 2) = some (cI (K 0) 12 sg) := (ho _ (zbd hbd 2 14)).trans h_sg
                                    have h_lb : M16 (bd 3) = some (cI (K 0) 48 lb) := (ho _ (zbd hbd 3 14)).trans h_lb
                                    have h_oS : M16 (bd 4) = some (cI (K 0) 12 oS) := (ho _ (zbd hbd 4 14)).trans h_oS
                                    have h_oL : M16 (bd 5) = some (cI (K 0) 48 oL) := (ho _ (zbd hbd 5 14)).trans h_oL
                                    have h_rw : M16 (bd 6) = some (cI (K 0) 48 fV) := (ho _ (zbd hbd 6 14)).trans h_rw
                                    have h_fr : M16 (bd 7) = some (cI (K 0) 48 fr) := (ho _ (zbd hbd 7 14)).trans h_fr
                                    have h_pi : M16 (bd 8) = some (cI (K 0) 12 pi) := (ho _ (zbd hbd 8 14)).trans h_pi
                                    have h_fo : M16 (bd 9) = some (cI (K 0) 48 fo) := (ho _ (zbd hbd 9 14)).trans h_fo
                                    have h_al : M16 (bd 10) = some (cI (K 0) 40 alV) := (ho _ (zbd hbd 10 14)).trans h_al
                                    have h_on : M16 (bd 11) = some (cI (K 0) 384 onV) := (ho _ (zbd hbd 11 14)).trans h_on
                                    have h_tw : M16 (bd 12) = some (cI (K 0) 384 twV) := (ho _ (zbd hbd 12 14)).trans h_tw
                                    have h_sm : M16 (bd 13) = some (cJ (K 1) 114688 smS) := (ho _ (zbd hbd 13 14)).trans h_sm
                                    have h_po : M16 (bd 15) = some (cJ (K 1) 14 gp) := (ho _ (Ne.symm (zbd hbd 14 15))).trans h_po
                                    have h_le : M16 (bd 16) = some (cJ (K 1) 28 le) := (ho _ (Ne.symm (zbd hbd 14 16))).trans h_le
                                    have h_gd : M16 (bd 17) = some (cI (K 0) 384 gd) := (ho _ (Ne.symm (zbd hbd 14 17))).trans h_gd
                                    have h_av : M16 (bd 14) = some (cJ (K 1) 2100 (zu g2 ((14 * mn) + e0) (smS ((14 * (((2 ^ ar.toNat) - 1) - (2 ^ a.toNat))) + e0)))) := hs
                                    have hfr : ∀ q, q ≠ o → (∀ i, i < 18 → q ≠ bd i) → M16 q = M q := fun q g0 g1 => (ho q (g1 14 (by decide))).trans (hfr q g0 g1)
                                    refine lv_iinc (v := iI (e0 + 1)) (lv' := [(6, .int (iI (e0 + 1))), (0, .ref o), (1, .int (iI fi)), (2, .int (iI la)), (3, .int (iI k)), (4, .int (iI a)), (5, .int (iI (((2 ^ ar.toNat) - 1) - (2 ^ a.toNat))))]) hx hb d_MM_know_184 hl (k := 6) rfl (iI_add _ _) (by decide) rfl (fun ls hl => ?_)
                                    refine lv_goto (tgt := 149) hx hb d_MM_know_187 (by decide) ?_
                                    exact ih_hL4 (e0 + 1) (zu g2 ((14 * mn) + e0) (smS ((14 * (((2 ^ ar.toNat) - 1) - (2 ^ a.toNat))) + e0))) M16 _ _ _ (by omega) (zup_av hg2 he.1) (by omega) hfr h_o h_pS h_pL h_sg h_lb h_oS h_oL h_rw h_fr h_pi h_fo h_al h_on h_tw h_sm h_av h_po h_le h_gd hw (lv_sub hl [1, 2, 3, 4, 5, 6, 0] rfl)
                              refine lv_iconst (v := iI 0) hx hb d_MM_know_146 rfl ?_
                              refine lv_istore (lv' := [(6, .int (iI 0)), (5, .int (iI (((2 ^ ar.toNat) - 1) - (2 ^ a.toNat)))), (0, .ref o), (1, .int (iI fi)), (2, .int (iI la)), (3, .int (iI k)), (4, .int (iI a))]) hx hb d_MM_know_147 hl (by decide) rfl (fun ls hl => ?_)
                              exact hL4 _ 0 ga Mq _ _ _ ⟨by omega, by omega⟩ (fun z => (if_neg (by omega)).symm) (Nat.lt_succ_self _) hfr h_o h_pS h_pL h_sg h_lb h_oS h_oL h_rw h_fr h_pi h_fo h_al h_on h_tw h_sm h_av h_po h_le h_gd hw (lv_sub hl [2, 3, 4, 5, 6, 1, 0] rfl)
                        refine lv_iconst (v := iI 0) hx hb d_MM_know_119 rfl ?_
                        refine lv_istore (lv' := [(4, .int (iI 0)), (0, .ref o), (1, .int (iI fi)), (2, .int (iI la)), (3, .int (iI k))]) hx hb d_MM_know_120 hl (by decide) rfl (fun ls hl => ?_)
                        exact hL3 _ 0 mn ga M12 _ _ _ ⟨by omega, by omega⟩ (by omega) hAv (Nat.lt_succ_self _) hfr h_o h_pS h_pL h_sg h_lb h_oS h_oL h_rw h_fr h_pi h_fo h_al h_on h_tw h_sm h_av h_po h_le h_gd hw (lv_sub hl [1, 2, 3, 4, 0] rfl)
                  refine lv_iload_n hx hb d_MM_know_107 rfl (lv_at hl 1 rfl) ?_
                  refine lv_istore_n (lv' := [(3, .int (iI 0)), (2, .int (iI (nn - 1))), (1, .int (iI 0)), (0, .ref o)]) hx hb d_MM_know_108 rfl hl (by decide) rfl (fun ls hl => ?_)
                  exact hL2 _ 0 (nn - 1) 0 0 av sm Mq _ _ _ (by omega) (by omega) (by rw [Int.sub_self, Int.mul_zero]) zAvr_0 (Nat.lt_succ_self _) hfr h_o h_pS h_pL h_sg h_lb h_oS h_oL h_rw h_fr h_pi h_fo h_al h_on h_tw h_sm h_av h_po h_le h_gd hw (lv_sub hl [3, 2, 1, 0] rfl)
                · refine lv_iconst (v := iI (-1)) hx hb d_MM_know_96 rfl ?_
                  refine lv_goto (tgt := 106) hx hb d_MM_know_97 (by decide) ?_
                  refine lv_istore_n (lv' := [(2, .int (iI (-1))), (1, .int (iI 0)), (0, .ref o)]) hx hb d_MM_know_106 rfl hl (by decide) rfl (fun ls hl => ?_)
                  have hL2 : ∀ (n : Nat) (fi : Int) (la : Int) (k : Int) (mn : Int) (ga : Int → Int) (gs : Int → Int) (Mq : zq_M) (H : Heap) (locs : List Loc) (ls : Array Slot), ((fi = -1 ∧ la = -1 ∧ ar = nn + 1) ∨ (fi = 0 ∧ la = nn - 1 ∧ ar = nn)) → (fi ≤ k ∧ k ≤ la + 1) → (mn = ar * (k - fi)) → (zAvr onV twV nn ar fi k 0 ga) → (la + 1 - k).toNat < n → (∀ q, q ≠ o → (∀ i, i < 18 → q ≠ bd i) → Mq q = M q) → Mq o = some (.inr (9, [.int (iI th), .int (iI put), .int (iI wr), .ref (bd 0), .ref (bd 1), .int (iI nn), .int (iI cir), .int (iI oN), .int (iI oC), .ref (bd 2), .ref (bd 3), .ref (bd 4), .ref (bd 5), .int (iI cV), .ref (bd 6), .ref (bd 7), .ref (bd 8), .int (iI fcs), .ref (bd 9), .int (iI ar), .ref (bd 10), .ref (bd 11), .ref (bd 12), .ref (bd 13), .int (iI mn), .ref (bd 14), .ref (bd 15), .ref (bd 16), .int (iI 1), .ref (bd 17)])) → Mq (bd 0) = some (cI (K 0) 12 pS) → Mq (bd 1) = some (cI (K 0) 48 pL) → Mq (bd 2) = some (cI (K 0) 12 sg) → Mq (bd 3) = some (cI (K 0) 48 lb) → Mq (bd 4) = some (cI (K 0) 12 oS) → Mq (bd 5) = some (cI (K 0) 48 oL) → Mq (bd 6) = some (cI (K 0) 48 fV) → Mq (bd 7) = some (cI (K 0) 48 fr) → Mq (bd 8) = some (cI (K 0) 12 pi) → Mq (bd 9) = some (cI (K 0) 48 fo) → Mq (bd 10) = some (cI (K 0) 40 alV) → Mq (bd 11) = some (cI (K 0) 384 onV) → Mq (bd 12) = some (cI (K 0) 384 twV) → Mq (bd 13) = some (cJ (K 1) 114688 gs) → Mq (bd 14) = some (cJ (K 1) 2100 ga) → Mq (bd 15) = some (cJ (K 1) 14 gp) → Mq (bd 16) = some (cJ (K 1) 28 le) → Mq (bd 17) = some (cI (K 0) 384 gd) → zq_W D vwCl A s.heap Mq H locs → lv_has ls 7 [(0, .ref o), (1, .int (iI fi)), (2, .int (iI la)), (3, .int (iI k))] → W p l e ({ frames := 6, cells := 0, slots := 0, locals := 139 } : Room) s m [.ref o].toArray below meth co H locs 0 0 (MQ below (zq_Q D vwCl (zT K) (P_MM_know K M o bd put pS pL nn cir sg lb kn arcs al on tw mns av po) A) [.ref o].toArray s 0 0 A) (F0 m 109 ls []) := by
                    intro n
                    induction n with
                    | zero =>
                      intro fi la k mn ga gs Mq H locs ls hfl hk hmn hAv hms hfr h_o h_pS h_pL h_sg h_lb h_oS h_oL h_rw h_fr h_pi h_fo h_al h_on h_tw h_sm h_av h_po h_le h_gd hw hl
                      exact absurd hms (Nat.not_lt_zero _)
                    | succ n ih_hL2 =>
                      intro fi la k mn ga gs Mq H locs ls hfl hk hmn hAv hms hfr h_o h_pS h_pL h_sg h_lb h_oS h_oL h_rw h_fr h_pi h_fo h_al h_on h_tw h_sm h_av h_po h_le h_gd hw hl
                      refine lv_iload_n hx hb d_MM_know_109 rfl (lv_at hl 3 rfl) ?_
                      refine lv_iload_n hx hb d_MM_know_110 rfl (lv_at hl 2 rfl) ?_
                      refine zq_icmp_gt (tgt := 212) hx hb d_MM_know_111 (by decide) ⟨by omega, by omega⟩ ⟨by omega, by omega⟩ (fun hc17 => ?_) (fun hc17 => ?_)
                      · have hMn : zMn nn ar onV twV mn ga := by rcases hfl with ⟨e1, e2, e3⟩ | ⟨e1, e2, e3⟩; exact Or.inr (Or.inl ⟨⟨by omega, by omega⟩, e3, (by rw [hmn, show k - fi = 1 by omega, Int.mul_one]), (by rw [e1, show k = 0 by omega] at hAv; exact hAv)⟩); exact Or.inr (Or.inr ⟨⟨by omega, by omega⟩, e3, (by rw [hmn, show k - fi = nn by omega]), (by rw [e1, show k = nn by omega] at hAv; exact hAv)⟩)
                        have hQ := hM3.2.2 mn ga (by rw [← har]; exact hMn)
                        have hmb := zMn_b hMn hnn
                        refine lv_aload_n hx hb d_MM_know_212 rfl (lv_at hl 0 rfl) ?_
                        refine zq_callV (As := []) (rest := []) ⟨hx, hb, hml, hown, hts⟩ (c_MM_findDivisor l D K Mq o bd th put wr nn cir oN oC cV fcs ar mn 1 ga le gp   h_o hbd h_av h_le h_po hmb hQ.1 (fun mi ki lo fm a1 a2 a3 a4 a5 a6 a7 => by obtain ⟨q0, b1, b2⟩ := hQ.2 mi ki lo fm a1 a2 a3 a4 a5 a6 a7; exact ⟨q0, Or.inr b1, b2⟩)) (cwV 0 hts (zg_V tw_789 tw_791 ts_48 tw_10 tw_792) rfl rfl rfl (by decide +kernel) ⟨Nat.le_of_ble_eq_true rfl, Nat.le_of_ble_eq_true rfl⟩) hZ hw hA h_o rfl rfl rfl rfl hl.1 (Nat.le_of_ble_eq_true rfl) d_MM_know_213 ⟨Nat.le_of_ble_eq_true rfl, Nat.le_of_ble_eq_true rfl⟩ (fun v M18 H locs hp hw => ?_)
                        obtain ⟨rfl, leF, poF, hFd, hs1, hs2, ho⟩ := hp
                        have h_o : M18 o = some (.inr (9, [.int (iI th), .int (iI put), .int (iI wr), .ref (bd 0), .ref (bd 1), .int (iI nn), .int (iI cir), .int (iI oN), .int (iI oC), .ref (bd 2), .ref (bd 3), .ref (bd 4), .ref (bd 5), .int (iI cV), .ref (bd 6), .ref (bd 7), .ref (bd 8), .int (iI fcs), .ref (bd 9), .int (iI ar), .ref (bd 10), .ref (bd 11), .ref (bd 12), .ref (bd 13), .int (iI mn), .ref (bd 14), .ref (bd 15), .ref (bd 16), .int (iI 1), .ref (bd 17)])) := (ho _ (zq_ne h_o h_le (by simp)) (zq_ne h_o h_po (by simp))).trans h_o
                        have h_pS : M18 (bd 0) = some (cI (K 0) 12 pS) := (ho _ (zbd hbd 0 16) (zbd hbd 0 15)).trans h_pS
                        have h_pL : M18 (bd 1) = some (cI (K 0) 48 pL) := (ho _ (zbd hbd 1 16) (zbd hbd 1 15)).trans h_pL
                        have h_sg : M18 (bd 2) = some (cI (K 0) 12 sg) := (ho _ (zbd hbd 2 16) (zbd hbd 2 15)).trans h_sg
                        have h_lb : M18 (bd 3) = some (cI (K 0) 48 lb) := (ho _ (zbd hbd 3 16) (zbd hbd 3 15)).trans h_lb
                        have h_oS : M18 (bd 4) = some (cI (K 0) 12 oS) := (ho _ (zbd hbd 4 16) (zbd hbd 4 15)).trans h_oS
                        have h_oL : M18 (bd 5) = some (cI (K 0) 48 oL) := (ho _ (zbd hbd 5 16) (zbd hbd 5 15)).trans h_oL
                        have h_rw : M18 (bd 6) = some (cI (K 0) 48 fV) := (ho _ (zbd hbd 6 16) (zbd hbd 6 15)).trans h_rw
                        have h_fr : M18 (bd 7) = some (cI (K 0) 48 fr) := (ho _ (zbd hbd 7 16) (zbd hbd 7 15)).trans h_fr
                        have h_pi : M18 (bd 8) = some (cI (K 0) 12 pi) := (ho _ (zbd hbd 8 16) (zbd hbd 8 15)).trans h_pi
                        have h_fo : M18 (bd 9) = some (cI (K 0) 48 fo) := (ho _ (zbd hbd 9 16) (zbd hbd 9 15)).trans h_fo
                        have h_al : M18 (bd 10) = some (cI (K 0) 40 alV) := (ho _ (zbd hbd 10 16) (zbd hbd 10 15)).trans h_al
                        have h_on : M18 (bd 11) = some (cI (K 0) 384 onV) := (ho _ (zbd hbd 11 16) (zbd hbd 11 15)).trans h_on
                        have h_tw : M18 (bd 12) = some (cI (K 0) 384 twV) := (ho _ (zbd hbd 12 16) (zbd hbd 12 15)).trans h_tw
                        have h_sm : M18 (bd 13) = some (cJ (K 1) 114688 gs) := (ho _ (zbd hbd 13 16) (zbd hbd 13 15)).trans h_sm
                        have h_av : M18 (bd 14) = some (cJ (K 1) 2100 ga) := (ho _ (zbd hbd 14 16) (zbd hbd 14 15)).trans h_av
                        have h_gd : M18 (bd 17) = some (cI (K 0) 384 gd) := (ho _ (Ne.symm (zbd hbd 16 17)) (Ne.symm (zbd hbd 15 17))).trans h_gd
                        have h_le : M18 (bd 16) = some (cJ (K 1) 28 leF) := hs1
                        have h_po : M18 (bd 15) = some (cJ (K 1) 14 poF) := hs2
                        have hfr : ∀ q, q ≠ o → (∀ i, i < 18 → q ≠ bd i) → M18 q = M q := fun q g0 g1 => (ho q (g1 16 (by decide)) (g1 15 (by decide))).trans (hfr q g0 g1)
                        refine W.eq (g2 := F0 m 216 ls []) rfl ?_
                        have hPp : zPp mn ga poF := by rcases hFd with ⟨e1, e2⟩ | ⟨m0, lw, e1, e2, e3, e4, sv, e5, e6⟩; exact Or.inl ⟨fun e h1 h2 => (by rw [e1, hgp, if_pos ⟨h1, by omega⟩]), e2⟩; exact Or.inr ⟨m0, lw, e1, e2, e3, e4, sv, e5, fun z h1 h2 => (by rw [e6 z]; by_cases q : z < 14 - lw; rw [if_pos ⟨h1, q⟩, if_pos q]; rw [if_neg (by omega), if_neg q, hgp, if_pos ⟨h1, by omega⟩])⟩
                        exact zq_vret hx hb hr hlocks hZ hw ⟨rfl, ar, alV, onV, twV, mn, ga, poF, ⟨c0, NV, hAlV, har, hAzV, hNV, hFiV, hMn, hPp, hQ, hFin, zPp_in hPp hQ⟩, ⟨_, _, _, _, _, _, _, _, _, _, _, _, _, _, _, h_o, hbd, h_pS, h_pL, h_sg, h_lb, h_oS, h_oL, h_rw, h_fr, h_pi, h_fo, h_al, h_on, h_tw, h_sm, h_av, h_po, h_le, h_gd, fun j => ⟨hpS j, hpL j, hsg j, hlb j, hoS j, hoL j, hLsV.2.2.2.2 j, hfo j, hAiV j⟩⟩, hfr⟩ d_MM_know_216
                      · refine lv_aload_n hx hb d_MM_know_114 rfl (lv_at hl 0 rfl) ?_
                        refine lv_iload_n hx hb d_MM_know_115 rfl (lv_at hl 3 rfl) ?_
                        refine zq_callV (As := [.int (iI k)]) (rest := []) ⟨hx, hb, hml, hown, hts⟩ (c_MM_sumUp l D K Mq o bd th put wr nn cir oN oC cV fcs ar mn 1 onV twV gs  k h_o hbd h_on h_tw h_sm (fun j h1 h2 => (hFin j h1 h2).1) (fun j h1 h2 => (hFin j h1 h2).2) hnn ⟨by omega, by omega⟩ ⟨by omega, by omega⟩) (cwV 1 hts (zg_V tw_775 tw_777 ts_46 tw_10 tw_778) rfl rfl rfl (by decide +kernel) ⟨Nat.le_of_ble_eq_true rfl, Nat.le_of_ble_eq_true rfl⟩) hZ hw hA h_o rfl rfl rfl rfl hl.1 (Nat.le_of_ble_eq_true rfl) d_MM_know_116 ⟨Nat.le_of_ble_eq_true rfl, Nat.le_of_ble_eq_true rfl⟩ (fun v M19 H locs hp hw => ?_)
                        obtain ⟨rfl, smS, hSRs, hs1, ho⟩ := hp
                        have h_o : M19 o = some (.inr (9, [.int (iI th), .int (iI put), .int (iI wr), .ref (bd 0), .ref (bd 1), .int (iI nn), .int (iI cir), .int (iI oN), .int (iI oC), .ref (bd 2), .ref (bd 3), .ref (bd 4), .ref (bd 5), .int (iI cV), .ref (bd 6), .ref (bd 7), .ref (bd 8), .int (iI fcs), .ref (bd 9), .int (iI ar), .ref (bd 10), .ref (bd 11), .ref (bd 12), .ref (bd 13), .int (iI mn), .ref (bd 14), .ref (bd 15), .ref (bd 16), .int (iI 1), .ref (bd 17)])) := (ho _ (zq_ne h_o h_sm (by simp))).trans h_o
                        have h_pS : M19 (bd 0) = some (cI (K 0) 12 pS) := (ho _ (zbd hbd 0 13)).trans h_pS
                        have h_pL : M19 (bd 1) = some (cI (K 0) 48 pL) := (ho _ (zbd hbd 1 13)).trans h_pL
                        have h_sg : M19 (bd 2) = some (cI (K 0) 12 sg) := (ho _ (zbd hbd 2 13)).trans h_sg
                        have h_lb : M19 (bd 3) = some (cI (K 0) 48 lb) := (ho _ (zbd hbd 3 13)).trans h_lb
                        have h_oS : M19 (bd 4) = some (cI (K 0) 12 oS) := (ho _ (zbd hbd 4 13)).trans h_oS
                        have h_oL : M19 (bd 5) = some (cI (K 0) 48 oL) := (ho _ (zbd hbd 5 13)).trans h_oL
                        have h_rw : M19 (bd 6) = some (cI (K 0) 48 fV) := (ho _ (zbd hbd 6 13)).trans h_rw
                        have h_fr : M19 (bd 7) = some (cI (K 0) 48 fr) := (ho _ (zbd hbd 7 13)).trans h_fr
                        have h_pi : M19 (bd 8) = some (cI (K 0) 12 pi) := (ho _ (zbd hbd 8 13)).trans h_pi
                        have h_fo : M19 (bd 9) = some (cI (K 0) 48 fo) := (ho _ (zbd hbd 9 13)).trans h_fo
                        have h_al : M19 (bd 10) = some (cI (K 0) 40 alV) := (ho _ (zbd hbd 10 13)).trans h_al
                        have h_on : M19 (bd 11) = some (cI (K 0) 384 onV) := (ho _ (zbd hbd 11 13)).trans h_on
                        have h_tw : M19 (bd 12) = some (cI (K 0) 384 twV) := (ho _ (zbd hbd 12 13)).trans h_tw
                        have h_av : M19 (bd 14) = some (cJ (K 1) 2100 ga) := (ho _ (Ne.symm (zbd hbd 13 14))).trans h_av
                        have h_po : M19 (bd 15) = some (cJ (K 1) 14 gp) := (ho _ (Ne.symm (zbd hbd 13 15))).trans h_po
                        have h_le : M19 (bd 16) = some (cJ (K 1) 28 le) := (ho _ (Ne.symm (zbd hbd 13 16))).trans h_le
                        have h_gd : M19 (bd 17) = some (cI (K 0) 384 gd) := (ho _ (Ne.symm (zbd hbd 13 17))).trans h_gd
                        have h_sm : M19 (bd 13) = some (cJ (K 1) 114688 smS) := hs1
                        have hfr : ∀ q, q ≠ o → (∀ i, i < 18 → q ≠ bd i) → M19 q = M q := fun q g0 g1 => (ho q (g1 13 (by decide))).trans (hfr q g0 g1)
                        refine W.eq (g2 := F0 m 119 ls []) rfl ?_
                        have hL3 : ∀ (n : Nat) (a : Int) (mn : Int) (ga : Int → Int) (Mq : zq_M) (H : Heap) (locs : List Loc) (ls : Array Slot), (0 ≤ a ∧ a ≤ ar) → (mn = ar * (k - fi) + a) → (zAvr onV twV nn ar fi k a ga) → (ar - a).toNat < n → (∀ q, q ≠ o → (∀ i, i < 18 → q ≠ bd i) → Mq q = M q) → Mq o = some (.inr (9, [.int (iI th), .int (iI put), .int (iI wr), .ref (bd 0), .ref (bd 1), .int (iI nn), .int (iI cir), .int (iI oN), .int (iI oC), .ref (bd 2), .ref (bd 3), .ref (bd 4), .ref (bd 5), .int (iI cV), .ref (bd 6), .ref (bd 7), .ref (bd 8), .int (iI fcs), .ref (bd 9), .int (iI ar), .ref (bd 10), .ref (bd 11), .ref (bd 12), .ref (bd 13), .int (iI mn), .ref (bd 14), .ref (bd 15), .ref (bd 16), .int (iI 1), .ref (bd 17)])) → Mq (bd 0) = some (cI (K 0) 12 pS) → Mq (bd 1) = some (cI (K 0) 48 pL) → Mq (bd 2) = some (cI (K 0) 12 sg) → Mq (bd 3) = some (cI (K 0) 48 lb) → Mq (bd 4) = some (cI (K 0) 12 oS) → Mq (bd 5) = some (cI (K 0) 48 oL) → Mq (bd 6) = some (cI (K 0) 48 fV) → Mq (bd 7) = some (cI (K 0) 48 fr) → Mq (bd 8) = some (cI (K 0) 12 pi) → Mq (bd 9) = some (cI (K 0) 48 fo) → Mq (bd 10) = some (cI (K 0) 40 alV) → Mq (bd 11) = some (cI (K 0) 384 onV) → Mq (bd 12) = some (cI (K 0) 384 twV) → Mq (bd 13) = some (cJ (K 1) 114688 smS) → Mq (bd 14) = some (cJ (K 1) 2100 ga) → Mq (bd 15) = some (cJ (K 1) 14 gp) → Mq (bd 16) = some (cJ (K 1) 28 le) → Mq (bd 17) = some (cI (K 0) 384 gd) → zq_W D vwCl A s.heap Mq H locs → lv_has ls 7 [(0, .ref o), (1, .int (iI fi)), (2, .int (iI la)), (3, .int (iI k)), (4, .int (iI a))] → W p l e ({ frames := 6, cells := 0, slots := 0, locals := 139 } : Room) s m [.ref o].toArray below meth co H locs 0 0 (MQ below (zq_Q D vwCl (zT K) (P_MM_know K M o bd put pS pL nn cir sg lb kn arcs al on tw mns av po) A) [.ref o].toArray s 0 0 A) (F0 m 122 ls []) := by
                          intro n
                          induction n with
                          | zero =>
                            intro a mn ga Mq H locs ls ha hmn hAv hms hfr h_o h_pS h_pL h_sg h_lb h_oS h_oL h_rw h_fr h_pi h_fo h_al h_on h_tw h_sm h_av h_po h_le h_gd hw hl
                            exact absurd hms (Nat.not_lt_zero _)
                          | succ n ih_hL3 =>
                            intro a mn ga Mq H locs ls ha hmn hAv hms hfr h_o h_pS h_pL h_sg h_lb h_oS h_oL h_rw h_fr h_pi h_fo h_al h_on h_tw h_sm h_av h_po h_le h_gd hw hl
                            refine lv_iload hx hb d_MM_know_122 (lv_at hl 4 rfl) ?_
                            refine lv_aload_n hx hb d_MM_know_124 rfl (lv_at hl 0 rfl) ?_
                            refine zq_get hx hb hts i_MM hown hK hw h_o rfl 19 (by decide) (hts _ tw_605) rfl d_MM_know_125 ?_
                            refine zq_icmp_ge (tgt := 206) hx hb d_MM_know_128 (by decide) ⟨by omega, by omega⟩ ⟨by omega, by omega⟩ (fun hc20 => ?_) (fun hc20 => ?_)
                            · refine lv_iinc (v := iI (k + 1)) (lv' := [(3, .int (iI (k + 1))), (0, .ref o), (1, .int (iI fi)), (2, .int (iI la)), (4, .int (iI a))]) hx hb d_MM_know_206 hl (k := 3) rfl (iI_add _ _) (by decide) rfl (fun ls hl => ?_)
                              refine lv_goto (tgt := 109) hx hb d_MM_know_209 (by decide) ?_
                              exact ih_hL2 fi la (k + 1) mn ga smS Mq _ _ _ hfl (by omega) (by rw [show k + 1 - fi = (k - fi) + 1 by omega, Int.mul_add, Int.mul_one]; omega) (zAvr_row hAv (by omega)) (by omega) hfr h_o h_pS h_pL h_sg h_lb h_oS h_oL h_rw h_fr h_pi h_fo h_al h_on h_tw h_sm h_av h_po h_le h_gd hw (lv_sub hl [1, 2, 3, 0] rfl)
                            · have hzf := zfull (r := ar) (a := a) ⟨by omega, by omega⟩ (by omega)
                              have hp1 := zpw ar.toNat
                              have hp2 := zpw a.toNat
                              have hp3 := (zsl (k := ar) (by omega) (by omega)).2.2
                              have hmb : 0 ≤ mn ∧ mn ≤ 148 := by rcases hfl with q | q; have e9 : k - fi = 0 := (by omega); rw [e9, Int.mul_zero] at hmn; omega; have h9 := zmnb (ar := ar) (x := k - fi) (by omega) (by omega); omega
                              refine lv_iconst (v := iI 1) hx hb d_MM_know_131 rfl ?_
                              refine lv_aload_n hx hb d_MM_know_132 rfl (lv_at hl 0 rfl) ?_
                              refine zq_get hx hb hts i_MM hown hK hw h_o rfl 19 (by decide) (hts _ tw_605) rfl d_MM_know_133 ?_
                              refine zq_ishl1 hx hb (by omega) (by omega) d_MM_know_136 ?_
                              refine lv_iconst (v := iI 1) hx hb d_MM_know_137 rfl ?_
                              refine zq_isub hx hb d_MM_know_138 ?_
                              refine lv_iconst (v := iI 1) hx hb d_MM_know_139 rfl ?_
                              refine lv_iload hx hb d_MM_know_140 (lv_at hl 4 rfl) ?_
                              refine zq_ishl1 hx hb (by omega) (by omega) d_MM_know_142 ?_
                              refine zq_isub hx hb d_MM_know_143 ?_
                              refine lv_istore (lv' := [(5, .int (iI (((2 ^ ar.toNat) - 1) - (2 ^ a.toNat)))), (0, .ref o), (1, .int (iI fi)), (2, .int (iI la)), (3, .int (iI k)), (4, .int (iI a))]) hx hb d_MM_know_144 hl (by decide) rfl (fun ls hl => ?_)
                              have hL4 : ∀ (n : Nat) (e0 : Int) (g2 : Int → Int) (Mq : zq_M) (H : Heap) (locs : List Loc) (ls : Array Slot), (0 ≤ e0 ∧ e0 ≤ 14) → (∀ z, g2 z = if 14 * mn ≤ z ∧ z < 14 * mn + e0 then smS (14 * (2 ^ ar.toNat - 1 - 2 ^ a.toNat) + (z - 14 * mn)) else ga z) → (14 - e0).toNat < n → (∀ q, q ≠ o → (∀ i, i < 18 → q ≠ bd i) → Mq q = M q) → Mq o = some (.inr (9, [.int (iI th), .int (iI put), .int (iI wr), .ref (bd 0), .ref (bd 1), .int (iI nn), .int (iI cir), .int (iI oN), .int (iI oC), .ref (bd 2), .ref (bd 3), .ref (bd 4), .ref (bd 5), .int (iI cV), .ref (bd 6), .ref (bd 7), .ref (bd 8), .int (iI fcs), .ref (bd 9), .int (iI ar), .ref (bd 10), .ref (bd 11), .ref (bd 12), .ref (bd 13), .int (iI mn), .ref (bd 14), .ref (bd 15), .ref (bd 16), .int (iI 1), .ref (bd 17)])) → Mq (bd 0) = some (cI (K 0) 12 pS) → Mq (bd 1) = some (cI (K 0) 48 pL) → Mq (bd 2) = some (cI (K 0) 12 sg) → Mq (bd 3) = some (cI (K 0) 48 lb) → Mq (bd 4) = some (cI (K 0) 12 oS) → Mq (bd 5) = some (cI (K 0) 48 oL) → Mq (bd 6) = some (cI (K 0) 48 fV) → Mq (bd 7) = some (cI (K 0) 48 fr) → Mq (bd 8) = some (cI (K 0) 12 pi) → Mq (bd 9) = some (cI (K 0) 48 fo) → Mq (bd 10) = some (cI (K 0) 40 alV) → Mq (bd 11) = some (cI (K 0) 384 onV) → Mq (bd 12) = some (cI (K 0) 384 twV) → Mq (bd 13) = some (cJ (K 1) 114688 smS) → Mq (bd 14) = some (cJ (K 1) 2100 g2) → Mq (bd 15) = some (cJ (K 1) 14 gp) → Mq (bd 16) = some (cJ (K 1) 28 le) → Mq (bd 17) = some (cI (K 0) 384 gd) → zq_W D vwCl A s.heap Mq H locs → lv_has ls 7 [(0, .ref o), (1, .int (iI fi)), (2, .int (iI la)), (3, .int (iI k)), (4, .int (iI a)), (5, .int (iI (((2 ^ ar.toNat) - 1) - (2 ^ a.toNat)))), (6, .int (iI e0))] → W p l e ({ frames := 6, cells := 0, slots := 0, locals := 139 } : Room) s m [.ref o].toArray below meth co H locs 0 0 (MQ below (zq_Q D vwCl (zT K) (P_MM_know K M o bd put pS pL nn cir sg lb kn arcs al on tw mns av po) A) [.ref o].toArray s 0 0 A) (F0 m 149 ls []) := by
                                intro n
                                induction n with
                                | zero =>
                                  intro e0 g2 Mq H locs ls he hg2 hms hfr h_o h_pS h_pL h_sg h_lb h_oS h_oL h_rw h_fr h_pi h_fo h_al h_on h_tw h_sm h_av h_po h_le h_gd hw hl
                                  exact absurd hms (Nat.not_lt_zero _)
                                | succ n ih_hL4 =>
                                  intro e0 g2 Mq H locs ls he hg2 hms hfr h_o h_pS h_pL h_sg h_lb h_oS h_oL h_rw h_fr h_pi h_fo h_al h_on h_tw h_sm h_av h_po h_le h_gd hw hl
                                  refine lv_iload hx hb d_MM_know_149 (lv_at hl 6 rfl) ?_
                                  refine lv_bipush (v := iI 14) hx hb d_MM_know_151 (by decide) ?_
                                  refine zq_icmp_ge (tgt := 190) hx hb d_MM_know_153 (by decide) ⟨by omega, by omega⟩ (by decide) (fun hc21 => ?_) (fun hc21 => ?_)
                                  · have hAn : zAvr onV twV nn ar fi k (a + 1) g2 := zAvr_col hAv (by omega) ⟨by omega, by omega⟩ hmn (fun e h1 h2 => (hSRs _ hzf.2 (by omega) e h1 h2).1 (by rw [hzf.1, zdn_eq]; by_cases q9 : 0 ≤ k ∧ k < (nn.toNat : Int); rw [if_pos q9]; omega; rw [if_neg q9]; omega)) (fun z => by rw [hg2 z, show e0 = 14 by omega])
                                    refine lv_aload_n hx hb d_MM_know_190 rfl (lv_at hl 0 rfl) ?_
                                    refine lv_dup hx hb d_MM_know_191 rfl ?_
                                    refine zq_get hx hb hts i_MM hown hK hw h_o rfl 24 (by decide) (hts _ tw_610) rfl d_MM_know_192 ?_
                                    refine lv_iconst (v := iI 1) hx hb d_MM_know_195 rfl ?_
                                    refine zq_iadd hx hb d_MM_know_196 ?_
                                    refine zq_put (ci := 9) (v := .int (iI (mn + 1))) (ty := .int) hx hb hts i_MM t_MM t_MM_ok n_MM hown hK hw h_o rfl 24 (by decide) (hts _ tw_610) rfl (by decide +kernel) rfl rfl (Nat.le_of_ble_eq_true rfl) d_MM_know_197 (fun M22 H locs hs ho hw => ?_)
                                    have h_pS : M22 (bd 0) = some (cI (K 0) 12 pS) := (ho _ (zq_ne h_pS h_o (by simp))).trans h_pS
                                    have h_pL : M22 (bd 1) = some (cI (K 0) 48 pL) := (ho _ (zq_ne h_pL h_o (by simp))).trans h_pL
                                    have h_sg : M22 (bd 2) = some (cI (K 0) 12 sg) := (ho _ (zq_ne h_sg h_o (by simp))).trans h_sg
                                    have h_lb : M22 (bd 3) = some (cI (K 0) 48 lb) := (ho _ (zq_ne h_lb h_o (by simp))).trans h_lb
                                    have h_oS : M22 (bd 4) = some (cI (K 0) 12 oS) := (ho _ (zq_ne h_oS h_o (by simp))).trans h_oS
                                    have h_oL : M22 (bd 5) = some (cI (K 0) 48 oL) := (ho _ (zq_ne h_oL h_o (by simp))).trans h_oL
                                    have h_rw : M22 (bd 6) = some (cI (K 0) 48 fV) := (ho _ (zq_ne h_rw h_o (by simp))).trans h_rw
                                    have h_fr : M22 (bd 7) = some (cI (K 0) 48 fr) := (ho _ (zq_ne h_fr h_o (by simp))).trans h_fr
                                    have h_pi : M22 (bd 8) = some (cI (K 0) 12 pi) := (ho _ (zq_ne h_pi h_o (by simp))).trans h_pi
                                    have h_fo : M22 (bd 9) = some (cI (K 0) 48 fo) := (ho _ (zq_ne h_fo h_o (by simp))).trans h_fo
                                    have h_al : M22 (bd 10) = some (cI (K 0) 40 alV) := (ho _ (zq_ne h_al h_o (by simp))).trans h_al
                                    have h_on : M22 (bd 11) = some (cI (K 0) 384 onV) := (ho _ (zq_ne h_on h_o (by simp))).trans h_on
                                    have h_tw : M22 (bd 12) = some (cI (K 0) 384 twV) := (ho _ (zq_ne h_tw h_o (by simp))).trans h_tw
                                    have h_sm : M22 (bd 13) = some (cJ (K 1) 114688 smS) := (ho _ (zq_ne h_sm h_o (by simp))).trans h_sm
                                    have h_av : M22 (bd 14) = some (cJ (K 1) 2100 g2) := (ho _ (zq_ne h_av h_o (by simp))).trans h_av
                                    have h_po : M22 (bd 15) = some (cJ (K 1) 14 gp) := (ho _ (zq_ne h_po h_o (by simp))).trans h_po
                                    have h_le : M22 (bd 16) = some (cJ (K 1) 28 le) := (ho _ (zq_ne h_le h_o (by simp))).trans h_le
                                    have h_gd : M22 (bd 17) = some (cI (K 0) 384 gd) := (ho _ (zq_ne h_gd h_o (by simp))).trans h_gd
                                    have h_o : M22 o = some (.inr (9, [.int (iI th), .int (iI put), .int (iI wr), .ref (bd 0), .ref (bd 1), .int (iI nn), .int (iI cir), .int (iI oN), .int (iI oC), .ref (bd 2), .ref (bd 3), .ref (bd 4), .ref (bd 5), .int (iI cV), .ref (bd 6), .ref (bd 7), .ref (bd 8), .int (iI fcs), .ref (bd 9), .int (iI ar), .ref (bd 10), .ref (bd 11), .ref (bd 12), .ref (bd 13), .int (iI (mn + 1)), .ref (bd 14), .ref (bd 15), .ref (bd 16), .int (iI 1), .ref (bd 17)])) := hs
                                    have hfr : ∀ q, q ≠ o → (∀ i, i < 18 → q ≠ bd i) → M22 q = M q := fun q g0 g1 => (ho q g0).trans (hfr q g0 g1)
                                    refine lv_iinc (v := iI (a + 1)) (lv' := [(4, .int (iI (a + 1))), (0, .ref o), (1, .int (iI fi)), (2, .int (iI la)), (3, .int (iI k)), (5, .int (iI (((2 ^ ar.toNat) - 1) - (2 ^ a.toNat)))), (6, .int (iI e0))]) hx hb d_MM_know_200 hl (k := 4) rfl (iI_add _ _) (by decide) rfl (fun ls hl => ?_)
                                    refine lv_goto (tgt := 122) hx hb d_MM_know_203 (by decide) ?_
                                    exact ih_hL3 (a + 1) (mn + 1) g2 M22 _ _ _ (by omega) (by omega) hAn (by omega) hfr h_o h_pS h_pL h_sg h_lb h_oS h_oL h_rw h_fr h_pi h_fo h_al h_on h_tw h_sm h_av h_po h_le h_gd hw (lv_sub hl [1, 2, 3, 4, 0] rfl)
                                  · refine lv_aload_n hx hb d_MM_know_156 rfl (lv_at hl 0 rfl) ?_
                                    refine zq_get hx hb hts i_MM hown hK hw h_o rfl 25 (by decide) (hts _ tw_611) rfl d_MM_know_157 ?_
                                    refine lv_bipush (v := iI 14) hx hb d_MM_know_160 (by decide) ?_
                                    refine lv_aload_n hx hb d_MM_know_162 rfl (lv_at hl 0 rfl) ?_
                                    refine zq_get hx hb hts i_MM hown hK hw h_o rfl 24 (by decide) (hts _ tw_610) rfl d_MM_know_163 ?_
                                    refine zq_imul hx hb d_MM_know_166 ?_
                                    refine lv_iload hx hb d_MM_know_167 (lv_at hl 6 rfl) ?_
                                    refine zq_iadd hx hb d_MM_know_169 ?_
                                    refine lv_aload_n hx hb d_MM_know_170 rfl (lv_at hl 0 rfl) ?_
                                    refine zq_get hx hb hts i_MM hown hK hw h_o rfl 23 (by decide) (hts _ tw_609) rfl d_MM_know_171 ?_
                                    refine lv_bipush (v := iI 14) hx hb d_MM_know_174 (by decide) ?_
                                    refine lv_iload hx hb d_MM_know_176 (lv_at hl 5 rfl) ?_
                                    refine zq_imul hx hb d_MM_know_178 ?_
                                    refine lv_iload hx hb d_MM_know_179 (lv_at hl 6 rfl) ?_
                                    refine zq_iadd hx hb d_MM_know_181 ?_
                                    refine zq_lald hx hb hK hw 1 h_sm rfl (by omega) (by omega) (by decide) d_MM_know_182 ?_
                                    refine zq_last hx hb hK hw 1 h_av rfl (by omega) (by omega) (by decide) d_MM_know_183 (fun M23 H locs hs ho hw => ?_)
                                    have h_o : M23 o = some (.inr (9, [.int (iI th), .int (iI put), .int (iI wr), .ref (bd 0), .ref (bd 1), .int (iI nn), .int (iI cir), .int (iI oN), .int (iI oC), .ref (bd 2), .ref (bd 3), .ref (bd 4), .ref (bd 5), .int (iI cV), .ref (bd 6), .ref (bd 7), .ref (bd 8), .int (iI fcs), .ref (bd 9), .int (iI ar), .ref (bd 10), .ref (bd 11), .ref (bd 12), .ref (bd 13), .int (iI mn), .ref (bd 14), .ref (bd 15), .ref (bd 16), .int (iI 1), .ref (bd 17)])) := (ho _ (zq_ne h_o h_av (by simp))).trans h_o
                                    have h_pS : M23 (bd 0) = some (cI (K 0) 12 pS) := (ho _ (zbd hbd 0 14)).trans h_pS
                                    have h_pL : M23 (bd 1) = some (cI (K 0) 48 pL) := (ho _ (zbd hbd 1 14)).trans h_pL
                                    have h_sg : M23 (bd 2) = some (cI (K 0) 12 sg) := (ho _ (zbd hbd 2 14)).trans h_sg
                                    have h_lb : M23 (bd 3) = some (cI (K 0) 48 lb) := (ho _ (zbd hbd 3 14)).trans h_lb
                                    have h_oS : M23 (bd 4) = some (cI (K 0) 12 oS) := (ho _ (zbd hbd 4 14)).trans h_oS
                                    have h_oL : M23 (bd 5) = some (cI (K 0) 48 oL) := (ho _ (zbd hbd 5 14)).trans h_oL
                                    have h_rw : M23 (bd 6) = some (cI (K 0) 48 fV) := (ho _ (zbd hbd 6 14)).trans h_rw
                                    have h_fr : M23 (bd 7) = some (cI (K 0) 48 fr) := (ho _ (zbd hbd 7 14)).trans h_fr
                                    have h_pi : M23 (bd 8) = some (cI (K 0) 12 pi) := (ho _ (zbd hbd 8 14)).trans h_pi
                                    have h_fo : M23 (bd 9) = some (cI (K 0) 48 fo) := (ho _ (zbd hbd 9 14)).trans h_fo
                                    have h_al : M23 (bd 10) = some (cI (K 0) 40 alV) := (ho _ (zbd hbd 10 14)).trans h_al
                                    have h_on : M23 (bd 11) = some (cI (K 0) 384 onV) := (ho _ (zbd hbd 11 14)).trans h_on
                                    have h_tw : M23 (bd 12) = some (cI (K 0) 384 twV) := (ho _ (zbd hbd 12 14)).trans h_tw
                                    have h_sm : M23 (bd 13) = some (cJ (K 1) 114688 smS) := (ho _ (zbd hbd 13 14)).trans h_sm
                                    have h_po : M23 (bd 15) = some (cJ (K 1) 14 gp) := (ho _ (Ne.symm (zbd hbd 14 15))).trans h_po
                                    have h_le : M23 (bd 16) = some (cJ (K 1) 28 le) := (ho _ (Ne.symm (zbd hbd 14 16))).trans h_le
                                    have h_gd : M23 (bd 17) = some (cI (K 0) 384 gd) := (ho _ (Ne.symm (zbd hbd 14 17))).trans h_gd
                                    have h_av : M23 (bd 14) = some (cJ (K 1) 2100 (zu g2 ((14 * mn) + e0) (smS ((14 * (((2 ^ ar.toNat) - 1) - (2 ^ a.toNat))) + e0)))) := hs
                                    have hfr : ∀ q, q ≠ o → (∀ i, i < 18 → q ≠ bd i) → M23 q = M q := fun q g0 g1 => (ho q (g1 14 (by decide))).trans (hfr q g0 g1)
                                    refine lv_iinc (v := iI (e0 + 1)) (lv' := [(6, .int (iI (e0 + 1))), (0, .ref o), (1, .int (iI fi)), (2, .int (iI la)), (3, .int (iI k)), (4, .int (iI a)), (5, .int (iI (((2 ^ ar.toNat) - 1) - (2 ^ a.toNat))))]) hx hb d_MM_know_184 hl (k := 6) rfl (iI_add _ _) (by decide) rfl (fun ls hl => ?_)
                                    refine lv_goto (tgt := 149) hx hb d_MM_know_187 (by decide) ?_
                                    exact ih_hL4 (e0 + 1) (zu g2 ((14 * mn) + e0) (smS ((14 * (((2 ^ ar.toNat) - 1) - (2 ^ a.toNat))) + e0))) M23 _ _ _ (by omega) (zup_av hg2 he.1) (by omega) hfr h_o h_pS h_pL h_sg h_lb h_oS h_oL h_rw h_fr h_pi h_fo h_al h_on h_tw h_sm h_av h_po h_le h_gd hw (lv_sub hl [1, 2, 3, 4, 5, 6, 0] rfl)
                              refine lv_iconst (v := iI 0) hx hb d_MM_know_146 rfl ?_
                              refine lv_istore (lv' := [(6, .int (iI 0)), (5, .int (iI (((2 ^ ar.toNat) - 1) - (2 ^ a.toNat)))), (0, .ref o), (1, .int (iI fi)), (2, .int (iI la)), (3, .int (iI k)), (4, .int (iI a))]) hx hb d_MM_know_147 hl (by decide) rfl (fun ls hl => ?_)
                              exact hL4 _ 0 ga Mq _ _ _ ⟨by omega, by omega⟩ (fun z => (if_neg (by omega)).symm) (Nat.lt_succ_self _) hfr h_o h_pS h_pL h_sg h_lb h_oS h_oL h_rw h_fr h_pi h_fo h_al h_on h_tw h_sm h_av h_po h_le h_gd hw (lv_sub hl [2, 3, 4, 5, 6, 1, 0] rfl)
                        refine lv_iconst (v := iI 0) hx hb d_MM_know_119 rfl ?_
                        refine lv_istore (lv' := [(4, .int (iI 0)), (0, .ref o), (1, .int (iI fi)), (2, .int (iI la)), (3, .int (iI k))]) hx hb d_MM_know_120 hl (by decide) rfl (fun ls hl => ?_)
                        exact hL3 _ 0 mn ga M19 _ _ _ ⟨by omega, by omega⟩ (by omega) hAv (Nat.lt_succ_self _) hfr h_o h_pS h_pL h_sg h_lb h_oS h_oL h_rw h_fr h_pi h_fo h_al h_on h_tw h_sm h_av h_po h_le h_gd hw (lv_sub hl [1, 2, 3, 4, 0] rfl)
                  refine lv_iload_n hx hb d_MM_know_107 rfl (lv_at hl 1 rfl) ?_
                  refine lv_istore_n (lv' := [(3, .int (iI 0)), (2, .int (iI (-1))), (1, .int (iI 0)), (0, .ref o)]) hx hb d_MM_know_108 rfl hl (by decide) rfl (fun ls hl => ?_)
                  exact hL2 _ 0 (-1) 0 0 av sm Mq _ _ _ (by omega) (by omega) (by rw [Int.sub_self, Int.mul_zero]) zAvr_0 (Nat.lt_succ_self _) hfr h_o h_pS h_pL h_sg h_lb h_oS h_oL h_rw h_fr h_pi h_fo h_al h_on h_tw h_sm h_av h_po h_le h_gd hw (lv_sub hl [3, 2, 1, 0] rfl)
              · refine lv_iconst (v := iI (-1)) hx hb d_MM_know_77 rfl ?_
                refine lv_goto (tgt := 82) hx hb d_MM_know_78 (by decide) ?_
                refine lv_istore_n (lv' := [(1, .int (iI (-1))), (0, .ref o)]) hx hb d_MM_know_82 rfl hl (by decide) rfl (fun ls hl => ?_)
                refine lv_aload_n hx hb d_MM_know_83 rfl (lv_at hl 1 rfl) ?_
                refine zq_get hx hb hts i_MM hown hK hw h_o rfl 19 (by decide) (hts _ tw_605) rfl d_MM_know_84 ?_
                refine lv_aload_n hx hb d_MM_know_87 rfl (lv_at hl 1 rfl) ?_
                refine zq_get hx hb hts i_MM hown hK hw h_o rfl 5 (by decide) (hts _ tw_591) rfl d_MM_know_88 ?_
                refine lv_iconst (v := iI 1) hx hb d_MM_know_91 rfl ?_
                refine zq_iadd hx hb d_MM_know_92 ?_
                refine zq_icmp_ne (tgt := 100) hx hb d_MM_know_93 (by decide) ⟨by omega, by omega⟩ ⟨by omega, by omega⟩ (fun hc24 => ?_) (fun hc24 => ?_)
                · refine lv_aload_n hx hb d_MM_know_100 rfl (lv_at hl 1 rfl) ?_
                  refine zq_get hx hb hts i_MM hown hK hw h_o rfl 5 (by decide) (hts _ tw_591) rfl d_MM_know_101 ?_
                  refine lv_iconst (v := iI 1) hx hb d_MM_know_104 rfl ?_
                  refine zq_isub hx hb d_MM_know_105 ?_
                  refine lv_istore_n (lv' := [(2, .int (iI (nn - 1))), (1, .int (iI (-1))), (0, .ref o)]) hx hb d_MM_know_106 rfl hl (by decide) rfl (fun ls hl => ?_)
                  have hL2 : ∀ (n : Nat) (fi : Int) (la : Int) (k : Int) (mn : Int) (ga : Int → Int) (gs : Int → Int) (Mq : zq_M) (H : Heap) (locs : List Loc) (ls : Array Slot), ((fi = -1 ∧ la = -1 ∧ ar = nn + 1) ∨ (fi = 0 ∧ la = nn - 1 ∧ ar = nn)) → (fi ≤ k ∧ k ≤ la + 1) → (mn = ar * (k - fi)) → (zAvr onV twV nn ar fi k 0 ga) → (la + 1 - k).toNat < n → (∀ q, q ≠ o → (∀ i, i < 18 → q ≠ bd i) → Mq q = M q) → Mq o = some (.inr (9, [.int (iI th), .int (iI put), .int (iI wr), .ref (bd 0), .ref (bd 1), .int (iI nn), .int (iI cir), .int (iI oN), .int (iI oC), .ref (bd 2), .ref (bd 3), .ref (bd 4), .ref (bd 5), .int (iI cV), .ref (bd 6), .ref (bd 7), .ref (bd 8), .int (iI fcs), .ref (bd 9), .int (iI ar), .ref (bd 10), .ref (bd 11), .ref (bd 12), .ref (bd 13), .int (iI mn), .ref (bd 14), .ref (bd 15), .ref (bd 16), .int (iI 1), .ref (bd 17)])) → Mq (bd 0) = some (cI (K 0) 12 pS) → Mq (bd 1) = some (cI (K 0) 48 pL) → Mq (bd 2) = some (cI (K 0) 12 sg) → Mq (bd 3) = some (cI (K 0) 48 lb) → Mq (bd 4) = some (cI (K 0) 12 oS) → Mq (bd 5) = some (cI (K 0) 48 oL) → Mq (bd 6) = some (cI (K 0) 48 fV) → Mq (bd 7) = some (cI (K 0) 48 fr) → Mq (bd 8) = some (cI (K 0) 12 pi) → Mq (bd 9) = some (cI (K 0) 48 fo) → Mq (bd 10) = some (cI (K 0) 40 alV) → Mq (bd 11) = some (cI (K 0) 384 onV) → Mq (bd 12) = some (cI (K 0) 384 twV) → Mq (bd 13) = some (cJ (K 1) 114688 gs) → Mq (bd 14) = some (cJ (K 1) 2100 ga) → Mq (bd 15) = some (cJ (K 1) 14 gp) → Mq (bd 16) = some (cJ (K 1) 28 le) → Mq (bd 17) = some (cI (K 0) 384 gd) → zq_W D vwCl A s.heap Mq H locs → lv_has ls 7 [(0, .ref o), (1, .int (iI fi)), (2, .int (iI la)), (3, .int (iI k))] → W p l e ({ frames := 6, cells := 0, slots := 0, locals := 139 } : Room) s m [.ref o].toArray below meth co H locs 0 0 (MQ below (zq_Q D vwCl (zT K) (P_MM_know K M o bd put pS pL nn cir sg lb kn arcs al on tw mns av po) A) [.ref o].toArray s 0 0 A) (F0 m 109 ls []) := by
                    intro n
                    induction n with
                    | zero =>
                      intro fi la k mn ga gs Mq H locs ls hfl hk hmn hAv hms hfr h_o h_pS h_pL h_sg h_lb h_oS h_oL h_rw h_fr h_pi h_fo h_al h_on h_tw h_sm h_av h_po h_le h_gd hw hl
                      exact absurd hms (Nat.not_lt_zero _)
                    | succ n ih_hL2 =>
                      intro fi la k mn ga gs Mq H locs ls hfl hk hmn hAv hms hfr h_o h_pS h_pL h_sg h_lb h_oS h_oL h_rw h_fr h_pi h_fo h_al h_on h_tw h_sm h_av h_po h_le h_gd hw hl
                      refine lv_iload_n hx hb d_MM_know_109 rfl (lv_at hl 3 rfl) ?_
                      refine lv_iload_n hx hb d_MM_know_110 rfl (lv_at hl 2 rfl) ?_
                      refine zq_icmp_gt (tgt := 212) hx hb d_MM_know_111 (by decide) ⟨by omega, by omega⟩ ⟨by omega, by omega⟩ (fun hc25 => ?_) (fun hc25 => ?_)
                      · have hMn : zMn nn ar onV twV mn ga := by rcases hfl with ⟨e1, e2, e3⟩ | ⟨e1, e2, e3⟩; exact Or.inr (Or.inl ⟨⟨by omega, by omega⟩, e3, (by rw [hmn, show k - fi = 1 by omega, Int.mul_one]), (by rw [e1, show k = 0 by omega] at hAv; exact hAv)⟩); exact Or.inr (Or.inr ⟨⟨by omega, by omega⟩, e3, (by rw [hmn, show k - fi = nn by omega]), (by rw [e1, show k = nn by omega] at hAv; exact hAv)⟩)
                        have hQ := hM3.2.2 mn ga (by rw [← har]; exact hMn)
                        have hmb := zMn_b hMn hnn
                        refine lv_aload_n hx hb d_MM_know_212 rfl (lv_at hl 0 rfl) ?_
                        refine zq_callV (As := []) (rest := []) ⟨hx, hb, hml, hown, hts⟩ (c_MM_findDivisor l D K Mq o bd th put wr nn cir oN oC cV fcs ar mn 1 ga le gp   h_o hbd h_av h_le h_po hmb hQ.1 (fun mi ki lo fm a1 a2 a3 a4 a5 a6 a7 => by obtain ⟨q0, b1, b2⟩ := hQ.2 mi ki lo fm a1 a2 a3 a4 a5 a6 a7; exact ⟨q0, Or.inr b1, b2⟩)) (cwV 0 hts (zg_V tw_789 tw_791 ts_48 tw_10 tw_792) rfl rfl rfl (by decide +kernel) ⟨Nat.le_of_ble_eq_true rfl, Nat.le_of_ble_eq_true rfl⟩) hZ hw hA h_o rfl rfl rfl rfl hl.1 (Nat.le_of_ble_eq_true rfl) d_MM_know_213 ⟨Nat.le_of_ble_eq_true rfl, Nat.le_of_ble_eq_true rfl⟩ (fun v M26 H locs hp hw => ?_)
                        obtain ⟨rfl, leF, poF, hFd, hs1, hs2, ho⟩ := hp
                        have h_o : M26 o = some (.inr (9, [.int (iI th), .int (iI put), .int (iI wr), .ref (bd 0), .ref (bd 1), .int (iI nn), .int (iI cir), .int (iI oN), .int (iI oC), .ref (bd 2), .ref (bd 3), .ref (bd 4), .ref (bd 5), .int (iI cV), .ref (bd 6), .ref (bd 7), .ref (bd 8), .int (iI fcs), .ref (bd 9), .int (iI ar), .ref (bd 10), .ref (bd 11), .ref (bd 12), .ref (bd 13), .int (iI mn), .ref (bd 14), .ref (bd 15), .ref (bd 16), .int (iI 1), .ref (bd 17)])) := (ho _ (zq_ne h_o h_le (by simp)) (zq_ne h_o h_po (by simp))).trans h_o
                        have h_pS : M26 (bd 0) = some (cI (K 0) 12 pS) := (ho _ (zbd hbd 0 16) (zbd hbd 0 15)).trans h_pS
                        have h_pL : M26 (bd 1) = some (cI (K 0) 48 pL) := (ho _ (zbd hbd 1 16) (zbd hbd 1 15)).trans h_pL
                        have h_sg : M26 (bd 2) = some (cI (K 0) 12 sg) := (ho _ (zbd hbd 2 16) (zbd hbd 2 15)).trans h_sg
                        have h_lb : M26 (bd 3) = some (cI (K 0) 48 lb) := (ho _ (zbd hbd 3 16) (zbd hbd 3 15)).trans h_lb
                        have h_oS : M26 (bd 4) = some (cI (K 0) 12 oS) := (ho _ (zbd hbd 4 16) (zbd hbd 4 15)).trans h_oS
                        have h_oL : M26 (bd 5) = some (cI (K 0) 48 oL) := (ho _ (zbd hbd 5 16) (zbd hbd 5 15)).trans h_oL
                        have h_rw : M26 (bd 6) = some (cI (K 0) 48 fV) := (ho _ (zbd hbd 6 16) (zbd hbd 6 15)).trans h_rw
                        have h_fr : M26 (bd 7) = some (cI (K 0) 48 fr) := (ho _ (zbd hbd 7 16) (zbd hbd 7 15)).trans h_fr
                        have h_pi : M26 (bd 8) = some (cI (K 0) 12 pi) := (ho _ (zbd hbd 8 16) (zbd hbd 8 15)).trans h_pi
                        have h_fo : M26 (bd 9) = some (cI (K 0) 48 fo) := (ho _ (zbd hbd 9 16) (zbd hbd 9 15)).trans h_fo
                        have h_al : M26 (bd 10) = some (cI (K 0) 40 alV) := (ho _ (zbd hbd 10 16) (zbd hbd 10 15)).trans h_al
                        have h_on : M26 (bd 11) = some (cI (K 0) 384 onV) := (ho _ (zbd hbd 11 16) (zbd hbd 11 15)).trans h_on
                        have h_tw : M26 (bd 12) = some (cI (K 0) 384 twV) := (ho _ (zbd hbd 12 16) (zbd hbd 12 15)).trans h_tw
                        have h_sm : M26 (bd 13) = some (cJ (K 1) 114688 gs) := (ho _ (zbd hbd 13 16) (zbd hbd 13 15)).trans h_sm
                        have h_av : M26 (bd 14) = some (cJ (K 1) 2100 ga) := (ho _ (zbd hbd 14 16) (zbd hbd 14 15)).trans h_av
                        have h_gd : M26 (bd 17) = some (cI (K 0) 384 gd) := (ho _ (Ne.symm (zbd hbd 16 17)) (Ne.symm (zbd hbd 15 17))).trans h_gd
                        have h_le : M26 (bd 16) = some (cJ (K 1) 28 leF) := hs1
                        have h_po : M26 (bd 15) = some (cJ (K 1) 14 poF) := hs2
                        have hfr : ∀ q, q ≠ o → (∀ i, i < 18 → q ≠ bd i) → M26 q = M q := fun q g0 g1 => (ho q (g1 16 (by decide)) (g1 15 (by decide))).trans (hfr q g0 g1)
                        refine W.eq (g2 := F0 m 216 ls []) rfl ?_
                        have hPp : zPp mn ga poF := by rcases hFd with ⟨e1, e2⟩ | ⟨m0, lw, e1, e2, e3, e4, sv, e5, e6⟩; exact Or.inl ⟨fun e h1 h2 => (by rw [e1, hgp, if_pos ⟨h1, by omega⟩]), e2⟩; exact Or.inr ⟨m0, lw, e1, e2, e3, e4, sv, e5, fun z h1 h2 => (by rw [e6 z]; by_cases q : z < 14 - lw; rw [if_pos ⟨h1, q⟩, if_pos q]; rw [if_neg (by omega), if_neg q, hgp, if_pos ⟨h1, by omega⟩])⟩
                        exact zq_vret hx hb hr hlocks hZ hw ⟨rfl, ar, alV, onV, twV, mn, ga, poF, ⟨c0, NV, hAlV, har, hAzV, hNV, hFiV, hMn, hPp, hQ, hFin, zPp_in hPp hQ⟩, ⟨_, _, _, _, _, _, _, _, _, _, _, _, _, _, _, h_o, hbd, h_pS, h_pL, h_sg, h_lb, h_oS, h_oL, h_rw, h_fr, h_pi, h_fo, h_al, h_on, h_tw, h_sm, h_av, h_po, h_le, h_gd, fun j => ⟨hpS j, hpL j, hsg j, hlb j, hoS j, hoL j, hLsV.2.2.2.2 j, hfo j, hAiV j⟩⟩, hfr⟩ d_MM_know_216
                      · refine lv_aload_n hx hb d_MM_know_114 rfl (lv_at hl 0 rfl) ?_
                        refine lv_iload_n hx hb d_MM_know_115 rfl (lv_at hl 3 rfl) ?_
                        refine zq_callV (As := [.int (iI k)]) (rest := []) ⟨hx, hb, hml, hown, hts⟩ (c_MM_sumUp l D K Mq o bd th put wr nn cir oN oC cV fcs ar mn 1 onV twV gs  k h_o hbd h_on h_tw h_sm (fun j h1 h2 => (hFin j h1 h2).1) (fun j h1 h2 => (hFin j h1 h2).2) hnn ⟨by omega, by omega⟩ ⟨by omega, by omega⟩) (cwV 1 hts (zg_V tw_775 tw_777 ts_46 tw_10 tw_778) rfl rfl rfl (by decide +kernel) ⟨Nat.le_of_ble_eq_true rfl, Nat.le_of_ble_eq_true rfl⟩) hZ hw hA h_o rfl rfl rfl rfl hl.1 (Nat.le_of_ble_eq_true rfl) d_MM_know_116 ⟨Nat.le_of_ble_eq_true rfl, Nat.le_of_ble_eq_true rfl⟩ (fun v M27 H locs hp hw => ?_)
                        obtain ⟨rfl, smS, hSRs, hs1, ho⟩ := hp
                        have h_o : M27 o = some (.inr (9, [.int (iI th), .int (iI put), .int (iI wr), .ref (bd 0), .ref (bd 1), .int (iI nn), .int (iI cir), .int (iI oN), .int (iI oC), .ref (bd 2), .ref (bd 3), .ref (bd 4), .ref (bd 5), .int (iI cV), .ref (bd 6), .ref (bd 7), .ref (bd 8), .int (iI fcs), .ref (bd 9), .int (iI ar), .ref (bd 10), .ref (bd 11), .ref (bd 12), .ref (bd 13), .int (iI mn), .ref (bd 14), .ref (bd 15), .ref (bd 16), .int (iI 1), .ref (bd 17)])) := (ho _ (zq_ne h_o h_sm (by simp))).trans h_o
                        have h_pS : M27 (bd 0) = some (cI (K 0) 12 pS) := (ho _ (zbd hbd 0 13)).trans h_pS
                        have h_pL : M27 (bd 1) = some (cI (K 0) 48 pL) := (ho _ (zbd hbd 1 13)).trans h_pL
                        have h_sg : M27 (bd 2) = some (cI (K 0) 12 sg) := (ho _ (zbd hbd 2 13)).trans h_sg
                        have h_lb : M27 (bd 3) = some (cI (K 0) 48 lb) := (ho _ (zbd hbd 3 13)).trans h_lb
                        have h_oS : M27 (bd 4) = some (cI (K 0) 12 oS) := (ho _ (zbd hbd 4 13)).trans h_oS
                        have h_oL : M27 (bd 5) = some (cI (K 0) 48 oL) := (ho _ (zbd hbd 5 13)).trans h_oL
                        have h_rw : M27 (bd 6) = some (cI (K 0) 48 fV) := (ho _ (zbd hbd 6 13)).trans h_rw
                        have h_fr : M27 (bd 7) = some (cI (K 0) 48 fr) := (ho _ (zbd hbd 7 13)).trans h_fr
                        have h_pi : M27 (bd 8) = some (cI (K 0) 12 pi) := (ho _ (zbd hbd 8 13)).trans h_pi
                        have h_fo : M27 (bd 9) = some (cI (K 0) 48 fo) := (ho _ (zbd hbd 9 13)).trans h_fo
                        have h_al : M27 (bd 10) = some (cI (K 0) 40 alV) := (ho _ (zbd hbd 10 13)).trans h_al
                        have h_on : M27 (bd 11) = some (cI (K 0) 384 onV) := (ho _ (zbd hbd 11 13)).trans h_on
                        have h_tw : M27 (bd 12) = some (cI (K 0) 384 twV) := (ho _ (zbd hbd 12 13)).trans h_tw
                        have h_av : M27 (bd 14) = some (cJ (K 1) 2100 ga) := (ho _ (Ne.symm (zbd hbd 13 14))).trans h_av
                        have h_po : M27 (bd 15) = some (cJ (K 1) 14 gp) := (ho _ (Ne.symm (zbd hbd 13 15))).trans h_po
                        have h_le : M27 (bd 16) = some (cJ (K 1) 28 le) := (ho _ (Ne.symm (zbd hbd 13 16))).trans h_le
                        have h_gd : M27 (bd 17) = some (cI (K 0) 384 gd) := (ho _ (Ne.symm (zbd hbd 13 17))).trans h_gd
                        have h_sm : M27 (bd 13) = some (cJ (K 1) 114688 smS) := hs1
                        have hfr : ∀ q, q ≠ o → (∀ i, i < 18 → q ≠ bd i) → M27 q = M q := fun q g0 g1 => (ho q (g1 13 (by decide))).trans (hfr q g0 g1)
                        refine W.eq (g2 := F0 m 119 ls []) rfl ?_
                        have hL3 : ∀ (n : Nat) (a : Int) (mn : Int) (ga : Int → Int) (Mq : zq_M) (H : Heap) (locs : List Loc) (ls : Array Slot), (0 ≤ a ∧ a ≤ ar) → (mn = ar * (k - fi) + a) → (zAvr onV twV nn ar fi k a ga) → (ar - a).toNat < n → (∀ q, q ≠ o → (∀ i, i < 18 → q ≠ bd i) → Mq q = M q) → Mq o = some (.inr (9, [.int (iI th), .int (iI put), .int (iI wr), .ref (bd 0), .ref (bd 1), .int (iI nn), .int (iI cir), .int (iI oN), .int (iI oC), .ref (bd 2), .ref (bd 3), .ref (bd 4), .ref (bd 5), .int (iI cV), .ref (bd 6), .ref (bd 7), .ref (bd 8), .int (iI fcs), .ref (bd 9), .int (iI ar), .ref (bd 10), .ref (bd 11), .ref (bd 12), .ref (bd 13), .int (iI mn), .ref (bd 14), .ref (bd 15), .ref (bd 16), .int (iI 1), .ref (bd 17)])) → Mq (bd 0) = some (cI (K 0) 12 pS) → Mq (bd 1) = some (cI (K 0) 48 pL) → Mq (bd 2) = some (cI (K 0) 12 sg) → Mq (bd 3) = some (cI (K 0) 48 lb) → Mq (bd 4) = some (cI (K 0) 12 oS) → Mq (bd 5) = some (cI (K 0) 48 oL) → Mq (bd 6) = some (cI (K 0) 48 fV) → Mq (bd 7) = some (cI (K 0) 48 fr) → Mq (bd 8) = some (cI (K 0) 12 pi) → Mq (bd 9) = some (cI (K 0) 48 fo) → Mq (bd 10) = some (cI (K 0) 40 alV) → Mq (bd 11) = some (cI (K 0) 384 onV) → Mq (bd 12) = some (cI (K 0) 384 twV) → Mq (bd 13) = some (cJ (K 1) 114688 smS) → Mq (bd 14) = some (cJ (K 1) 2100 ga) → Mq (bd 15) = some (cJ (K 1) 14 gp) → Mq (bd 16) = some (cJ (K 1) 28 le) → Mq (bd 17) = some (cI (K 0) 384 gd) → zq_W D vwCl A s.heap Mq H locs → lv_has ls 7 [(0, .ref o), (1, .int (iI fi)), (2, .int (iI la)), (3, .int (iI k)), (4, .int (iI a))] → W p l e ({ frames := 6, cells := 0, slots := 0, locals := 139 } : Room) s m [.ref o].toArray below meth co H locs 0 0 (MQ below (zq_Q D vwCl (zT K) (P_MM_know K M o bd put pS pL nn cir sg lb kn arcs al on tw mns av po) A) [.ref o].toArray s 0 0 A) (F0 m 122 ls []) := by
                          intro n
                          induction n with
                          | zero =>
                            intro a mn ga Mq H locs ls ha hmn hAv hms hfr h_o h_pS h_pL h_sg h_lb h_oS h_oL h_rw h_fr h_pi h_fo h_al h_on h_tw h_sm h_av h_po h_le h_gd hw hl
                            exact absurd hms (Nat.not_lt_zero _)
                          | succ n ih_hL3 =>
                            intro a mn ga Mq H locs ls ha hmn hAv hms hfr h_o h_pS h_pL h_sg h_lb h_oS h_oL h_rw h_fr h_pi h_fo h_al h_on h_tw h_sm h_av h_po h_le h_gd hw hl
                            refine lv_iload hx hb d_MM_know_122 (lv_at hl 4 rfl) ?_
                            refine lv_aload_n hx hb d_MM_know_124 rfl (lv_at hl 0 rfl) ?_
                            refine zq_get hx hb hts i_MM hown hK hw h_o rfl 19 (by decide) (hts _ tw_605) rfl d_MM_know_125 ?_
                            refine zq_icmp_ge (tgt := 206) hx hb d_MM_know_128 (by decide) ⟨by omega, by omega⟩ ⟨by omega, by omega⟩ (fun hc28 => ?_) (fun hc28 => ?_)
                            · refine lv_iinc (v := iI (k + 1)) (lv' := [(3, .int (iI (k + 1))), (0, .ref o), (1, .int (iI fi)), (2, .int (iI la)), (4, .int (iI a))]) hx hb d_MM_know_206 hl (k := 3) rfl (iI_add _ _) (by decide) rfl (fun ls hl => ?_)
                              refine lv_goto (tgt := 109) hx hb d_MM_know_209 (by decide) ?_
                              exact ih_hL2 fi la (k + 1) mn ga smS Mq _ _ _ hfl (by omega) (by rw [show k + 1 - fi = (k - fi) + 1 by omega, Int.mul_add, Int.mul_one]; omega) (zAvr_row hAv (by omega)) (by omega) hfr h_o h_pS h_pL h_sg h_lb h_oS h_oL h_rw h_fr h_pi h_fo h_al h_on h_tw h_sm h_av h_po h_le h_gd hw (lv_sub hl [1, 2, 3, 0] rfl)
                            · have hzf := zfull (r := ar) (a := a) ⟨by omega, by omega⟩ (by omega)
                              have hp1 := zpw ar.toNat
                              have hp2 := zpw a.toNat
                              have hp3 := (zsl (k := ar) (by omega) (by omega)).2.2
                              have hmb : 0 ≤ mn ∧ mn ≤ 148 := by rcases hfl with q | q; have e9 : k - fi = 0 := (by omega); rw [e9, Int.mul_zero] at hmn; omega; have h9 := zmnb (ar := ar) (x := k - fi) (by omega) (by omega); omega
                              refine lv_iconst (v := iI 1) hx hb d_MM_know_131 rfl ?_
                              refine lv_aload_n hx hb d_MM_know_132 rfl (lv_at hl 0 rfl) ?_
                              refine zq_get hx hb hts i_MM hown hK hw h_o rfl 19 (by decide) (hts _ tw_605) rfl d_MM_know_133 ?_
                              refine zq_ishl1 hx hb (by omega) (by omega) d_MM_know_136 ?_
                              refine lv_iconst (v := iI 1) hx hb d_MM_know_137 rfl ?_
                              refine zq_isub hx hb d_MM_know_138 ?_
                              refine lv_iconst (v := iI 1) hx hb d_MM_know_139 rfl ?_
                              refine lv_iload hx hb d_MM_know_140 (lv_at hl 4 rfl) ?_
                              refine zq_ishl1 hx hb (by omega) (by omega) d_MM_know_142 ?_
                              refine zq_isub hx hb d_MM_know_143 ?_
                              refine lv_istore (lv' := [(5, .int (iI (((2 ^ ar.toNat) - 1) - (2 ^ a.toNat)))), (0, .ref o), (1, .int (iI fi)), (2, .int (iI la)), (3, .int (iI k)), (4, .int (iI a))]) hx hb d_MM_know_144 hl (by decide) rfl (fun ls hl => ?_)
                              have hL4 : ∀ (n : Nat) (e0 : Int) (g2 : Int → Int) (Mq : zq_M) (H : Heap) (locs : List Loc) (ls : Array Slot), (0 ≤ e0 ∧ e0 ≤ 14) → (∀ z, g2 z = if 14 * mn ≤ z ∧ z < 14 * mn + e0 then smS (14 * (2 ^ ar.toNat - 1 - 2 ^ a.toNat) + (z - 14 * mn)) else ga z) → (14 - e0).toNat < n → (∀ q, q ≠ o → (∀ i, i < 18 → q ≠ bd i) → Mq q = M q) → Mq o = some (.inr (9, [.int (iI th), .int (iI put), .int (iI wr), .ref (bd 0), .ref (bd 1), .int (iI nn), .int (iI cir), .int (iI oN), .int (iI oC), .ref (bd 2), .ref (bd 3), .ref (bd 4), .ref (bd 5), .int (iI cV), .ref (bd 6), .ref (bd 7), .ref (bd 8), .int (iI fcs), .ref (bd 9), .int (iI ar), .ref (bd 10), .ref (bd 11), .ref (bd 12), .ref (bd 13), .int (iI mn), .ref (bd 14), .ref (bd 15), .ref (bd 16), .int (iI 1), .ref (bd 17)])) → Mq (bd 0) = some (cI (K 0) 12 pS) → Mq (bd 1) = some (cI (K 0) 48 pL) → Mq (bd 2) = some (cI (K 0) 12 sg) → Mq (bd 3) = some (cI (K 0) 48 lb) → Mq (bd 4) = some (cI (K 0) 12 oS) → Mq (bd 5) = some (cI (K 0) 48 oL) → Mq (bd 6) = some (cI (K 0) 48 fV) → Mq (bd 7) = some (cI (K 0) 48 fr) → Mq (bd 8) = some (cI (K 0) 12 pi) → Mq (bd 9) = some (cI (K 0) 48 fo) → Mq (bd 10) = some (cI (K 0) 40 alV) → Mq (bd 11) = some (cI (K 0) 384 onV) → Mq (bd 12) = some (cI (K 0) 384 twV) → Mq (bd 13) = some (cJ (K 1) 114688 smS) → Mq (bd 14) = some (cJ (K 1) 2100 g2) → Mq (bd 15) = some (cJ (K 1) 14 gp) → Mq (bd 16) = some (cJ (K 1) 28 le) → Mq (bd 17) = some (cI (K 0) 384 gd) → zq_W D vwCl A s.heap Mq H locs → lv_has ls 7 [(0, .ref o), (1, .int (iI fi)), (2, .int (iI la)), (3, .int (iI k)), (4, .int (iI a)), (5, .int (iI (((2 ^ ar.toNat) - 1) - (2 ^ a.toNat)))), (6, .int (iI e0))] → W p l e ({ frames := 6, cells := 0, slots := 0, locals := 139 } : Room) s m [.ref o].toArray below meth co H locs 0 0 (MQ below (zq_Q D vwCl (zT K) (P_MM_know K M o bd put pS pL nn cir sg lb kn arcs al on tw mns av po) A) [.ref o].toArray s 0 0 A) (F0 m 149 ls []) := by
                                intro n
                                induction n with
                                | zero =>
                                  intro e0 g2 Mq H locs ls he hg2 hms hfr h_o h_pS h_pL h_sg h_lb h_oS h_oL h_rw h_fr h_pi h_fo h_al h_on h_tw h_sm h_av h_po h_le h_gd hw hl
                                  exact absurd hms (Nat.not_lt_zero _)
                                | succ n ih_hL4 =>
                                  intro e0 g2 Mq H locs ls he hg2 hms hfr h_o h_pS h_pL h_sg h_lb h_oS h_oL h_rw h_fr h_pi h_fo h_al h_on h_tw h_sm h_av h_po h_le h_gd hw hl
                                  refine lv_iload hx hb d_MM_know_149 (lv_at hl 6 rfl) ?_
                                  refine lv_bipush (v := iI 14) hx hb d_MM_know_151 (by decide) ?_
                                  refine zq_icmp_ge (tgt := 190) hx hb d_MM_know_153 (by decide) ⟨by omega, by omega⟩ (by decide) (fun hc29 => ?_) (fun hc29 => ?_)
                                  · have hAn : zAvr onV twV nn ar fi k (a + 1) g2 := zAvr_col hAv (by omega) ⟨by omega, by omega⟩ hmn (fun e h1 h2 => (hSRs _ hzf.2 (by omega) e h1 h2).1 (by rw [hzf.1, zdn_eq]; by_cases q9 : 0 ≤ k ∧ k < (nn.toNat : Int); rw [if_pos q9]; omega; rw [if_neg q9]; omega)) (fun z => by rw [hg2 z, show e0 = 14 by omega])
                                    refine lv_aload_n hx hb d_MM_know_190 rfl (lv_at hl 0 rfl) ?_
                                    refine lv_dup hx hb d_MM_know_191 rfl ?_
                                    refine zq_get hx hb hts i_MM hown hK hw h_o rfl 24 (by decide) (hts _ tw_610) rfl d_MM_know_192 ?_
                                    refine lv_iconst (v := iI 1) hx hb d_MM_know_195 rfl ?_
                                    refine zq_iadd hx hb d_MM_know_196 ?_
                                    refine zq_put (ci := 9) (v := .int (iI (mn + 1))) (ty := .int) hx hb hts i_MM t_MM t_MM_ok n_MM hown hK hw h_o rfl 24 (by decide) (hts _ tw_610) rfl (by decide +kernel) rfl rfl (Nat.le_of_ble_eq_true rfl) d_MM_know_197 (fun M30 H locs hs ho hw => ?_)
                                    have h_pS : M30 (bd 0) = some (cI (K 0) 12 pS) := (ho _ (zq_ne h_pS h_o (by simp))).trans h_pS
                                    have h_pL : M30 (bd 1) = some (cI (K 0) 48 pL) := (ho _ (zq_ne h_pL h_o (by simp))).trans h_pL
                                    have h_sg : M30 (bd 2) = some (cI (K 0) 12 sg) := (ho _ (zq_ne h_sg h_o (by simp))).trans h_sg
                                    have h_lb : M30 (bd 3) = some (cI (K 0) 48 lb) := (ho _ (zq_ne h_lb h_o (by simp))).trans h_lb
                                    have h_oS : M30 (bd 4) = some (cI (K 0) 12 oS) := (ho _ (zq_ne h_oS h_o (by simp))).trans h_oS
                                    have h_oL : M30 (bd 5) = some (cI (K 0) 48 oL) := (ho _ (zq_ne h_oL h_o (by simp))).trans h_oL
                                    have h_rw : M30 (bd 6) = some (cI (K 0) 48 fV) := (ho _ (zq_ne h_rw h_o (by simp))).trans h_rw
                                    have h_fr : M30 (bd 7) = some (cI (K 0) 48 fr) := (ho _ (zq_ne h_fr h_o (by simp))).trans h_fr
                                    have h_pi : M30 (bd 8) = some (cI (K 0) 12 pi) := (ho _ (zq_ne h_pi h_o (by simp))).trans h_pi
                                    have h_fo : M30 (bd 9) = some (cI (K 0) 48 fo) := (ho _ (zq_ne h_fo h_o (by simp))).trans h_fo
                                    have h_al : M30 (bd 10) = some (cI (K 0) 40 alV) := (ho _ (zq_ne h_al h_o (by simp))).trans h_al
                                    have h_on : M30 (bd 11) = some (cI (K 0) 384 onV) := (ho _ (zq_ne h_on h_o (by simp))).trans h_on
                                    have h_tw : M30 (bd 12) = some (cI (K 0) 384 twV) := (ho _ (zq_ne h_tw h_o (by simp))).trans h_tw
                                    have h_sm : M30 (bd 13) = some (cJ (K 1) 114688 smS) := (ho _ (zq_ne h_sm h_o (by simp))).trans h_sm
                                    have h_av : M30 (bd 14) = some (cJ (K 1) 2100 g2) := (ho _ (zq_ne h_av h_o (by simp))).trans h_av
                                    have h_po : M30 (bd 15) = some (cJ (K 1) 14 gp) := (ho _ (zq_ne h_po h_o (by simp))).trans h_po
                                    have h_le : M30 (bd 16) = some (cJ (K 1) 28 le) := (ho _ (zq_ne h_le h_o (by simp))).trans h_le
                                    have h_gd : M30 (bd 17) = some (cI (K 0) 384 gd) := (ho _ (zq_ne h_gd h_o (by simp))).trans h_gd
                                    have h_o : M30 o = some (.inr (9, [.int (iI th), .int (iI put), .int (iI wr), .ref (bd 0), .ref (bd 1), .int (iI nn), .int (iI cir), .int (iI oN), .int (iI oC), .ref (bd 2), .ref (bd 3), .ref (bd 4), .ref (bd 5), .int (iI cV), .ref (bd 6), .ref (bd 7), .ref (bd 8), .int (iI fcs), .ref (bd 9), .int (iI ar), .ref (bd 10), .ref (bd 11), .ref (bd 12), .ref (bd 13), .int (iI (mn + 1)), .ref (bd 14), .ref (bd 15), .ref (bd 16), .int (iI 1), .ref (bd 17)])) := hs
                                    have hfr : ∀ q, q ≠ o → (∀ i, i < 18 → q ≠ bd i) → M30 q = M q := fun q g0 g1 => (ho q g0).trans (hfr q g0 g1)
                                    refine lv_iinc (v := iI (a + 1)) (lv' := [(4, .int (iI (a + 1))), (0, .ref o), (1, .int (iI fi)), (2, .int (iI la)), (3, .int (iI k)), (5, .int (iI (((2 ^ ar.toNat) - 1) - (2 ^ a.toNat)))), (6, .int (iI e0))]) hx hb d_MM_know_200 hl (k := 4) rfl (iI_add _ _) (by decide) rfl (fun ls hl => ?_)
                                    refine lv_goto (tgt := 122) hx hb d_MM_know_203 (by decide) ?_
                                    exact ih_hL3 (a + 1) (mn + 1) g2 M30 _ _ _ (by omega) (by omega) hAn (by omega) hfr h_o h_pS h_pL h_sg h_lb h_oS h_oL h_rw h_fr h_pi h_fo h_al h_on h_tw h_sm h_av h_po h_le h_gd hw (lv_sub hl [1, 2, 3, 4, 0] rfl)
                                  · refine lv_aload_n hx hb d_MM_know_156 rfl (lv_at hl 0 rfl) ?_
                                    refine zq_get hx hb hts i_MM hown hK hw h_o rfl 25 (by decide) (hts _ tw_611) rfl d_MM_know_157 ?_
                                    refine lv_bipush (v := iI 14) hx hb d_MM_know_160 (by decide) ?_
                                    refine lv_aload_n hx hb d_MM_know_162 rfl (lv_at hl 0 rfl) ?_
                                    refine zq_get hx hb hts i_MM hown hK hw h_o rfl 24 (by decide) (hts _ tw_610) rfl d_MM_know_163 ?_
                                    refine zq_imul hx hb d_MM_know_166 ?_
                                    refine lv_iload hx hb d_MM_know_167 (lv_at hl 6 rfl) ?_
                                    refine zq_iadd hx hb d_MM_know_169 ?_
                                    refine lv_aload_n hx hb d_MM_know_170 rfl (lv_at hl 0 rfl) ?_
                                    refine zq_get hx hb hts i_MM hown hK hw h_o rfl 23 (by decide) (hts _ tw_609) rfl d_MM_know_171 ?_
                                    refine lv_bipush (v := iI 14) hx hb d_MM_know_174 (by decide) ?_
                                    refine lv_iload hx hb d_MM_know_176 (lv_at hl 5 rfl) ?_
                                    refine zq_imul hx hb d_MM_know_178 ?_
                                    refine lv_iload hx hb d_MM_know_179 (lv_at hl 6 rfl) ?_
                                    refine zq_iadd hx hb d_MM_know_181 ?_
                                    refine zq_lald hx hb hK hw 1 h_sm rfl (by omega) (by omega) (by decide) d_MM_know_182 ?_
                                    refine zq_last hx hb hK hw 1 h_av rfl (by omega) (by omega) (by decide) d_MM_know_183 (fun M31 H locs hs ho hw => ?_)
                                    have h_o : M31 o = some (.inr (9, [.int (iI th), .int (iI put), .int (iI wr), .ref (bd 0), .ref (bd 1), .int (iI nn), .int (iI cir), .int (iI oN), .int (iI oC), .ref (bd 2), .ref (bd 3), .ref (bd 4), .ref (bd 5), .int (iI cV), .ref (bd 6), .ref (bd 7), .ref (bd 8), .int (iI fcs), .ref (bd 9), .int (iI ar), .ref (bd 10), .ref (bd 11), .ref (bd 12), .ref (bd 13), .int (iI mn), .ref (bd 14), .ref (bd 15), .ref (bd 16), .int (iI 1), .ref (bd 17)])) := (ho _ (zq_ne h_o h_av (by simp))).trans h_o
                                    have h_pS : M31 (bd 0) = some (cI (K 0) 12 pS) := (ho _ (zbd hbd 0 14)).trans h_pS
                                    have h_pL : M31 (bd 1) = some (cI (K 0) 48 pL) := (ho _ (zbd hbd 1 14)).trans h_pL
                                    have h_sg : M31 (bd 2) = some (cI (K 0) 12 sg) := (ho _ (zbd hbd 2 14)).trans h_sg
                                    have h_lb : M31 (bd 3) = some (cI (K 0) 48 lb) := (ho _ (zbd hbd 3 14)).trans h_lb
                                    have h_oS : M31 (bd 4) = some (cI (K 0) 12 oS) := (ho _ (zbd hbd 4 14)).trans h_oS
                                    have h_oL : M31 (bd 5) = some (cI (K 0) 48 oL) := (ho _ (zbd hbd 5 14)).trans h_oL
                                    have h_rw : M31 (bd 6) = some (cI (K 0) 48 fV) := (ho _ (zbd hbd 6 14)).trans h_rw
                                    have h_fr : M31 (bd 7) = some (cI (K 0) 48 fr) := (ho _ (zbd hbd 7 14)).trans h_fr
                                    have h_pi : M31 (bd 8) = some (cI (K 0) 12 pi) := (ho _ (zbd hbd 8 14)).trans h_pi
                                    have h_fo : M31 (bd 9) = some (cI (K 0) 48 fo) := (ho _ (zbd hbd 9 14)).trans h_fo
                                    have h_al : M31 (bd 10) = some (cI (K 0) 40 alV) := (ho _ (zbd hbd 10 14)).trans h_al
                                    have h_on : M31 (bd 11) = some (cI (K 0) 384 onV) := (ho _ (zbd hbd 11 14)).trans h_on
                                    have h_tw : M31 (bd 12) = some (cI (K 0) 384 twV) := (ho _ (zbd hbd 12 14)).trans h_tw
                                    have h_sm : M31 (bd 13) = some (cJ (K 1) 114688 smS) := (ho _ (zbd hbd 13 14)).trans h_sm
                                    have h_po : M31 (bd 15) = some (cJ (K 1) 14 gp) := (ho _ (Ne.symm (zbd hbd 14 15))).trans h_po
                                    have h_le : M31 (bd 16) = some (cJ (K 1) 28 le) := (ho _ (Ne.symm (zbd hbd 14 16))).trans h_le
                                    have h_gd : M31 (bd 17) = some (cI (K 0) 384 gd) := (ho _ (Ne.symm (zbd hbd 14 17))).trans h_gd
                                    have h_av : M31 (bd 14) = some (cJ (K 1) 2100 (zu g2 ((14 * mn) + e0) (smS ((14 * (((2 ^ ar.toNat) - 1) - (2 ^ a.toNat))) + e0)))) := hs
                                    have hfr : ∀ q, q ≠ o → (∀ i, i < 18 → q ≠ bd i) → M31 q = M q := fun q g0 g1 => (ho q (g1 14 (by decide))).trans (hfr q g0 g1)
                                    refine lv_iinc (v := iI (e0 + 1)) (lv' := [(6, .int (iI (e0 + 1))), (0, .ref o), (1, .int (iI fi)), (2, .int (iI la)), (3, .int (iI k)), (4, .int (iI a)), (5, .int (iI (((2 ^ ar.toNat) - 1) - (2 ^ a.toNat))))]) hx hb d_MM_know_184 hl (k := 6) rfl (iI_add _ _) (by decide) rfl (fun ls hl => ?_)
                                    refine lv_goto (tgt := 149) hx hb d_MM_know_187 (by decide) ?_
                                    exact ih_hL4 (e0 + 1) (zu g2 ((14 * mn) + e0) (smS ((14 * (((2 ^ ar.toNat) - 1) - (2 ^ a.toNat))) + e0))) M31 _ _ _ (by omega) (zup_av hg2 he.1) (by omega) hfr h_o h_pS h_pL h_sg h_lb h_oS h_oL h_rw h_fr h_pi h_fo h_al h_on h_tw h_sm h_av h_po h_le h_gd hw (lv_sub hl [1, 2, 3, 4, 5, 6, 0] rfl)
                              refine lv_iconst (v := iI 0) hx hb d_MM_know_146 rfl ?_
                              refine lv_istore (lv' := [(6, .int (iI 0)), (5, .int (iI (((2 ^ ar.toNat) - 1) - (2 ^ a.toNat)))), (0, .ref o), (1, .int (iI fi)), (2, .int (iI la)), (3, .int (iI k)), (4, .int (iI a))]) hx hb d_MM_know_147 hl (by decide) rfl (fun ls hl => ?_)
                              exact hL4 _ 0 ga Mq _ _ _ ⟨by omega, by omega⟩ (fun z => (if_neg (by omega)).symm) (Nat.lt_succ_self _) hfr h_o h_pS h_pL h_sg h_lb h_oS h_oL h_rw h_fr h_pi h_fo h_al h_on h_tw h_sm h_av h_po h_le h_gd hw (lv_sub hl [2, 3, 4, 5, 6, 1, 0] rfl)
                        refine lv_iconst (v := iI 0) hx hb d_MM_know_119 rfl ?_
                        refine lv_istore (lv' := [(4, .int (iI 0)), (0, .ref o), (1, .int (iI fi)), (2, .int (iI la)), (3, .int (iI k))]) hx hb d_MM_know_120 hl (by decide) rfl (fun ls hl => ?_)
                        exact hL3 _ 0 mn ga M27 _ _ _ ⟨by omega, by omega⟩ (by omega) hAv (Nat.lt_succ_self _) hfr h_o h_pS h_pL h_sg h_lb h_oS h_oL h_rw h_fr h_pi h_fo h_al h_on h_tw h_sm h_av h_po h_le h_gd hw (lv_sub hl [1, 2, 3, 4, 0] rfl)
                  refine lv_iload_n hx hb d_MM_know_107 rfl (lv_at hl 1 rfl) ?_
                  refine lv_istore_n (lv' := [(3, .int (iI (-1))), (2, .int (iI (nn - 1))), (1, .int (iI (-1))), (0, .ref o)]) hx hb d_MM_know_108 rfl hl (by decide) rfl (fun ls hl => ?_)
                  exact hL2 _ (-1) (nn - 1) (-1) 0 av sm Mq _ _ _ (by omega) (by omega) (by rw [Int.sub_self, Int.mul_zero]) zAvr_0 (Nat.lt_succ_self _) hfr h_o h_pS h_pL h_sg h_lb h_oS h_oL h_rw h_fr h_pi h_fo h_al h_on h_tw h_sm h_av h_po h_le h_gd hw (lv_sub hl [3, 2, 1, 0] rfl)
                · refine lv_iconst (v := iI (-1)) hx hb d_MM_know_96 rfl ?_
                  refine lv_goto (tgt := 106) hx hb d_MM_know_97 (by decide) ?_
                  refine lv_istore_n (lv' := [(2, .int (iI (-1))), (1, .int (iI (-1))), (0, .ref o)]) hx hb d_MM_know_106 rfl hl (by decide) rfl (fun ls hl => ?_)
                  have hL2 : ∀ (n : Nat) (fi : Int) (la : Int) (k : Int) (mn : Int) (ga : Int → Int) (gs : Int → Int) (Mq : zq_M) (H : Heap) (locs : List Loc) (ls : Array Slot), ((fi = -1 ∧ la = -1 ∧ ar = nn + 1) ∨ (fi = 0 ∧ la = nn - 1 ∧ ar = nn)) → (fi ≤ k ∧ k ≤ la + 1) → (mn = ar * (k - fi)) → (zAvr onV twV nn ar fi k 0 ga) → (la + 1 - k).toNat < n → (∀ q, q ≠ o → (∀ i, i < 18 → q ≠ bd i) → Mq q = M q) → Mq o = some (.inr (9, [.int (iI th), .int (iI put), .int (iI wr), .ref (bd 0), .ref (bd 1), .int (iI nn), .int (iI cir), .int (iI oN), .int (iI oC), .ref (bd 2), .ref (bd 3), .ref (bd 4), .ref (bd 5), .int (iI cV), .ref (bd 6), .ref (bd 7), .ref (bd 8), .int (iI fcs), .ref (bd 9), .int (iI ar), .ref (bd 10), .ref (bd 11), .ref (bd 12), .ref (bd 13), .int (iI mn), .ref (bd 14), .ref (bd 15), .ref (bd 16), .int (iI 1), .ref (bd 17)])) → Mq (bd 0) = some (cI (K 0) 12 pS) → Mq (bd 1) = some (cI (K 0) 48 pL) → Mq (bd 2) = some (cI (K 0) 12 sg) → Mq (bd 3) = some (cI (K 0) 48 lb) → Mq (bd 4) = some (cI (K 0) 12 oS) → Mq (bd 5) = some (cI (K 0) 48 oL) → Mq (bd 6) = some (cI (K 0) 48 fV) → Mq (bd 7) = some (cI (K 0) 48 fr) → Mq (bd 8) = some (cI (K 0) 12 pi) → Mq (bd 9) = some (cI (K 0) 48 fo) → Mq (bd 10) = some (cI (K 0) 40 alV) → Mq (bd 11) = some (cI (K 0) 384 onV) → Mq (bd 12) = some (cI (K 0) 384 twV) → Mq (bd 13) = some (cJ (K 1) 114688 gs) → Mq (bd 14) = some (cJ (K 1) 2100 ga) → Mq (bd 15) = some (cJ (K 1) 14 gp) → Mq (bd 16) = some (cJ (K 1) 28 le) → Mq (bd 17) = some (cI (K 0) 384 gd) → zq_W D vwCl A s.heap Mq H locs → lv_has ls 7 [(0, .ref o), (1, .int (iI fi)), (2, .int (iI la)), (3, .int (iI k))] → W p l e ({ frames := 6, cells := 0, slots := 0, locals := 139 } : Room) s m [.ref o].toArray below meth co H locs 0 0 (MQ below (zq_Q D vwCl (zT K) (P_MM_know K M o bd put pS pL nn cir sg lb kn arcs al on tw mns av po) A) [.ref o].toArray s 0 0 A) (F0 m 109 ls []) := by
                    intro n
                    induction n with
                    | zero =>
                      intro fi la k mn ga gs Mq H locs ls hfl hk hmn hAv hms hfr h_o h_pS h_pL h_sg h_lb h_oS h_oL h_rw h_fr h_pi h_fo h_al h_on h_tw h_sm h_av h_po h_le h_gd hw hl
                      exact absurd hms (Nat.not_lt_zero _)
                    | succ n ih_hL2 =>
                      intro fi la k mn ga gs Mq H locs ls hfl hk hmn hAv hms hfr h_o h_pS h_pL h_sg h_lb h_oS h_oL h_rw h_fr h_pi h_fo h_al h_on h_tw h_sm h_av h_po h_le h_gd hw hl
                      refine lv_iload_n hx hb d_MM_know_109 rfl (lv_at hl 3 rfl) ?_
                      refine lv_iload_n hx hb d_MM_know_110 rfl (lv_at hl 2 rfl) ?_
                      refine zq_icmp_gt (tgt := 212) hx hb d_MM_know_111 (by decide) ⟨by omega, by omega⟩ ⟨by omega, by omega⟩ (fun hc32 => ?_) (fun hc32 => ?_)
                      · have hMn : zMn nn ar onV twV mn ga := by rcases hfl with ⟨e1, e2, e3⟩ | ⟨e1, e2, e3⟩; exact Or.inr (Or.inl ⟨⟨by omega, by omega⟩, e3, (by rw [hmn, show k - fi = 1 by omega, Int.mul_one]), (by rw [e1, show k = 0 by omega] at hAv; exact hAv)⟩); exact Or.inr (Or.inr ⟨⟨by omega, by omega⟩, e3, (by rw [hmn, show k - fi = nn by omega]), (by rw [e1, show k = nn by omega] at hAv; exact hAv)⟩)
                        have hQ := hM3.2.2 mn ga (by rw [← har]; exact hMn)
                        have hmb := zMn_b hMn hnn
                        refine lv_aload_n hx hb d_MM_know_212 rfl (lv_at hl 0 rfl) ?_
                        refine zq_callV (As := []) (rest := []) ⟨hx, hb, hml, hown, hts⟩ (c_MM_findDivisor l D K Mq o bd th put wr nn cir oN oC cV fcs ar mn 1 ga le gp   h_o hbd h_av h_le h_po hmb hQ.1 (fun mi ki lo fm a1 a2 a3 a4 a5 a6 a7 => by obtain ⟨q0, b1, b2⟩ := hQ.2 mi ki lo fm a1 a2 a3 a4 a5 a6 a7; exact ⟨q0, Or.inr b1, b2⟩)) (cwV 0 hts (zg_V tw_789 tw_791 ts_48 tw_10 tw_792) rfl rfl rfl (by decide +kernel) ⟨Nat.le_of_ble_eq_true rfl, Nat.le_of_ble_eq_true rfl⟩) hZ hw hA h_o rfl rfl rfl rfl hl.1 (Nat.le_of_ble_eq_true rfl) d_MM_know_213 ⟨Nat.le_of_ble_eq_true rfl, Nat.le_of_ble_eq_true rfl⟩ (fun v M33 H locs hp hw => ?_)
                        obtain ⟨rfl, leF, poF, hFd, hs1, hs2, ho⟩ := hp
                        have h_o : M33 o = some (.inr (9, [.int (iI th), .int (iI put), .int (iI wr), .ref (bd 0), .ref (bd 1), .int (iI nn), .int (iI cir), .int (iI oN), .int (iI oC), .ref (bd 2), .ref (bd 3), .ref (bd 4), .ref (bd 5), .int (iI cV), .ref (bd 6), .ref (bd 7), .ref (bd 8), .int (iI fcs), .ref (bd 9), .int (iI ar), .ref (bd 10), .ref (bd 11), .ref (bd 12), .ref (bd 13), .int (iI mn), .ref (bd 14), .ref (bd 15), .ref (bd 16), .int (iI 1), .ref (bd 17)])) := (ho _ (zq_ne h_o h_le (by simp)) (zq_ne h_o h_po (by simp))).trans h_o
                        have h_pS : M33 (bd 0) = some (cI (K 0) 12 pS) := (ho _ (zbd hbd 0 16) (zbd hbd 0 15)).trans h_pS
                        have h_pL : M33 (bd 1) = some (cI (K 0) 48 pL) := (ho _ (zbd hbd 1 16) (zbd hbd 1 15)).trans h_pL
                        have h_sg : M33 (bd 2) = some (cI (K 0) 12 sg) := (ho _ (zbd hbd 2 16) (zbd hbd 2 15)).trans h_sg
                        have h_lb : M33 (bd 3) = some (cI (K 0) 48 lb) := (ho _ (zbd hbd 3 16) (zbd hbd 3 15)).trans h_lb
                        have h_oS : M33 (bd 4) = some (cI (K 0) 12 oS) := (ho _ (zbd hbd 4 16) (zbd hbd 4 15)).trans h_oS
                        have h_oL : M33 (bd 5) = some (cI (K 0) 48 oL) := (ho _ (zbd hbd 5 16) (zbd hbd 5 15)).trans h_oL
                        have h_rw : M33 (bd 6) = some (cI (K 0) 48 fV) := (ho _ (zbd hbd 6 16) (zbd hbd 6 15)).trans h_rw
                        have h_fr : M33 (bd 7) = some (cI (K 0) 48 fr) := (ho _ (zbd hbd 7 16) (zbd hbd 7 15)).trans h_fr
                        have h_pi : M33 (bd 8) = some (cI (K 0) 12 pi) := (ho _ (zbd hbd 8 16) (zbd hbd 8 15)).trans h_pi
                        have h_fo : M33 (bd 9) = some (cI (K 0) 48 fo) := (ho _ (zbd hbd 9 16) (zbd hbd 9 15)).trans h_fo
                        have h_al : M33 (bd 10) = some (cI (K 0) 40 alV) := (ho _ (zbd hbd 10 16) (zbd hbd 10 15)).trans h_al
                        have h_on : M33 (bd 11) = some (cI (K 0) 384 onV) := (ho _ (zbd hbd 11 16) (zbd hbd 11 15)).trans h_on
                        have h_tw : M33 (bd 12) = some (cI (K 0) 384 twV) := (ho _ (zbd hbd 12 16) (zbd hbd 12 15)).trans h_tw
                        have h_sm : M33 (bd 13) = some (cJ (K 1) 114688 gs) := (ho _ (zbd hbd 13 16) (zbd hbd 13 15)).trans h_sm
                        have h_av : M33 (bd 14) = some (cJ (K 1) 2100 ga) := (ho _ (zbd hbd 14 16) (zbd hbd 14 15)).trans h_av
                        have h_gd : M33 (bd 17) = some (cI (K 0) 384 gd) := (ho _ (Ne.symm (zbd hbd 16 17)) (Ne.symm (zbd hbd 15 17))).trans h_gd
                        have h_le : M33 (bd 16) = some (cJ (K 1) 28 leF) := hs1
                        have h_po : M33 (bd 15) = some (cJ (K 1) 14 poF) := hs2
                        have hfr : ∀ q, q ≠ o → (∀ i, i < 18 → q ≠ bd i) → M33 q = M q := fun q g0 g1 => (ho q (g1 16 (by decide)) (g1 15 (by decide))).trans (hfr q g0 g1)
                        refine W.eq (g2 := F0 m 216 ls []) rfl ?_
                        have hPp : zPp mn ga poF := by rcases hFd with ⟨e1, e2⟩ | ⟨m0, lw, e1, e2, e3, e4, sv, e5, e6⟩; exact Or.inl ⟨fun e h1 h2 => (by rw [e1, hgp, if_pos ⟨h1, by omega⟩]), e2⟩; exact Or.inr ⟨m0, lw, e1, e2, e3, e4, sv, e5, fun z h1 h2 => (by rw [e6 z]; by_cases q : z < 14 - lw; rw [if_pos ⟨h1, q⟩, if_pos q]; rw [if_neg (by omega), if_neg q, hgp, if_pos ⟨h1, by omega⟩])⟩
                        exact zq_vret hx hb hr hlocks hZ hw ⟨rfl, ar, alV, onV, twV, mn, ga, poF, ⟨c0, NV, hAlV, har, hAzV, hNV, hFiV, hMn, hPp, hQ, hFin, zPp_in hPp hQ⟩, ⟨_, _, _, _, _, _, _, _, _, _, _, _, _, _, _, h_o, hbd, h_pS, h_pL, h_sg, h_lb, h_oS, h_oL, h_rw, h_fr, h_pi, h_fo, h_al, h_on, h_tw, h_sm, h_av, h_po, h_le, h_gd, fun j => ⟨hpS j, hpL j, hsg j, hlb j, hoS j, hoL j, hLsV.2.2.2.2 j, hfo j, hAiV j⟩⟩, hfr⟩ d_MM_know_216
                      · refine lv_aload_n hx hb d_MM_know_114 rfl (lv_at hl 0 rfl) ?_
                        refine lv_iload_n hx hb d_MM_know_115 rfl (lv_at hl 3 rfl) ?_
                        refine zq_callV (As := [.int (iI k)]) (rest := []) ⟨hx, hb, hml, hown, hts⟩ (c_MM_sumUp l D K Mq o bd th put wr nn cir oN oC cV fcs ar mn 1 onV twV gs  k h_o hbd h_on h_tw h_sm (fun j h1 h2 => (hFin j h1 h2).1) (fun j h1 h2 => (hFin j h1 h2).2) hnn ⟨by omega, by omega⟩ ⟨by omega, by omega⟩) (cwV 1 hts (zg_V tw_775 tw_777 ts_46 tw_10 tw_778) rfl rfl rfl (by decide +kernel) ⟨Nat.le_of_ble_eq_true rfl, Nat.le_of_ble_eq_true rfl⟩) hZ hw hA h_o rfl rfl rfl rfl hl.1 (Nat.le_of_ble_eq_true rfl) d_MM_know_116 ⟨Nat.le_of_ble_eq_true rfl, Nat.le_of_ble_eq_true rfl⟩ (fun v M34 H locs hp hw => ?_)
                        obtain ⟨rfl, smS, hSRs, hs1, ho⟩ := hp
                        have h_o : M34 o = some (.inr (9, [.int (iI th), .int (iI put), .int (iI wr), .ref (bd 0), .ref (bd 1), .int (iI nn), .int (iI cir), .int (iI oN), .int (iI oC), .ref (bd 2), .ref (bd 3), .ref (bd 4), .ref (bd 5), .int (iI cV), .ref (bd 6), .ref (bd 7), .ref (bd 8), .int (iI fcs), .ref (bd 9), .int (iI ar), .ref (bd 10), .ref (bd 11), .ref (bd 12), .ref (bd 13), .int (iI mn), .ref (bd 14), .ref (bd 15), .ref (bd 16), .int (iI 1), .ref (bd 17)])) := (ho _ (zq_ne h_o h_sm (by simp))).trans h_o
                        have h_pS : M34 (bd 0) = some (cI (K 0) 12 pS) := (ho _ (zbd hbd 0 13)).trans h_pS
                        have h_pL : M34 (bd 1) = some (cI (K 0) 48 pL) := (ho _ (zbd hbd 1 13)).trans h_pL
                        have h_sg : M34 (bd 2) = some (cI (K 0) 12 sg) := (ho _ (zbd hbd 2 13)).trans h_sg
                        have h_lb : M34 (bd 3) = some (cI (K 0) 48 lb) := (ho _ (zbd hbd 3 13)).trans h_lb
                        have h_oS : M34 (bd 4) = some (cI (K 0) 12 oS) := (ho _ (zbd hbd 4 13)).trans h_oS
                        have h_oL : M34 (bd 5) = some (cI (K 0) 48 oL) := (ho _ (zbd hbd 5 13)).trans h_oL
                        have h_rw : M34 (bd 6) = some (cI (K 0) 48 fV) := (ho _ (zbd hbd 6 13)).trans h_rw
                        have h_fr : M34 (bd 7) = some (cI (K 0) 48 fr) := (ho _ (zbd hbd 7 13)).trans h_fr
                        have h_pi : M34 (bd 8) = some (cI (K 0) 12 pi) := (ho _ (zbd hbd 8 13)).trans h_pi
                        have h_fo : M34 (bd 9) = some (cI (K 0) 48 fo) := (ho _ (zbd hbd 9 13)).trans h_fo
                        have h_al : M34 (bd 10) = some (cI (K 0) 40 alV) := (ho _ (zbd hbd 10 13)).trans h_al
                        have h_on : M34 (bd 11) = some (cI (K 0) 384 onV) := (ho _ (zbd hbd 11 13)).trans h_on
                        have h_tw : M34 (bd 12) = some (cI (K 0) 384 twV) := (ho _ (zbd hbd 12 13)).trans h_tw
                        have h_av : M34 (bd 14) = some (cJ (K 1) 2100 ga) := (ho _ (Ne.symm (zbd hbd 13 14))).trans h_av
                        have h_po : M34 (bd 15) = some (cJ (K 1) 14 gp) := (ho _ (Ne.symm (zbd hbd 13 15))).trans h_po
                        have h_le : M34 (bd 16) = some (cJ (K 1) 28 le) := (ho _ (Ne.symm (zbd hbd 13 16))).trans h_le
                        have h_gd : M34 (bd 17) = some (cI (K 0) 384 gd) := (ho _ (Ne.symm (zbd hbd 13 17))).trans h_gd
                        have h_sm : M34 (bd 13) = some (cJ (K 1) 114688 smS) := hs1
                        have hfr : ∀ q, q ≠ o → (∀ i, i < 18 → q ≠ bd i) → M34 q = M q := fun q g0 g1 => (ho q (g1 13 (by decide))).trans (hfr q g0 g1)
                        refine W.eq (g2 := F0 m 119 ls []) rfl ?_
                        have hL3 : ∀ (n : Nat) (a : Int) (mn : Int) (ga : Int → Int) (Mq : zq_M) (H : Heap) (locs : List Loc) (ls : Array Slot), (0 ≤ a ∧ a ≤ ar) → (mn = ar * (k - fi) + a) → (zAvr onV twV nn ar fi k a ga) → (ar - a).toNat < n → (∀ q, q ≠ o → (∀ i, i < 18 → q ≠ bd i) → Mq q = M q) → Mq o = some (.inr (9, [.int (iI th), .int (iI put), .int (iI wr), .ref (bd 0), .ref (bd 1), .int (iI nn), .int (iI cir), .int (iI oN), .int (iI oC), .ref (bd 2), .ref (bd 3), .ref (bd 4), .ref (bd 5), .int (iI cV), .ref (bd 6), .ref (bd 7), .ref (bd 8), .int (iI fcs), .ref (bd 9), .int (iI ar), .ref (bd 10), .ref (bd 11), .ref (bd 12), .ref (bd 13), .int (iI mn), .ref (bd 14), .ref (bd 15), .ref (bd 16), .int (iI 1), .ref (bd 17)])) → Mq (bd 0) = some (cI (K 0) 12 pS) → Mq (bd 1) = some (cI (K 0) 48 pL) → Mq (bd 2) = some (cI (K 0) 12 sg) → Mq (bd 3) = some (cI (K 0) 48 lb) → Mq (bd 4) = some (cI (K 0) 12 oS) → Mq (bd 5) = some (cI (K 0) 48 oL) → Mq (bd 6) = some (cI (K 0) 48 fV) → Mq (bd 7) = some (cI (K 0) 48 fr) → Mq (bd 8) = some (cI (K 0) 12 pi) → Mq (bd 9) = some (cI (K 0) 48 fo) → Mq (bd 10) = some (cI (K 0) 40 alV) → Mq (bd 11) = some (cI (K 0) 384 onV) → Mq (bd 12) = some (cI (K 0) 384 twV) → Mq (bd 13) = some (cJ (K 1) 114688 smS) → Mq (bd 14) = some (cJ (K 1) 2100 ga) → Mq (bd 15) = some (cJ (K 1) 14 gp) → Mq (bd 16) = some (cJ (K 1) 28 le) → Mq (bd 17) = some (cI (K 0) 384 gd) → zq_W D vwCl A s.heap Mq H locs → lv_has ls 7 [(0, .ref o), (1, .int (iI fi)), (2, .int (iI la)), (3, .int (iI k)), (4, .int (iI a))] → W p l e ({ frames := 6, cells := 0, slots := 0, locals := 139 } : Room) s m [.ref o].toArray below meth co H locs 0 0 (MQ below (zq_Q D vwCl (zT K) (P_MM_know K M o bd put pS pL nn cir sg lb kn arcs al on tw mns av po) A) [.ref o].toArray s 0 0 A) (F0 m 122 ls []) := by
                          intro n
                          induction n with
                          | zero =>
                            intro a mn ga Mq H locs ls ha hmn hAv hms hfr h_o h_pS h_pL h_sg h_lb h_oS h_oL h_rw h_fr h_pi h_fo h_al h_on h_tw h_sm h_av h_po h_le h_gd hw hl
                            exact absurd hms (Nat.not_lt_zero _)
                          | succ n ih_hL3 =>
                            intro a mn ga Mq H locs ls ha hmn hAv hms hfr h_o h_pS h_pL h_sg h_lb h_oS h_oL h_rw h_fr h_pi h_fo h_al h_on h_tw h_sm h_av h_po h_le h_gd hw hl
                            refine lv_iload hx hb d_MM_know_122 (lv_at hl 4 rfl) ?_
                            refine lv_aload_n hx hb d_MM_know_124 rfl (lv_at hl 0 rfl) ?_
                            refine zq_get hx hb hts i_MM hown hK hw h_o rfl 19 (by decide) (hts _ tw_605) rfl d_MM_know_125 ?_
                            refine zq_icmp_ge (tgt := 206) hx hb d_MM_know_128 (by decide) ⟨by omega, by omega⟩ ⟨by omega, by omega⟩ (fun hc35 => ?_) (fun hc35 => ?_)
                            · refine lv_iinc (v := iI (k + 1)) (lv' := [(3, .int (iI (k + 1))), (0, .ref o), (1, .int (iI fi)), (2, .int (iI la)), (4, .int (iI a))]) hx hb d_MM_know_206 hl (k := 3) rfl (iI_add _ _) (by decide) rfl (fun ls hl => ?_)
                              refine lv_goto (tgt := 109) hx hb d_MM_know_209 (by decide) ?_
                              exact ih_hL2 fi la (k + 1) mn ga smS Mq _ _ _ hfl (by omega) (by rw [show k + 1 - fi = (k - fi) + 1 by omega, Int.mul_add, Int.mul_one]; omega) (zAvr_row hAv (by omega)) (by omega) hfr h_o h_pS h_pL h_sg h_lb h_oS h_oL h_rw h_fr h_pi h_fo h_al h_on h_tw h_sm h_av h_po h_le h_gd hw (lv_sub hl [1, 2, 3, 0] rfl)
                            · have hzf := zfull (r := ar) (a := a) ⟨by omega, by omega⟩ (by omega)
                              have hp1 := zpw ar.toNat
                              have hp2 := zpw a.toNat
                              have hp3 := (zsl (k := ar) (by omega) (by omega)).2.2
                              have hmb : 0 ≤ mn ∧ mn ≤ 148 := by rcases hfl with q | q; have e9 : k - fi = 0 := (by omega); rw [e9, Int.mul_zero] at hmn; omega; have h9 := zmnb (ar := ar) (x := k - fi) (by omega) (by omega); omega
                              refine lv_iconst (v := iI 1) hx hb d_MM_know_131 rfl ?_
                              refine lv_aload_n hx hb d_MM_know_132 rfl (lv_at hl 0 rfl) ?_
                              refine zq_get hx hb hts i_MM hown hK hw h_o rfl 19 (by decide) (hts _ tw_605) rfl d_MM_know_133 ?_
                              refine zq_ishl1 hx hb (by omega) (by omega) d_MM_know_136 ?_
                              refine lv_iconst (v := iI 1) hx hb d_MM_know_137 rfl ?_
                              refine zq_isub hx hb d_MM_know_138 ?_
                              refine lv_iconst (v := iI 1) hx hb d_MM_know_139 rfl ?_
                              refine lv_iload hx hb d_MM_know_140 (lv_at hl 4 rfl) ?_
                              refine zq_ishl1 hx hb (by omega) (by omega) d_MM_know_142 ?_
                              refine zq_isub hx hb d_MM_know_143 ?_
                              refine lv_istore (lv' := [(5, .int (iI (((2 ^ ar.toNat) - 1) - (2 ^ a.toNat)))), (0, .ref o), (1, .int (iI fi)), (2, .int (iI la)), (3, .int (iI k)), (4, .int (iI a))]) hx hb d_MM_know_144 hl (by decide) rfl (fun ls hl => ?_)
                              have hL4 : ∀ (n : Nat) (e0 : Int) (g2 : Int → Int) (Mq : zq_M) (H : Heap) (locs : List Loc) (ls : Array Slot), (0 ≤ e0 ∧ e0 ≤ 14) → (∀ z, g2 z = if 14 * mn ≤ z ∧ z < 14 * mn + e0 then smS (14 * (2 ^ ar.toNat - 1 - 2 ^ a.toNat) + (z - 14 * mn)) else ga z) → (14 - e0).toNat < n → (∀ q, q ≠ o → (∀ i, i < 18 → q ≠ bd i) → Mq q = M q) → Mq o = some (.inr (9, [.int (iI th), .int (iI put), .int (iI wr), .ref (bd 0), .ref (bd 1), .int (iI nn), .int (iI cir), .int (iI oN), .int (iI oC), .ref (bd 2), .ref (bd 3), .ref (bd 4), .ref (bd 5), .int (iI cV), .ref (bd 6), .ref (bd 7), .ref (bd 8), .int (iI fcs), .ref (bd 9), .int (iI ar), .ref (bd 10), .ref (bd 11), .ref (bd 12), .ref (bd 13), .int (iI mn), .ref (bd 14), .ref (bd 15), .ref (bd 16), .int (iI 1), .ref (bd 17)])) → Mq (bd 0) = some (cI (K 0) 12 pS) → Mq (bd 1) = some (cI (K 0) 48 pL) → Mq (bd 2) = some (cI (K 0) 12 sg) → Mq (bd 3) = some (cI (K 0) 48 lb) → Mq (bd 4) = some (cI (K 0) 12 oS) → Mq (bd 5) = some (cI (K 0) 48 oL) → Mq (bd 6) = some (cI (K 0) 48 fV) → Mq (bd 7) = some (cI (K 0) 48 fr) → Mq (bd 8) = some (cI (K 0) 12 pi) → Mq (bd 9) = some (cI (K 0) 48 fo) → Mq (bd 10) = some (cI (K 0) 40 alV) → Mq (bd 11) = some (cI (K 0) 384 onV) → Mq (bd 12) = some (cI (K 0) 384 twV) → Mq (bd 13) = some (cJ (K 1) 114688 smS) → Mq (bd 14) = some (cJ (K 1) 2100 g2) → Mq (bd 15) = some (cJ (K 1) 14 gp) → Mq (bd 16) = some (cJ (K 1) 28 le) → Mq (bd 17) = some (cI (K 0) 384 gd) → zq_W D vwCl A s.heap Mq H locs → lv_has ls 7 [(0, .ref o), (1, .int (iI fi)), (2, .int (iI la)), (3, .int (iI k)), (4, .int (iI a)), (5, .int (iI (((2 ^ ar.toNat) - 1) - (2 ^ a.toNat)))), (6, .int (iI e0))] → W p l e ({ frames := 6, cells := 0, slots := 0, locals := 139 } : Room) s m [.ref o].toArray below meth co H locs 0 0 (MQ below (zq_Q D vwCl (zT K) (P_MM_know K M o bd put pS pL nn cir sg lb kn arcs al on tw mns av po) A) [.ref o].toArray s 0 0 A) (F0 m 149 ls []) := by
                                intro n
                                induction n with
                                | zero =>
                                  intro e0 g2 Mq H locs ls he hg2 hms hfr h_o h_pS h_pL h_sg h_lb h_oS h_oL h_rw h_fr h_pi h_fo h_al h_on h_tw h_sm h_av h_po h_le h_gd hw hl
                                  exact absurd hms (Nat.not_lt_zero _)
                                | succ n ih_hL4 =>
                                  intro e0 g2 Mq H locs ls he hg2 hms hfr h_o h_pS h_pL h_sg h_lb h_oS h_oL h_rw h_fr h_pi h_fo h_al h_on h_tw h_sm h_av h_po h_le h_gd hw hl
                                  refine lv_iload hx hb d_MM_know_149 (lv_at hl 6 rfl) ?_
                                  refine lv_bipush (v := iI 14) hx hb d_MM_know_151 (by decide) ?_
                                  refine zq_icmp_ge (tgt := 190) hx hb d_MM_know_153 (by decide) ⟨by omega, by omega⟩ (by decide) (fun hc36 => ?_) (fun hc36 => ?_)
                                  · have hAn : zAvr onV twV nn ar fi k (a + 1) g2 := zAvr_col hAv (by omega) ⟨by omega, by omega⟩ hmn (fun e h1 h2 => (hSRs _ hzf.2 (by omega) e h1 h2).1 (by rw [hzf.1, zdn_eq]; by_cases q9 : 0 ≤ k ∧ k < (nn.toNat : Int); rw [if_pos q9]; omega; rw [if_neg q9]; omega)) (fun z => by rw [hg2 z, show e0 = 14 by omega])
                                    refine lv_aload_n hx hb d_MM_know_190 rfl (lv_at hl 0 rfl) ?_
                                    refine lv_dup hx hb d_MM_know_191 rfl ?_
                                    refine zq_get hx hb hts i_MM hown hK hw h_o rfl 24 (by decide) (hts _ tw_610) rfl d_MM_know_192 ?_
                                    refine lv_iconst (v := iI 1) hx hb d_MM_know_195 rfl ?_
                                    refine zq_iadd hx hb d_MM_know_196 ?_
                                    refine zq_put (ci := 9) (v := .int (iI (mn + 1))) (ty := .int) hx hb hts i_MM t_MM t_MM_ok n_MM hown hK hw h_o rfl 24 (by decide) (hts _ tw_610) rfl (by decide +kernel) rfl rfl (Nat.le_of_ble_eq_true rfl) d_MM_know_197 (fun M37 H locs hs ho hw => ?_)
                                    have h_pS : M37 (bd 0) = some (cI (K 0) 12 pS) := (ho _ (zq_ne h_pS h_o (by simp))).trans h_pS
                                    have h_pL : M37 (bd 1) = some (cI (K 0) 48 pL) := (ho _ (zq_ne h_pL h_o (by simp))).trans h_pL
                                    have h_sg : M37 (bd 2) = some (cI (K 0) 12 sg) := (ho _ (zq_ne h_sg h_o (by simp))).trans h_sg
                                    have h_lb : M37 (bd 3) = some (cI (K 0) 48 lb) := (ho _ (zq_ne h_lb h_o (by simp))).trans h_lb
                                    have h_oS : M37 (bd 4) = some (cI (K 0) 12 oS) := (ho _ (zq_ne h_oS h_o (by simp))).trans h_oS
                                    have h_oL : M37 (bd 5) = some (cI (K 0) 48 oL) := (ho _ (zq_ne h_oL h_o (by simp))).trans h_oL
                                    have h_rw : M37 (bd 6) = some (cI (K 0) 48 fV) := (ho _ (zq_ne h_rw h_o (by simp))).trans h_rw
                                    have h_fr : M37 (bd 7) = some (cI (K 0) 48 fr) := (ho _ (zq_ne h_fr h_o (by simp))).trans h_fr
                                    have h_pi : M37 (bd 8) = some (cI (K 0) 12 pi) := (ho _ (zq_ne h_pi h_o (by simp))).trans h_pi
                                    have h_fo : M37 (bd 9) = some (cI (K 0) 48 fo) := (ho _ (zq_ne h_fo h_o (by simp))).trans h_fo
                                    have h_al : M37 (bd 10) = some (cI (K 0) 40 alV) := (ho _ (zq_ne h_al h_o (by simp))).trans h_al
                                    have h_on : M37 (bd 11) = some (cI (K 0) 384 onV) := (ho _ (zq_ne h_on h_o (by simp))).trans h_on
                                    have h_tw : M37 (bd 12) = some (cI (K 0) 384 twV) := (ho _ (zq_ne h_tw h_o (by simp))).trans h_tw
                                    have h_sm : M37 (bd 13) = some (cJ (K 1) 114688 smS) := (ho _ (zq_ne h_sm h_o (by simp))).trans h_sm
                                    have h_av : M37 (bd 14) = some (cJ (K 1) 2100 g2) := (ho _ (zq_ne h_av h_o (by simp))).trans h_av
                                    have h_po : M37 (bd 15) = some (cJ (K 1) 14 gp) := (ho _ (zq_ne h_po h_o (by simp))).trans h_po
                                    have h_le : M37 (bd 16) = some (cJ (K 1) 28 le) := (ho _ (zq_ne h_le h_o (by simp))).trans h_le
                                    have h_gd : M37 (bd 17) = some (cI (K 0) 384 gd) := (ho _ (zq_ne h_gd h_o (by simp))).trans h_gd
                                    have h_o : M37 o = some (.inr (9, [.int (iI th), .int (iI put), .int (iI wr), .ref (bd 0), .ref (bd 1), .int (iI nn), .int (iI cir), .int (iI oN), .int (iI oC), .ref (bd 2), .ref (bd 3), .ref (bd 4), .ref (bd 5), .int (iI cV), .ref (bd 6), .ref (bd 7), .ref (bd 8), .int (iI fcs), .ref (bd 9), .int (iI ar), .ref (bd 10), .ref (bd 11), .ref (bd 12), .ref (bd 13), .int (iI (mn + 1)), .ref (bd 14), .ref (bd 15), .ref (bd 16), .int (iI 1), .ref (bd 17)])) := hs
                                    have hfr : ∀ q, q ≠ o → (∀ i, i < 18 → q ≠ bd i) → M37 q = M q := fun q g0 g1 => (ho q g0).trans (hfr q g0 g1)
                                    refine lv_iinc (v := iI (a + 1)) (lv' := [(4, .int (iI (a + 1))), (0, .ref o), (1, .int (iI fi)), (2, .int (iI la)), (3, .int (iI k)), (5, .int (iI (((2 ^ ar.toNat) - 1) - (2 ^ a.toNat)))), (6, .int (iI e0))]) hx hb d_MM_know_200 hl (k := 4) rfl (iI_add _ _) (by decide) rfl (fun ls hl => ?_)
                                    refine lv_goto (tgt := 122) hx hb d_MM_know_203 (by decide) ?_
                                    exact ih_hL3 (a + 1) (mn + 1) g2 M37 _ _ _ (by omega) (by omega) hAn (by omega) hfr h_o h_pS h_pL h_sg h_lb h_oS h_oL h_rw h_fr h_pi h_fo h_al h_on h_tw h_sm h_av h_po h_le h_gd hw (lv_sub hl [1, 2, 3, 4, 0] rfl)
                                  · refine lv_aload_n hx hb d_MM_know_156 rfl (lv_at hl 0 rfl) ?_
                                    refine zq_get hx hb hts i_MM hown hK hw h_o rfl 25 (by decide) (hts _ tw_611) rfl d_MM_know_157 ?_
                                    refine lv_bipush (v := iI 14) hx hb d_MM_know_160 (by decide) ?_
                                    refine lv_aload_n hx hb d_MM_know_162 rfl (lv_at hl 0 rfl) ?_
                                    refine zq_get hx hb hts i_MM hown hK hw h_o rfl 24 (by decide) (hts _ tw_610) rfl d_MM_know_163 ?_
                                    refine zq_imul hx hb d_MM_know_166 ?_
                                    refine lv_iload hx hb d_MM_know_167 (lv_at hl 6 rfl) ?_
                                    refine zq_iadd hx hb d_MM_know_169 ?_
                                    refine lv_aload_n hx hb d_MM_know_170 rfl (lv_at hl 0 rfl) ?_
                                    refine zq_get hx hb hts i_MM hown hK hw h_o rfl 23 (by decide) (hts _ tw_609) rfl d_MM_know_171 ?_
                                    refine lv_bipush (v := iI 14) hx hb d_MM_know_174 (by decide) ?_
                                    refine lv_iload hx hb d_MM_know_176 (lv_at hl 5 rfl) ?_
                                    refine zq_imul hx hb d_MM_know_178 ?_
                                    refine lv_iload hx hb d_MM_know_179 (lv_at hl 6 rfl) ?_
                                    refine zq_iadd hx hb d_MM_know_181 ?_
                                    refine zq_lald hx hb hK hw 1 h_sm rfl (by omega) (by omega) (by decide) d_MM_know_182 ?_
                                    refine zq_last hx hb hK hw 1 h_av rfl (by omega) (by omega) (by decide) d_MM_know_183 (fun M38 H locs hs ho hw => ?_)
                                    have h_o : M38 o = some (.inr (9, [.int (iI th), .int (iI put), .int (iI wr), .ref (bd 0), .ref (bd 1), .int (iI nn), .int (iI cir), .int (iI oN), .int (iI oC), .ref (bd 2), .ref (bd 3), .ref (bd 4), .ref (bd 5), .int (iI cV), .ref (bd 6), .ref (bd 7), .ref (bd 8), .int (iI fcs), .ref (bd 9), .int (iI ar), .ref (bd 10), .ref (bd 11), .ref (bd 12), .ref (bd 13), .int (iI mn), .ref (bd 14), .ref (bd 15), .ref (bd 16), .int (iI 1), .ref (bd 17)])) := (ho _ (zq_ne h_o h_av (by simp))).trans h_o
                                    have h_pS : M38 (bd 0) = some (cI (K 0) 12 pS) := (ho _ (zbd hbd 0 14)).trans h_pS
                                    have h_pL : M38 (bd 1) = some (cI (K 0) 48 pL) := (ho _ (zbd hbd 1 14)).trans h_pL
                                    have h_sg : M38 (bd 2) = some (cI (K 0) 12 sg) := (ho _ (zbd hbd 2 14)).trans h_sg
                                    have h_lb : M38 (bd 3) = some (cI (K 0) 48 lb) := (ho _ (zbd hbd 3 14)).trans h_lb
                                    have h_oS : M38 (bd 4) = some (cI (K 0) 12 oS) := (ho _ (zbd hbd 4 14)).trans h_oS
                                    have h_oL : M38 (bd 5) = some (cI (K 0) 48 oL) := (ho _ (zbd hbd 5 14)).trans h_oL
                                    have h_rw : M38 (bd 6) = some (cI (K 0) 48 fV) := (ho _ (zbd hbd 6 14)).trans h_rw
                                    have h_fr : M38 (bd 7) = some (cI (K 0) 48 fr) := (ho _ (zbd hbd 7 14)).trans h_fr
                                    have h_pi : M38 (bd 8) = some (cI (K 0) 12 pi) := (ho _ (zbd hbd 8 14)).trans h_pi
                                    have h_fo : M38 (bd 9) = some (cI (K 0) 48 fo) := (ho _ (zbd hbd 9 14)).trans h_fo
                                    have h_al : M38 (bd 10) = some (cI (K 0) 40 alV) := (ho _ (zbd hbd 10 14)).trans h_al
                                    have h_on : M38 (bd 11) = some (cI (K 0) 384 onV) := (ho _ (zbd hbd 11 14)).trans h_on
                                    have h_tw : M38 (bd 12) = some (cI (K 0) 384 twV) := (ho _ (zbd hbd 12 14)).trans h_tw
                                    have h_sm : M38 (bd 13) = some (cJ (K 1) 114688 smS) := (ho _ (zbd hbd 13 14)).trans h_sm
                                    have h_po : M38 (bd 15) = some (cJ (K 1) 14 gp) := (ho _ (Ne.symm (zbd hbd 14 15))).trans h_po
                                    have h_le : M38 (bd 16) = some (cJ (K 1) 28 le) := (ho _ (Ne.symm (zbd hbd 14 16))).trans h_le
                                    have h_gd : M38 (bd 17) = some (cI (K 0) 384 gd) := (ho _ (Ne.symm (zbd hbd 14 17))).trans h_gd
                                    have h_av : M38 (bd 14) = some (cJ (K 1) 2100 (zu g2 ((14 * mn) + e0) (smS ((14 * (((2 ^ ar.toNat) - 1) - (2 ^ a.toNat))) + e0)))) := hs
                                    have hfr : ∀ q, q ≠ o → (∀ i, i < 18 → q ≠ bd i) → M38 q = M q := fun q g0 g1 => (ho q (g1 14 (by decide))).trans (hfr q g0 g1)
                                    refine lv_iinc (v := iI (e0 + 1)) (lv' := [(6, .int (iI (e0 + 1))), (0, .ref o), (1, .int (iI fi)), (2, .int (iI la)), (3, .int (iI k)), (4, .int (iI a)), (5, .int (iI (((2 ^ ar.toNat) - 1) - (2 ^ a.toNat))))]) hx hb d_MM_know_184 hl (k := 6) rfl (iI_add _ _) (by decide) rfl (fun ls hl => ?_)
                                    refine lv_goto (tgt := 149) hx hb d_MM_know_187 (by decide) ?_
                                    exact ih_hL4 (e0 + 1) (zu g2 ((14 * mn) + e0) (smS ((14 * (((2 ^ ar.toNat) - 1) - (2 ^ a.toNat))) + e0))) M38 _ _ _ (by omega) (zup_av hg2 he.1) (by omega) hfr h_o h_pS h_pL h_sg h_lb h_oS h_oL h_rw h_fr h_pi h_fo h_al h_on h_tw h_sm h_av h_po h_le h_gd hw (lv_sub hl [1, 2, 3, 4, 5, 6, 0] rfl)
                              refine lv_iconst (v := iI 0) hx hb d_MM_know_146 rfl ?_
                              refine lv_istore (lv' := [(6, .int (iI 0)), (5, .int (iI (((2 ^ ar.toNat) - 1) - (2 ^ a.toNat)))), (0, .ref o), (1, .int (iI fi)), (2, .int (iI la)), (3, .int (iI k)), (4, .int (iI a))]) hx hb d_MM_know_147 hl (by decide) rfl (fun ls hl => ?_)
                              exact hL4 _ 0 ga Mq _ _ _ ⟨by omega, by omega⟩ (fun z => (if_neg (by omega)).symm) (Nat.lt_succ_self _) hfr h_o h_pS h_pL h_sg h_lb h_oS h_oL h_rw h_fr h_pi h_fo h_al h_on h_tw h_sm h_av h_po h_le h_gd hw (lv_sub hl [2, 3, 4, 5, 6, 1, 0] rfl)
                        refine lv_iconst (v := iI 0) hx hb d_MM_know_119 rfl ?_
                        refine lv_istore (lv' := [(4, .int (iI 0)), (0, .ref o), (1, .int (iI fi)), (2, .int (iI la)), (3, .int (iI k))]) hx hb d_MM_know_120 hl (by decide) rfl (fun ls hl => ?_)
                        exact hL3 _ 0 mn ga M34 _ _ _ ⟨by omega, by omega⟩ (by omega) hAv (Nat.lt_succ_self _) hfr h_o h_pS h_pL h_sg h_lb h_oS h_oL h_rw h_fr h_pi h_fo h_al h_on h_tw h_sm h_av h_po h_le h_gd hw (lv_sub hl [1, 2, 3, 4, 0] rfl)
                  refine lv_iload_n hx hb d_MM_know_107 rfl (lv_at hl 1 rfl) ?_
                  refine lv_istore_n (lv' := [(3, .int (iI (-1))), (2, .int (iI (-1))), (1, .int (iI (-1))), (0, .ref o)]) hx hb d_MM_know_108 rfl hl (by decide) rfl (fun ls hl => ?_)
                  exact hL2 _ (-1) (-1) (-1) 0 av sm Mq _ _ _ (by omega) (by omega) (by rw [Int.sub_self, Int.mul_zero]) zAvr_0 (Nat.lt_succ_self _) hfr h_o h_pS h_pL h_sg h_lb h_oS h_oL h_rw h_fr h_pi h_fo h_al h_on h_tw h_sm h_av h_po h_le h_gd hw (lv_sub hl [3, 2, 1, 0] rfl)
            · exact zq_vret hx hb hr hlocks hZ hw ⟨rfl, ar, alV, onV, twV, 0, av, gp, ⟨c0, NV, hAlV, har, hAzV, hNV, hFiV, Or.inl ⟨by omega, rfl⟩, Or.inl ⟨fun e h1 h2 => by rw [hgp, if_pos ⟨h1, by omega⟩], fun j h1 h2 => by omega⟩, ⟨fun j h1 h2 => by omega, fun mi ki lo fm h1 h2 => by omega⟩, hFin, fun e h1 h2 => by rw [hgp, if_pos ⟨h1, by omega⟩]; decide⟩, ⟨_, _, _, _, _, _, _, _, _, _, _, _, _, _, _, h_o, hbd, h_pS, h_pL, h_sg, h_lb, h_oS, h_oL, h_rw, h_fr, h_pi, h_fo, h_al, h_on, h_tw, h_sm, h_av, h_po, h_le, h_gd, fun j => ⟨hpS j, hpL j, hsg j, hlb j, hoS j, hoL j, hLsV.2.2.2.2 j, hfo j, hAiV j⟩⟩, hfr⟩ d_MM_know_63
        · refine lv_aload_n hx hb d_MM_know_30 rfl (lv_at hl 0 rfl) ?_
          refine zq_get hx hb hts i_MM hown hK hw h_o rfl 26 (by decide) (hts _ tw_612) rfl d_MM_know_31 ?_
          refine lv_iload_n hx hb d_MM_know_34 rfl (lv_at hl 1 rfl) ?_
          refine lv_lconst (v := iL 0) hx hb d_MM_know_35 (by decide) ?_
          refine zq_last hx hb hK hw 1 h_po rfl (by omega) (by omega) (by decide) d_MM_know_36 (fun M39 H locs hs ho hw => ?_)
          have h_o : M39 o = some (.inr (9, [.int (iI th), .int (iI put), .int (iI wr), .ref (bd 0), .ref (bd 1), .int (iI nn), .int (iI cir), .int (iI oN), .int (iI oC), .ref (bd 2), .ref (bd 3), .ref (bd 4), .ref (bd 5), .int (iI cV), .ref (bd 6), .ref (bd 7), .ref (bd 8), .int (iI fcs), .ref (bd 9), .int (iI ar), .ref (bd 10), .ref (bd 11), .ref (bd 12), .ref (bd 13), .int (iI 0), .ref (bd 14), .ref (bd 15), .ref (bd 16), .int (iI 1), .ref (bd 17)])) := (ho _ (zq_ne h_o h_po (by simp))).trans h_o
          have h_pS : M39 (bd 0) = some (cI (K 0) 12 pS) := (ho _ (zbd hbd 0 15)).trans h_pS
          have h_pL : M39 (bd 1) = some (cI (K 0) 48 pL) := (ho _ (zbd hbd 1 15)).trans h_pL
          have h_sg : M39 (bd 2) = some (cI (K 0) 12 sg) := (ho _ (zbd hbd 2 15)).trans h_sg
          have h_lb : M39 (bd 3) = some (cI (K 0) 48 lb) := (ho _ (zbd hbd 3 15)).trans h_lb
          have h_oS : M39 (bd 4) = some (cI (K 0) 12 oS) := (ho _ (zbd hbd 4 15)).trans h_oS
          have h_oL : M39 (bd 5) = some (cI (K 0) 48 oL) := (ho _ (zbd hbd 5 15)).trans h_oL
          have h_rw : M39 (bd 6) = some (cI (K 0) 48 fV) := (ho _ (zbd hbd 6 15)).trans h_rw
          have h_fr : M39 (bd 7) = some (cI (K 0) 48 fr) := (ho _ (zbd hbd 7 15)).trans h_fr
          have h_pi : M39 (bd 8) = some (cI (K 0) 12 pi) := (ho _ (zbd hbd 8 15)).trans h_pi
          have h_fo : M39 (bd 9) = some (cI (K 0) 48 fo) := (ho _ (zbd hbd 9 15)).trans h_fo
          have h_al : M39 (bd 10) = some (cI (K 0) 40 alV) := (ho _ (zbd hbd 10 15)).trans h_al
          have h_on : M39 (bd 11) = some (cI (K 0) 384 onV) := (ho _ (zbd hbd 11 15)).trans h_on
          have h_tw : M39 (bd 12) = some (cI (K 0) 384 twV) := (ho _ (zbd hbd 12 15)).trans h_tw
          have h_sm : M39 (bd 13) = some (cJ (K 1) 114688 sm) := (ho _ (zbd hbd 13 15)).trans h_sm
          have h_av : M39 (bd 14) = some (cJ (K 1) 2100 av) := (ho _ (zbd hbd 14 15)).trans h_av
          have h_le : M39 (bd 16) = some (cJ (K 1) 28 le) := (ho _ (Ne.symm (zbd hbd 15 16))).trans h_le
          have h_gd : M39 (bd 17) = some (cI (K 0) 384 gd) := (ho _ (Ne.symm (zbd hbd 15 17))).trans h_gd
          have h_po : M39 (bd 15) = some (cJ (K 1) 14 (zu gp e0 0)) := hs
          have hfr : ∀ q, q ≠ o → (∀ i, i < 18 → q ≠ bd i) → M39 q = M q := fun q g0 g1 => (ho q (g1 15 (by decide))).trans (hfr q g0 g1)
          refine lv_iinc (v := iI (e0 + 1)) (lv' := [(1, .int (iI (e0 + 1))), (0, .ref o)]) hx hb d_MM_know_37 hl (k := 1) rfl (iI_add _ _) (by decide) rfl (fun ls hl => ?_)
          refine lv_goto (tgt := 24) hx hb d_MM_know_40 (by decide) ?_
          exact ih_hL1 (e0 + 1) (zu gp e0 0) M39 _ _ _ (by omega) (zup_c hgp he.1) (by omega) hfr h_o h_pS h_pL h_sg h_lb h_oS h_oL h_rw h_fr h_pi h_fo h_al h_on h_tw h_sm h_av h_po h_le h_gd hw (lv_sub hl [1, 0] rfl)
    refine lv_iconst (v := iI 0) hx hb d_MM_know_22 rfl ?_
    refine lv_istore_n (lv' := [(1, .int (iI 0)), (0, .ref o)]) hx hb d_MM_know_23 rfl hl (by decide) rfl (fun ls hl => ?_)
    exact hL1 _ 0 po M4 _ _ _ ⟨by omega, by omega⟩ (fun z => (if_neg (by omega)).symm) (Nat.lt_succ_self _) hfr h_o h_pS h_pL h_sg h_lb h_oS h_oL h_rw h_fr h_pi h_fo h_al h_on h_tw h_sm h_av h_po h_le h_gd hw (lv_sub hl [1, 0] rfl)
  · exact zq_vret hx hb hr hlocks hZ hw ⟨rfl, arcs, al, on, tw, mns, av, po, (hkn.resolve_left (by assumption)).2, (by rw [(hkn.resolve_left (by assumption)).1] at hS0; exact hS0), fun q _ _ => rfl⟩ d_MM_know_7
