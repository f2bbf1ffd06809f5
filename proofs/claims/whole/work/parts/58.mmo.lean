abbrev P_MM_smooth (K : Nat → ClassId) (M : zq_M) (o : Nat) (bd : Nat → Nat) (put : Int) (pS : Int → Int) (pL : Int → Int) (nn : Int) (cir : Int) (sg : Int → Int) (lb : Int → Int) (kn : Int) (arcs : Int) (al : Int → Int) (on : Int → Int) (tw : Int → Int) (mns : Int) (av : Int → Int) (po : Int → Int) (k : Int) : Option Value → zq_M → Prop := fun v M' => ∃ r, v = some (.int (iI r)) ∧ ((¬ ((0 ≤ k ∧ k < nn) ∧ cir + zmy (lb (4 * k)) (lb (4 * k + ((if 0 < sg k then 3 else 1) + 2) % 4)) (lb (4 * k + (if 0 < sg k then 3 else 1))) (lb (4 * k + 2)) ≤ 9) ∧ r = 0 ∧ M' = M) ∨ (((0 ≤ k ∧ k < nn) ∧ cir + zmy (lb (4 * k)) (lb (4 * k + ((if 0 < sg k then 3 else 1) + 2) % 4)) (lb (4 * k + (if 0 < sg k then 3 else 1))) (lb (4 * k + 2)) ≤ 9) ∧ r = 1 ∧ ∃ cir' lb' bg, bg = (if 0 < sg k then 3 else 1) ∧ zSmo (zot lb (4 * k) (4 * (nn - 1)) 4) (4 * (nn - 1)) (lb (4 * k)) (lb (4 * k + (bg + 2) % 4)) (lb (4 * k + bg)) (lb (4 * k + 2)) cir cir' lb' ∧ zMK K M' o bd put pS pL (nn - 1) cir' (zot sg k (nn - 1) 1) lb' 0 arcs al on tw mns av po ∧ ∀ q, q ≠ o → (∀ i, i < 18 → q ≠ bd i) → M' q = M q))
set_option maxHeartbeats 4000000 in
set_option maxRecDepth 100000 in
theorem c_MM_smooth (l : Launch) (D : va_G) (K : Nat → ClassId) (M : zq_M) (o : Nat) (bd : Nat → Nat) (put : Int) (pS : Int → Int) (pL : Int → Int) (nn : Int) (cir : Int) (sg : Int → Int) (lb : Int → Int) (kn : Int) (arcs : Int) (al : Int → Int) (on : Int → Int) (tw : Int → Int) (mns : Int) (av : Int → Int) (po : Int → Int) (k : Int) (hS : zMK K M o bd put pS pL nn cir sg lb kn arcs al on tw mns av po) (hnn : 0 ≤ nn ∧ nn ≤ 12) (hcir : 0 ≤ cir ∧ cir ≤ 9) (hk0 : inI k) : zq_Met l y_MM_smooth (.code y_MM_smooth b_MM_smooth 10 (some .boolean) :: lw_gd) { frames := 2, cells := 0, slots := 0, locals := 45 } D vwCl (zT K) [.ref o, .int (iI k)] M (P_MM_smooth K M o bd put pS pL nn cir sg lb kn arcs al on tw mns av po k) 0 0 := by
  refine zq_start (cc := b_MM_smooth) (maxL := 10) (ret := (some .boolean)) (by decide) rfl (Nat.le_of_ble_eq_true rfl) ?_
  intro p e s m below meth co A ls hx hb hr hml hts hown hnm hlocks hA hZ hw hl
  have hts : ∀ w ∈ lw_gd, w.before [.ref o, .int (iI k)].toArray s = true := fun w h => hts w (List.mem_cons_of_mem _ h)
  have hown : s.vm.findClass R_MM = some m.cls := hown
  have hK := hZ.1
  have hl : lv_has ls 10 [(0, .ref o), (1, .int (iI k))] := hl
  have hfr : ∀ q, q ≠ o → (∀ i, i < 18 → q ≠ bd i) → M q = M q := fun q _ _ => rfl
  have hS0 := hS
  obtain ⟨th, wr, oN, oC, lbs, fcs, oS, oL, rw, fr, pi, fo, sm, le, gd, h_o, hbd, h_pS, h_pL, h_sg, h_lb, h_oS, h_oL, h_rw, h_fr, h_pi, h_fo, h_al, h_on, h_tw, h_sm, h_av, h_po, h_le, h_gd, hrg⟩ := hS
  have hpS : ∀ j, inI (pS j) := fun j => (hrg j).1
  have hpL : ∀ j, inI (pL j) := fun j => (hrg j).2.1
  have hsg : ∀ j, inI (sg j) := fun j => (hrg j).2.2.1
  have hlb : ∀ j, inI (lb j) := fun j => (hrg j).2.2.2.1
  have hoS : ∀ j, inI (oS j) := fun j => (hrg j).2.2.2.2.1
  have hoL : ∀ j, inI (oL j) := fun j => (hrg j).2.2.2.2.2.1
  have hrw : ∀ j, inI (rw j) := fun j => (hrg j).2.2.2.2.2.2.1
  have hfo : ∀ j, inI (fo j) := fun j => (hrg j).2.2.2.2.2.2.2.1
  have hal : ∀ j, inI (al j) := fun j => (hrg j).2.2.2.2.2.2.2.2
  refine lv_iload_n hx hb d_MM_smooth_0 rfl (lv_at hl 1 rfl) ?_
  refine zq_if_lt (tgt := 12) hx hb d_MM_smooth_1 (by decide) hk0 (fun hc1 => ?_) (fun hc1 => ?_)
  · refine lv_iconst (v := iI 0) hx hb d_MM_smooth_12 rfl ?_
    exact zq_zret hx hb hr rfl hlocks hZ hw ⟨0, rfl, Or.inl ⟨fun q => by omega, rfl, rfl⟩⟩ d_MM_smooth_13
  · refine lv_iload_n hx hb d_MM_smooth_4 rfl (lv_at hl 1 rfl) ?_
    refine lv_aload_n hx hb d_MM_smooth_5 rfl (lv_at hl 0 rfl) ?_
    refine zq_get hx hb hts i_MM hown hK hw h_o rfl 5 (by decide) (hts _ tw_591) rfl d_MM_smooth_6 ?_
    refine zq_icmp_lt (tgt := 14) hx hb d_MM_smooth_9 (by decide) hk0 ⟨by omega, by omega⟩ (fun hc2 => ?_) (fun hc2 => ?_)
    · refine lv_aload_n hx hb d_MM_smooth_14 rfl (lv_at hl 0 rfl) ?_
      refine lv_iload_n hx hb d_MM_smooth_15 rfl (lv_at hl 1 rfl) ?_
      refine zq_callV (As := [.int (iI k)]) (rest := []) ⟨hx, hb, hml, hown, hts⟩ (c_MM_upperIn l D K M o bd th put wr nn cir oN oC lbs fcs arcs mns kn sg  k h_o hbd h_sg hsg ⟨by omega, by omega⟩) (cwV 1 hts (zg_V tw_848 tw_850 ts_54 tw_10 tw_851) rfl rfl rfl (by decide +kernel) ⟨Nat.le_of_ble_eq_true rfl, Nat.le_of_ble_eq_true rfl⟩) hZ hw hA h_o rfl rfl rfl rfl hl.1 (Nat.le_of_ble_eq_true rfl) d_MM_smooth_16 ⟨Nat.le_of_ble_eq_true rfl, Nat.le_of_ble_eq_true rfl⟩ (fun v M3 H locs hp hw => ?_)
      obtain ⟨rfl, hMe⟩ := hp
      rw [hMe] at hw
      refine W.eq (g2 := F0 m 19 ls [.int (iI (if 0 < sg k then 3 else 1))]) rfl ?_
      refine lv_istore_n (lv' := [(2, .int (iI (if 0 < sg k then 3 else 1))), (0, .ref o), (1, .int (iI k))]) hx hb d_MM_smooth_19 rfl hl (by decide) rfl (fun ls hl => ?_)
      obtain ⟨bg, hbg⟩ : ∃ z : Int, z = if 0 < sg k then 3 else 1 := ⟨_, rfl⟩
      rw [← hbg] at hl
      have hbg2 : bg = 1 ∨ bg = 3 := by rw [hbg]; split; exact Or.inr rfl; exact Or.inl rfl
      refine lv_aload_n hx hb d_MM_smooth_20 rfl (lv_at hl 1 rfl) ?_
      refine zq_get hx hb hts i_MM hown hK hw h_o rfl 10 (by decide) (hts _ tw_596) rfl d_MM_smooth_21 ?_
      refine lv_iconst (v := iI 4) hx hb d_MM_smooth_24 rfl ?_
      refine lv_iload_n hx hb d_MM_smooth_25 rfl (lv_at hl 2 rfl) ?_
      refine zq_imul hx hb d_MM_smooth_26 ?_
      refine zq_iald hx hb hK hw 0 h_lb rfl (by omega) (by omega) (by decide) d_MM_smooth_27 ?_
      refine lv_istore_n (lv' := [(3, .int (iI (lb (4 * k)))), (2, .int (iI bg)), (0, .ref o), (1, .int (iI k))]) hx hb d_MM_smooth_28 rfl hl (by decide) rfl (fun ls hl => ?_)
      refine lv_aload_n hx hb d_MM_smooth_29 rfl (lv_at hl 2 rfl) ?_
      refine zq_get hx hb hts i_MM hown hK hw h_o rfl 10 (by decide) (hts _ tw_596) rfl d_MM_smooth_30 ?_
      refine lv_iconst (v := iI 4) hx hb d_MM_smooth_33 rfl ?_
      refine lv_iload_n hx hb d_MM_smooth_34 rfl (lv_at hl 3 rfl) ?_
      refine zq_imul hx hb d_MM_smooth_35 ?_
      refine lv_iload_n hx hb d_MM_smooth_36 rfl (lv_at hl 1 rfl) ?_
      refine lv_iconst (v := iI 2) hx hb d_MM_smooth_37 rfl ?_
      refine zq_iadd hx hb d_MM_smooth_38 ?_
      refine lv_iconst (v := iI 4) hx hb d_MM_smooth_39 rfl ?_
      refine zq_irem hx hb (by omega) ⟨by omega, by omega⟩ (by decide) (by decide) d_MM_smooth_40 ?_
      refine zq_iadd hx hb d_MM_smooth_41 ?_
      refine zq_iald hx hb hK hw 0 h_lb rfl (by omega) (by omega) (by decide) d_MM_smooth_42 ?_
      refine lv_istore (lv' := [(4, .int (iI (lb ((4 * k) + ((bg + 2) % 4))))), (3, .int (iI (lb (4 * k)))), (2, .int (iI bg)), (0, .ref o), (1, .int (iI k))]) hx hb d_MM_smooth_43 hl (by decide) rfl (fun ls hl => ?_)
      refine lv_aload_n hx hb d_MM_smooth_45 rfl (lv_at hl 3 rfl) ?_
      refine zq_get hx hb hts i_MM hown hK hw h_o rfl 10 (by decide) (hts _ tw_596) rfl d_MM_smooth_46 ?_
      refine lv_iconst (v := iI 4) hx hb d_MM_smooth_49 rfl ?_
      refine lv_iload_n hx hb d_MM_smooth_50 rfl (lv_at hl 4 rfl) ?_
      refine zq_imul hx hb d_MM_smooth_51 ?_
      refine lv_iload_n hx hb d_MM_smooth_52 rfl (lv_at hl 2 rfl) ?_
      refine zq_iadd hx hb d_MM_smooth_53 ?_
      refine zq_iald hx hb hK hw 0 h_lb rfl (by omega) (by omega) (by decide) d_MM_smooth_54 ?_
      refine lv_istore (lv' := [(5, .int (iI (lb ((4 * k) + bg)))), (4, .int (iI (lb ((4 * k) + ((bg + 2) % 4))))), (3, .int (iI (lb (4 * k)))), (2, .int (iI bg)), (0, .ref o), (1, .int (iI k))]) hx hb d_MM_smooth_55 hl (by decide) rfl (fun ls hl => ?_)
      refine lv_aload_n hx hb d_MM_smooth_57 rfl (lv_at hl 4 rfl) ?_
      refine zq_get hx hb hts i_MM hown hK hw h_o rfl 10 (by decide) (hts _ tw_596) rfl d_MM_smooth_58 ?_
      refine lv_iconst (v := iI 4) hx hb d_MM_smooth_61 rfl ?_
      refine lv_iload_n hx hb d_MM_smooth_62 rfl (lv_at hl 5 rfl) ?_
      refine zq_imul hx hb d_MM_smooth_63 ?_
      refine lv_iconst (v := iI 2) hx hb d_MM_smooth_64 rfl ?_
      refine zq_iadd hx hb d_MM_smooth_65 ?_
      refine zq_iald hx hb hK hw 0 h_lb rfl (by omega) (by omega) (by decide) d_MM_smooth_66 ?_
      refine lv_istore (lv' := [(6, .int (iI (lb ((4 * k) + 2)))), (5, .int (iI (lb ((4 * k) + bg)))), (4, .int (iI (lb ((4 * k) + ((bg + 2) % 4))))), (3, .int (iI (lb (4 * k)))), (2, .int (iI bg)), (0, .ref o), (1, .int (iI k))]) hx hb d_MM_smooth_67 hl (by decide) rfl (fun ls hl => ?_)
      obtain ⟨li, hli⟩ : ∃ z : Int, z = lb (4 * k) := ⟨_, rfl⟩
      rw [← hli] at hl
      have hili : inI li := by rw [hli]; exact hlb _
      obtain ⟨uo, huo⟩ : ∃ z : Int, z = lb ((4 * k) + ((bg + 2) % 4)) := ⟨_, rfl⟩
      rw [← huo] at hl
      have hiuo : inI uo := by rw [huo]; exact hlb _
      obtain ⟨up, hup⟩ : ∃ z : Int, z = lb ((4 * k) + bg) := ⟨_, rfl⟩
      rw [← hup] at hl
      have hiup : inI up := by rw [hup]; exact hlb _
      obtain ⟨lo, hlo⟩ : ∃ z : Int, z = lb ((4 * k) + 2) := ⟨_, rfl⟩
      rw [← hlo] at hl
      have hilo : inI lo := by rw [hlo]; exact hlb _
      have hJ : ∀ (my : Int) (Mq : zq_M) (H : Heap) (locs : List Loc) (ls : Array Slot), (Mq = M) → (my = zmy li uo up lo) → (∀ q, q ≠ o → (∀ i, i < 18 → q ≠ bd i) → Mq q = M q) → Mq o = some (.inr (9, [.int (iI th), .int (iI put), .int (iI wr), .ref (bd 0), .ref (bd 1), .int (iI nn), .int (iI cir), .int (iI oN), .int (iI oC), .ref (bd 2), .ref (bd 3), .ref (bd 4), .ref (bd 5), .int (iI lbs), .ref (bd 6), .ref (bd 7), .ref (bd 8), .int (iI fcs), .ref (bd 9), .int (iI arcs), .ref (bd 10), .ref (bd 11), .ref (bd 12), .ref (bd 13), .int (iI mns), .ref (bd 14), .ref (bd 15), .ref (bd 16), .int (iI kn), .ref (bd 17)])) → Mq (bd 0) = some (cI (K 0) 12 pS) → Mq (bd 1) = some (cI (K 0) 48 pL) → Mq (bd 2) = some (cI (K 0) 12 sg) → Mq (bd 3) = some (cI (K 0) 48 lb) → Mq (bd 4) = some (cI (K 0) 12 oS) → Mq (bd 5) = some (cI (K 0) 48 oL) → Mq (bd 6) = some (cI (K 0) 48 rw) → Mq (bd 7) = some (cI (K 0) 48 fr) → Mq (bd 8) = some (cI (K 0) 12 pi) → Mq (bd 9) = some (cI (K 0) 48 fo) → Mq (bd 10) = some (cI (K 0) 40 al) → Mq (bd 11) = some (cI (K 0) 384 on) → Mq (bd 12) = some (cI (K 0) 384 tw) → Mq (bd 13) = some (cJ (K 1) 114688 sm) → Mq (bd 14) = some (cJ (K 1) 2100 av) → Mq (bd 15) = some (cJ (K 1) 14 po) → Mq (bd 16) = some (cJ (K 1) 28 le) → Mq (bd 17) = some (cI (K 0) 384 gd) → zq_W D vwCl A s.heap Mq H locs → lv_has ls 10 [(0, .ref o), (1, .int (iI k)), (3, .int (iI li)), (4, .int (iI uo)), (5, .int (iI up)), (6, .int (iI lo)), (7, .int (iI my))] → W p l e ({ frames := 2, cells := 0, slots := 0, locals := 45 } : Room) s m [.ref o, .int (iI k)].toArray below meth co H locs 0 0 (MQ below (zq_Q D vwCl (zT K) (P_MM_smooth K M o bd put pS pL nn cir sg lb kn arcs al on tw mns av po k) A) [.ref o, .int (iI k)].toArray s 0 0 A) (F0 m 116 ls []) := by
        intro my Mq H locs ls hMq hmy hfr h_o h_pS h_pL h_sg h_lb h_oS h_oL h_rw h_fr h_pi h_fo h_al h_on h_tw h_sm h_av h_po h_le h_gd hw hl
        have hmy3 : 0 ≤ my ∧ my ≤ 2 := by rw [hmy]; unfold zmy; (repeat' split) <;> omega
        refine lv_aload_n hx hb d_MM_smooth_116 rfl (lv_at hl 0 rfl) ?_
        refine zq_get hx hb hts i_MM hown hK hw h_o rfl 6 (by decide) (hts _ tw_592) rfl d_MM_smooth_117 ?_
        refine lv_iload hx hb d_MM_smooth_120 (lv_at hl 6 rfl) ?_
        refine zq_iadd hx hb d_MM_smooth_122 ?_
        refine lv_bipush (v := iI 9) hx hb d_MM_smooth_123 (by decide) ?_
        refine zq_icmp_le (tgt := 130) hx hb d_MM_smooth_125 (by decide) ⟨by omega, by omega⟩ (by decide) (fun hc4 => ?_) (fun hc4 => ?_)
        · refine lv_aload_n hx hb d_MM_smooth_130 rfl (lv_at hl 0 rfl) ?_
          refine zq_get hx hb hts i_MM hown hK hw h_o rfl 15 (by decide) (hts _ tw_601) rfl d_MM_smooth_131 ?_
          refine lv_iconst (v := iI 0) hx hb d_MM_smooth_134 rfl ?_
          refine lv_iload_n hx hb d_MM_smooth_135 rfl (lv_at hl 2 rfl) ?_
          refine zq_iast hx hb hK hw 0 h_fr rfl (by omega) (by omega) (by decide) d_MM_smooth_136 (fun M5 H locs hs ho hw => ?_)
          have h_o : M5 o = some (.inr (9, [.int (iI th), .int (iI put), .int (iI wr), .ref (bd 0), .ref (bd 1), .int (iI nn), .int (iI cir), .int (iI oN), .int (iI oC), .ref (bd 2), .ref (bd 3), .ref (bd 4), .ref (bd 5), .int (iI lbs), .ref (bd 6), .ref (bd 7), .ref (bd 8), .int (iI fcs), .ref (bd 9), .int (iI arcs), .ref (bd 10), .ref (bd 11), .ref (bd 12), .ref (bd 13), .int (iI mns), .ref (bd 14), .ref (bd 15), .ref (bd 16), .int (iI kn), .ref (bd 17)])) := (ho _ (zq_ne h_o h_fr (by simp))).trans h_o
          have h_pS : M5 (bd 0) = some (cI (K 0) 12 pS) := (ho _ (zbd hbd 0 7)).trans h_pS
          have h_pL : M5 (bd 1) = some (cI (K 0) 48 pL) := (ho _ (zbd hbd 1 7)).trans h_pL
          have h_sg : M5 (bd 2) = some (cI (K 0) 12 sg) := (ho _ (zbd hbd 2 7)).trans h_sg
          have h_lb : M5 (bd 3) = some (cI (K 0) 48 lb) := (ho _ (zbd hbd 3 7)).trans h_lb
          have h_oS : M5 (bd 4) = some (cI (K 0) 12 oS) := (ho _ (zbd hbd 4 7)).trans h_oS
          have h_oL : M5 (bd 5) = some (cI (K 0) 48 oL) := (ho _ (zbd hbd 5 7)).trans h_oL
          have h_rw : M5 (bd 6) = some (cI (K 0) 48 rw) := (ho _ (zbd hbd 6 7)).trans h_rw
          have h_pi : M5 (bd 8) = some (cI (K 0) 12 pi) := (ho _ (Ne.symm (zbd hbd 7 8))).trans h_pi
          have h_fo : M5 (bd 9) = some (cI (K 0) 48 fo) := (ho _ (Ne.symm (zbd hbd 7 9))).trans h_fo
          have h_al : M5 (bd 10) = some (cI (K 0) 40 al) := (ho _ (Ne.symm (zbd hbd 7 10))).trans h_al
          have h_on : M5 (bd 11) = some (cI (K 0) 384 on) := (ho _ (Ne.symm (zbd hbd 7 11))).trans h_on
          have h_tw : M5 (bd 12) = some (cI (K 0) 384 tw) := (ho _ (Ne.symm (zbd hbd 7 12))).trans h_tw
          have h_sm : M5 (bd 13) = some (cJ (K 1) 114688 sm) := (ho _ (Ne.symm (zbd hbd 7 13))).trans h_sm
          have h_av : M5 (bd 14) = some (cJ (K 1) 2100 av) := (ho _ (Ne.symm (zbd hbd 7 14))).trans h_av
          have h_po : M5 (bd 15) = some (cJ (K 1) 14 po) := (ho _ (Ne.symm (zbd hbd 7 15))).trans h_po
          have h_le : M5 (bd 16) = some (cJ (K 1) 28 le) := (ho _ (Ne.symm (zbd hbd 7 16))).trans h_le
          have h_gd : M5 (bd 17) = some (cI (K 0) 384 gd) := (ho _ (Ne.symm (zbd hbd 7 17))).trans h_gd
          have h_fr : M5 (bd 7) = some (cI (K 0) 48 (zu fr 0 li)) := hs
          have hfr : ∀ q, q ≠ o → (∀ i, i < 18 → q ≠ bd i) → M5 q = M q := fun q g0 g1 => (ho q (g1 7 (by decide))).trans (hfr q g0 g1)
          refine lv_aload_n hx hb d_MM_smooth_137 rfl (lv_at hl 0 rfl) ?_
          refine zq_get hx hb hts i_MM hown hK hw h_o rfl 15 (by decide) (hts _ tw_601) rfl d_MM_smooth_138 ?_
          refine lv_iconst (v := iI 1) hx hb d_MM_smooth_141 rfl ?_
          refine lv_iload hx hb d_MM_smooth_142 (lv_at hl 3 rfl) ?_
          refine zq_iast hx hb hK hw 0 h_fr rfl (by omega) (by omega) (by decide) d_MM_smooth_144 (fun M6 H locs hs ho hw => ?_)
          have h_o : M6 o = some (.inr (9, [.int (iI th), .int (iI put), .int (iI wr), .ref (bd 0), .ref (bd 1), .int (iI nn), .int (iI cir), .int (iI oN), .int (iI oC), .ref (bd 2), .ref (bd 3), .ref (bd 4), .ref (bd 5), .int (iI lbs), .ref (bd 6), .ref (bd 7), .ref (bd 8), .int (iI fcs), .ref (bd 9), .int (iI arcs), .ref (bd 10), .ref (bd 11), .ref (bd 12), .ref (bd 13), .int (iI mns), .ref (bd 14), .ref (bd 15), .ref (bd 16), .int (iI kn), .ref (bd 17)])) := (ho _ (zq_ne h_o h_fr (by simp))).trans h_o
          have h_pS : M6 (bd 0) = some (cI (K 0) 12 pS) := (ho _ (zbd hbd 0 7)).trans h_pS
          have h_pL : M6 (bd 1) = some (cI (K 0) 48 pL) := (ho _ (zbd hbd 1 7)).trans h_pL
          have h_sg : M6 (bd 2) = some (cI (K 0) 12 sg) := (ho _ (zbd hbd 2 7)).trans h_sg
          have h_lb : M6 (bd 3) = some (cI (K 0) 48 lb) := (ho _ (zbd hbd 3 7)).trans h_lb
          have h_oS : M6 (bd 4) = some (cI (K 0) 12 oS) := (ho _ (zbd hbd 4 7)).trans h_oS
          have h_oL : M6 (bd 5) = some (cI (K 0) 48 oL) := (ho _ (zbd hbd 5 7)).trans h_oL
          have h_rw : M6 (bd 6) = some (cI (K 0) 48 rw) := (ho _ (zbd hbd 6 7)).trans h_rw
          have h_pi : M6 (bd 8) = some (cI (K 0) 12 pi) := (ho _ (Ne.symm (zbd hbd 7 8))).trans h_pi
          have h_fo : M6 (bd 9) = some (cI (K 0) 48 fo) := (ho _ (Ne.symm (zbd hbd 7 9))).trans h_fo
          have h_al : M6 (bd 10) = some (cI (K 0) 40 al) := (ho _ (Ne.symm (zbd hbd 7 10))).trans h_al
          have h_on : M6 (bd 11) = some (cI (K 0) 384 on) := (ho _ (Ne.symm (zbd hbd 7 11))).trans h_on
          have h_tw : M6 (bd 12) = some (cI (K 0) 384 tw) := (ho _ (Ne.symm (zbd hbd 7 12))).trans h_tw
          have h_sm : M6 (bd 13) = some (cJ (K 1) 114688 sm) := (ho _ (Ne.symm (zbd hbd 7 13))).trans h_sm
          have h_av : M6 (bd 14) = some (cJ (K 1) 2100 av) := (ho _ (Ne.symm (zbd hbd 7 14))).trans h_av
          have h_po : M6 (bd 15) = some (cJ (K 1) 14 po) := (ho _ (Ne.symm (zbd hbd 7 15))).trans h_po
          have h_le : M6 (bd 16) = some (cJ (K 1) 28 le) := (ho _ (Ne.symm (zbd hbd 7 16))).trans h_le
          have h_gd : M6 (bd 17) = some (cI (K 0) 384 gd) := (ho _ (Ne.symm (zbd hbd 7 17))).trans h_gd
          have h_fr : M6 (bd 7) = some (cI (K 0) 48 (zu (zu fr 0 li) 1 uo)) := hs
          have hfr : ∀ q, q ≠ o → (∀ i, i < 18 → q ≠ bd i) → M6 q = M q := fun q g0 g1 => (ho q (g1 7 (by decide))).trans (hfr q g0 g1)
          refine lv_aload_n hx hb d_MM_smooth_145 rfl (lv_at hl 0 rfl) ?_
          refine zq_get hx hb hts i_MM hown hK hw h_o rfl 15 (by decide) (hts _ tw_601) rfl d_MM_smooth_146 ?_
          refine lv_iconst (v := iI 2) hx hb d_MM_smooth_149 rfl ?_
          refine lv_iload hx hb d_MM_smooth_150 (lv_at hl 4 rfl) ?_
          refine zq_iast hx hb hK hw 0 h_fr rfl (by omega) (by omega) (by decide) d_MM_smooth_152 (fun M7 H locs hs ho hw => ?_)
          have h_o : M7 o = some (.inr (9, [.int (iI th), .int (iI put), .int (iI wr), .ref (bd 0), .ref (bd 1), .int (iI nn), .int (iI cir), .int (iI oN), .int (iI oC), .ref (bd 2), .ref (bd 3), .ref (bd 4), .ref (bd 5), .int (iI lbs), .ref (bd 6), .ref (bd 7), .ref (bd 8), .int (iI fcs), .ref (bd 9), .int (iI arcs), .ref (bd 10), .ref (bd 11), .ref (bd 12), .ref (bd 13), .int (iI mns), .ref (bd 14), .ref (bd 15), .ref (bd 16), .int (iI kn), .ref (bd 17)])) := (ho _ (zq_ne h_o h_fr (by simp))).trans h_o
          have h_pS : M7 (bd 0) = some (cI (K 0) 12 pS) := (ho _ (zbd hbd 0 7)).trans h_pS
          have h_pL : M7 (bd 1) = some (cI (K 0) 48 pL) := (ho _ (zbd hbd 1 7)).trans h_pL
          have h_sg : M7 (bd 2) = some (cI (K 0) 12 sg) := (ho _ (zbd hbd 2 7)).trans h_sg
          have h_lb : M7 (bd 3) = some (cI (K 0) 48 lb) := (ho _ (zbd hbd 3 7)).trans h_lb
          have h_oS : M7 (bd 4) = some (cI (K 0) 12 oS) := (ho _ (zbd hbd 4 7)).trans h_oS
          have h_oL : M7 (bd 5) = some (cI (K 0) 48 oL) := (ho _ (zbd hbd 5 7)).trans h_oL
          have h_rw : M7 (bd 6) = some (cI (K 0) 48 rw) := (ho _ (zbd hbd 6 7)).trans h_rw
          have h_pi : M7 (bd 8) = some (cI (K 0) 12 pi) := (ho _ (Ne.symm (zbd hbd 7 8))).trans h_pi
          have h_fo : M7 (bd 9) = some (cI (K 0) 48 fo) := (ho _ (Ne.symm (zbd hbd 7 9))).trans h_fo
          have h_al : M7 (bd 10) = some (cI (K 0) 40 al) := (ho _ (Ne.symm (zbd hbd 7 10))).trans h_al
          have h_on : M7 (bd 11) = some (cI (K 0) 384 on) := (ho _ (Ne.symm (zbd hbd 7 11))).trans h_on
          have h_tw : M7 (bd 12) = some (cI (K 0) 384 tw) := (ho _ (Ne.symm (zbd hbd 7 12))).trans h_tw
          have h_sm : M7 (bd 13) = some (cJ (K 1) 114688 sm) := (ho _ (Ne.symm (zbd hbd 7 13))).trans h_sm
          have h_av : M7 (bd 14) = some (cJ (K 1) 2100 av) := (ho _ (Ne.symm (zbd hbd 7 14))).trans h_av
          have h_po : M7 (bd 15) = some (cJ (K 1) 14 po) := (ho _ (Ne.symm (zbd hbd 7 15))).trans h_po
          have h_le : M7 (bd 16) = some (cJ (K 1) 28 le) := (ho _ (Ne.symm (zbd hbd 7 16))).trans h_le
          have h_gd : M7 (bd 17) = some (cI (K 0) 384 gd) := (ho _ (Ne.symm (zbd hbd 7 17))).trans h_gd
          have h_fr : M7 (bd 7) = some (cI (K 0) 48 (zu (zu (zu fr 0 li) 1 uo) 2 up)) := hs
          have hfr : ∀ q, q ≠ o → (∀ i, i < 18 → q ≠ bd i) → M7 q = M q := fun q g0 g1 => (ho q (g1 7 (by decide))).trans (hfr q g0 g1)
          refine lv_aload_n hx hb d_MM_smooth_153 rfl (lv_at hl 0 rfl) ?_
          refine zq_get hx hb hts i_MM hown hK hw h_o rfl 15 (by decide) (hts _ tw_601) rfl d_MM_smooth_154 ?_
          refine lv_iconst (v := iI 3) hx hb d_MM_smooth_157 rfl ?_
          refine lv_iload hx hb d_MM_smooth_158 (lv_at hl 5 rfl) ?_
          refine zq_iast hx hb hK hw 0 h_fr rfl (by omega) (by omega) (by decide) d_MM_smooth_160 (fun M8 H locs hs ho hw => ?_)
          have h_o : M8 o = some (.inr (9, [.int (iI th), .int (iI put), .int (iI wr), .ref (bd 0), .ref (bd 1), .int (iI nn), .int (iI cir), .int (iI oN), .int (iI oC), .ref (bd 2), .ref (bd 3), .ref (bd 4), .ref (bd 5), .int (iI lbs), .ref (bd 6), .ref (bd 7), .ref (bd 8), .int (iI fcs), .ref (bd 9), .int (iI arcs), .ref (bd 10), .ref (bd 11), .ref (bd 12), .ref (bd 13), .int (iI mns), .ref (bd 14), .ref (bd 15), .ref (bd 16), .int (iI kn), .ref (bd 17)])) := (ho _ (zq_ne h_o h_fr (by simp))).trans h_o
          have h_pS : M8 (bd 0) = some (cI (K 0) 12 pS) := (ho _ (zbd hbd 0 7)).trans h_pS
          have h_pL : M8 (bd 1) = some (cI (K 0) 48 pL) := (ho _ (zbd hbd 1 7)).trans h_pL
          have h_sg : M8 (bd 2) = some (cI (K 0) 12 sg) := (ho _ (zbd hbd 2 7)).trans h_sg
          have h_lb : M8 (bd 3) = some (cI (K 0) 48 lb) := (ho _ (zbd hbd 3 7)).trans h_lb
          have h_oS : M8 (bd 4) = some (cI (K 0) 12 oS) := (ho _ (zbd hbd 4 7)).trans h_oS
          have h_oL : M8 (bd 5) = some (cI (K 0) 48 oL) := (ho _ (zbd hbd 5 7)).trans h_oL
          have h_rw : M8 (bd 6) = some (cI (K 0) 48 rw) := (ho _ (zbd hbd 6 7)).trans h_rw
          have h_pi : M8 (bd 8) = some (cI (K 0) 12 pi) := (ho _ (Ne.symm (zbd hbd 7 8))).trans h_pi
          have h_fo : M8 (bd 9) = some (cI (K 0) 48 fo) := (ho _ (Ne.symm (zbd hbd 7 9))).trans h_fo
          have h_al : M8 (bd 10) = some (cI (K 0) 40 al) := (ho _ (Ne.symm (zbd hbd 7 10))).trans h_al
          have h_on : M8 (bd 11) = some (cI (K 0) 384 on) := (ho _ (Ne.symm (zbd hbd 7 11))).trans h_on
          have h_tw : M8 (bd 12) = some (cI (K 0) 384 tw) := (ho _ (Ne.symm (zbd hbd 7 12))).trans h_tw
          have h_sm : M8 (bd 13) = some (cJ (K 1) 114688 sm) := (ho _ (Ne.symm (zbd hbd 7 13))).trans h_sm
          have h_av : M8 (bd 14) = some (cJ (K 1) 2100 av) := (ho _ (Ne.symm (zbd hbd 7 14))).trans h_av
          have h_po : M8 (bd 15) = some (cJ (K 1) 14 po) := (ho _ (Ne.symm (zbd hbd 7 15))).trans h_po
          have h_le : M8 (bd 16) = some (cJ (K 1) 28 le) := (ho _ (Ne.symm (zbd hbd 7 16))).trans h_le
          have h_gd : M8 (bd 17) = some (cI (K 0) 384 gd) := (ho _ (Ne.symm (zbd hbd 7 17))).trans h_gd
          have h_fr : M8 (bd 7) = some (cI (K 0) 48 (zu (zu (zu (zu fr 0 li) 1 uo) 2 up) 3 lo)) := hs
          have hfr : ∀ q, q ≠ o → (∀ i, i < 18 → q ≠ bd i) → M8 q = M q := fun q g0 g1 => (ho q (g1 7 (by decide))).trans (hfr q g0 g1)
          obtain ⟨F4, hF4⟩ : ∃ f : Int → Int, f = zu (zu (zu (zu fr 0 li) 1 uo) 2 up) 3 lo := ⟨_, rfl⟩
          rw [← hF4] at h_fr
          have hF0 : F4 0 = li := by rw [hF4, zu_ne _ _ (by decide), zu_ne _ _ (by decide), zu_ne _ _ (by decide), zu_self]
          have hF1 : F4 1 = uo := by rw [hF4, zu_ne _ _ (by decide), zu_ne _ _ (by decide), zu_self]
          have hF2 : F4 2 = up := by rw [hF4, zu_ne _ _ (by decide), zu_self]
          have hF3 : F4 3 = lo := by rw [hF4, zu_self]
          have hFr : ∀ z, 0 ≤ z → z < 4 → inI (F4 z) := fun z h1 h2 => by rcases (show z = 0 ∨ z = 1 ∨ z = 2 ∨ z = 3 by omega) with e | e | e | e <;> subst e; rw [hF0]; exact hili; rw [hF1]; exact hiuo; rw [hF2]; exact hiup; rw [hF3]; exact hilo
          refine lv_aload_n hx hb d_MM_smooth_161 rfl (lv_at hl 0 rfl) ?_
          refine lv_dup hx hb d_MM_smooth_162 rfl ?_
          refine zq_get hx hb hts i_MM hown hK hw h_o rfl 5 (by decide) (hts _ tw_591) rfl d_MM_smooth_163 ?_
          refine lv_iconst (v := iI 1) hx hb d_MM_smooth_166 rfl ?_
          refine zq_isub hx hb d_MM_smooth_167 ?_
          refine zq_put (ci := 9) (v := .int (iI (nn - 1))) (ty := .int) hx hb hts i_MM t_MM t_MM_ok n_MM hown hK hw h_o rfl 5 (by decide) (hts _ tw_591) rfl (by decide +kernel) rfl rfl (Nat.le_of_ble_eq_true rfl) d_MM_smooth_168 (fun M9 H locs hs ho hw => ?_)
          have h_pS : M9 (bd 0) = some (cI (K 0) 12 pS) := (ho _ (zq_ne h_pS h_o (by simp))).trans h_pS
          have h_pL : M9 (bd 1) = some (cI (K 0) 48 pL) := (ho _ (zq_ne h_pL h_o (by simp))).trans h_pL
          have h_sg : M9 (bd 2) = some (cI (K 0) 12 sg) := (ho _ (zq_ne h_sg h_o (by simp))).trans h_sg
          have h_lb : M9 (bd 3) = some (cI (K 0) 48 lb) := (ho _ (zq_ne h_lb h_o (by simp))).trans h_lb
          have h_oS : M9 (bd 4) = some (cI (K 0) 12 oS) := (ho _ (zq_ne h_oS h_o (by simp))).trans h_oS
          have h_oL : M9 (bd 5) = some (cI (K 0) 48 oL) := (ho _ (zq_ne h_oL h_o (by simp))).trans h_oL
          have h_rw : M9 (bd 6) = some (cI (K 0) 48 rw) := (ho _ (zq_ne h_rw h_o (by simp))).trans h_rw
          have h_fr : M9 (bd 7) = some (cI (K 0) 48 F4) := (ho _ (zq_ne h_fr h_o (by simp))).trans h_fr
          have h_pi : M9 (bd 8) = some (cI (K 0) 12 pi) := (ho _ (zq_ne h_pi h_o (by simp))).trans h_pi
          have h_fo : M9 (bd 9) = some (cI (K 0) 48 fo) := (ho _ (zq_ne h_fo h_o (by simp))).trans h_fo
          have h_al : M9 (bd 10) = some (cI (K 0) 40 al) := (ho _ (zq_ne h_al h_o (by simp))).trans h_al
          have h_on : M9 (bd 11) = some (cI (K 0) 384 on) := (ho _ (zq_ne h_on h_o (by simp))).trans h_on
          have h_tw : M9 (bd 12) = some (cI (K 0) 384 tw) := (ho _ (zq_ne h_tw h_o (by simp))).trans h_tw
          have h_sm : M9 (bd 13) = some (cJ (K 1) 114688 sm) := (ho _ (zq_ne h_sm h_o (by simp))).trans h_sm
          have h_av : M9 (bd 14) = some (cJ (K 1) 2100 av) := (ho _ (zq_ne h_av h_o (by simp))).trans h_av
          have h_po : M9 (bd 15) = some (cJ (K 1) 14 po) := (ho _ (zq_ne h_po h_o (by simp))).trans h_po
          have h_le : M9 (bd 16) = some (cJ (K 1) 28 le) := (ho _ (zq_ne h_le h_o (by simp))).trans h_le
          have h_gd : M9 (bd 17) = some (cI (K 0) 384 gd) := (ho _ (zq_ne h_gd h_o (by simp))).trans h_gd
          have h_o : M9 o = some (.inr (9, [.int (iI th), .int (iI put), .int (iI wr), .ref (bd 0), .ref (bd 1), .int (iI (nn - 1)), .int (iI cir), .int (iI oN), .int (iI oC), .ref (bd 2), .ref (bd 3), .ref (bd 4), .ref (bd 5), .int (iI lbs), .ref (bd 6), .ref (bd 7), .ref (bd 8), .int (iI fcs), .ref (bd 9), .int (iI arcs), .ref (bd 10), .ref (bd 11), .ref (bd 12), .ref (bd 13), .int (iI mns), .ref (bd 14), .ref (bd 15), .ref (bd 16), .int (iI kn), .ref (bd 17)])) := hs
          have hfr : ∀ q, q ≠ o → (∀ i, i < 18 → q ≠ bd i) → M9 q = M q := fun q g0 g1 => (ho q g0).trans (hfr q g0 g1)
          have hL1 : ∀ (n : Nat) (i : Int) (g : Int → Int) (g2 : Int → Int) (Mq : zq_M) (H : Heap) (locs : List Loc) (ls : Array Slot), (k ≤ i ∧ i ≤ nn - 1) → (∀ z, g z = if k ≤ z ∧ z < i then sg (z + 1) else sg z) → (∀ z, g2 z = if 4 * k ≤ z ∧ z < 4 * i then lb (z + 4) else lb z) → (nn - 1 - i).toNat < n → (∀ q, q ≠ o → (∀ i, i < 18 → q ≠ bd i) → Mq q = M q) → Mq o = some (.inr (9, [.int (iI th), .int (iI put), .int (iI wr), .ref (bd 0), .ref (bd 1), .int (iI (nn - 1)), .int (iI cir), .int (iI oN), .int (iI oC), .ref (bd 2), .ref (bd 3), .ref (bd 4), .ref (bd 5), .int (iI lbs), .ref (bd 6), .ref (bd 7), .ref (bd 8), .int (iI fcs), .ref (bd 9), .int (iI arcs), .ref (bd 10), .ref (bd 11), .ref (bd 12), .ref (bd 13), .int (iI mns), .ref (bd 14), .ref (bd 15), .ref (bd 16), .int (iI kn), .ref (bd 17)])) → Mq (bd 0) = some (cI (K 0) 12 pS) → Mq (bd 1) = some (cI (K 0) 48 pL) → Mq (bd 2) = some (cI (K 0) 12 g) → Mq (bd 3) = some (cI (K 0) 48 g2) → Mq (bd 4) = some (cI (K 0) 12 oS) → Mq (bd 5) = some (cI (K 0) 48 oL) → Mq (bd 6) = some (cI (K 0) 48 rw) → Mq (bd 7) = some (cI (K 0) 48 F4) → Mq (bd 8) = some (cI (K 0) 12 pi) → Mq (bd 9) = some (cI (K 0) 48 fo) → Mq (bd 10) = some (cI (K 0) 40 al) → Mq (bd 11) = some (cI (K 0) 384 on) → Mq (bd 12) = some (cI (K 0) 384 tw) → Mq (bd 13) = some (cJ (K 1) 114688 sm) → Mq (bd 14) = some (cJ (K 1) 2100 av) → Mq (bd 15) = some (cJ (K 1) 14 po) → Mq (bd 16) = some (cJ (K 1) 28 le) → Mq (bd 17) = some (cI (K 0) 384 gd) → zq_W D vwCl A s.heap Mq H locs → lv_has ls 10 [(0, .ref o), (8, .int (iI i))] → W p l e ({ frames := 2, cells := 0, slots := 0, locals := 45 } : Room) s m [.ref o, .int (iI k)].toArray below meth co H locs 0 0 (MQ below (zq_Q D vwCl (zT K) (P_MM_smooth K M o bd put pS pL nn cir sg lb kn arcs al on tw mns av po k) A) [.ref o, .int (iI k)].toArray s 0 0 A) (F0 m 174 ls []) := by
            intro n
            induction n with
            | zero =>
              intro i g g2 Mq H locs ls hi hg hg2 hms hfr h_o h_pS h_pL h_sg h_lb h_oS h_oL h_rw h_fr h_pi h_fo h_al h_on h_tw h_sm h_av h_po h_le h_gd hw hl
              exact absurd hms (Nat.not_lt_zero _)
            | succ n ih_hL1 =>
              intro i g g2 Mq H locs ls hi hg hg2 hms hfr h_o h_pS h_pL h_sg h_lb h_oS h_oL h_rw h_fr h_pi h_fo h_al h_on h_tw h_sm h_av h_po h_le h_gd hw hl
              refine lv_iload hx hb d_MM_smooth_174 (lv_at hl 1 rfl) ?_
              refine lv_aload_n hx hb d_MM_smooth_176 rfl (lv_at hl 0 rfl) ?_
              refine zq_get hx hb hts i_MM hown hK hw h_o rfl 5 (by decide) (hts _ tw_591) rfl d_MM_smooth_177 ?_
              refine zq_icmp_ge (tgt := 246) hx hb d_MM_smooth_180 (by decide) ⟨by omega, by omega⟩ ⟨by omega, by omega⟩ (fun hc10 => ?_) (fun hc10 => ?_)
              · have eg : g = zot sg k (nn - 1) 1 := funext fun z => by rw [hg z, show i = nn - 1 by omega]; rfl
                subst eg
                have eg2 : g2 = zot lb (4 * k) (4 * (nn - 1)) 4 := funext fun z => by rw [hg2 z, show i = nn - 1 by omega]; rfl
                subst eg2
                refine lv_aload_n hx hb d_MM_smooth_246 rfl (lv_at hl 0 rfl) ?_
                refine lv_aload_n hx hb d_MM_smooth_247 rfl (lv_at hl 0 rfl) ?_
                refine zq_get hx hb hts i_MM hown hK hw h_o rfl 15 (by decide) (hts _ tw_601) rfl d_MM_smooth_248 ?_
                refine lv_iconst (v := iI 0) hx hb d_MM_smooth_251 rfl ?_
                refine zq_iald hx hb hK hw 0 h_fr rfl (by omega) (by omega) (by decide) d_MM_smooth_252 ?_
                refine lv_aload_n hx hb d_MM_smooth_253 rfl (lv_at hl 0 rfl) ?_
                refine zq_get hx hb hts i_MM hown hK hw h_o rfl 15 (by decide) (hts _ tw_601) rfl d_MM_smooth_254 ?_
                refine lv_iconst (v := iI 1) hx hb d_MM_smooth_257 rfl ?_
                refine zq_iald hx hb hK hw 0 h_fr rfl (by omega) (by omega) (by decide) d_MM_smooth_258 ?_
                rw [hF0, hF1]
                refine zq_callV (As := [.int (iI li), .int (iI uo)]) (rest := []) ⟨hx, hb, hml, hown, hts⟩ (c_MM_join l D K Mq o bd th put wr (nn - 1) cir oN oC lbs fcs arcs mns kn (zot lb (4 * k) (4 * (nn - 1)) 4) F4  li uo h_o hbd h_lb h_fr (zot_in hlb) ⟨by omega, by omega⟩ hFr hili hiuo) (cwV 2 hts (zg_V tw_856 tw_858 ts_55 tw_10 tw_859) rfl rfl rfl (by decide +kernel) ⟨Nat.le_of_ble_eq_true rfl, Nat.le_of_ble_eq_true rfl⟩) hZ hw hA h_o rfl rfl rfl rfl hl.1 (Nat.le_of_ble_eq_true rfl) d_MM_smooth_259 ⟨Nat.le_of_ble_eq_true rfl, Nat.le_of_ble_eq_true rfl⟩ (fun v M11 H locs hp hw => ?_)
                rcases hp with ⟨rfl, hj259, hs0, hs1, hs2, ho⟩ | ⟨rfl, hj259, hs0, hs1, hs2, ho⟩
                · have h_pS : M11 (bd 0) = some (cI (K 0) 12 pS) := (ho _ (zq_ne h_pS h_o (by simp)) (zbd hbd 0 3) (zbd hbd 0 7)).trans h_pS
                  have h_pL : M11 (bd 1) = some (cI (K 0) 48 pL) := (ho _ (zq_ne h_pL h_o (by simp)) (zbd hbd 1 3) (zbd hbd 1 7)).trans h_pL
                  have h_sg : M11 (bd 2) = some (cI (K 0) 12 (zot sg k (nn - 1) 1)) := (ho _ (zq_ne h_sg h_o (by simp)) (zbd hbd 2 3) (zbd hbd 2 7)).trans h_sg
                  have h_oS : M11 (bd 4) = some (cI (K 0) 12 oS) := (ho _ (zq_ne h_oS h_o (by simp)) (Ne.symm (zbd hbd 3 4)) (zbd hbd 4 7)).trans h_oS
                  have h_oL : M11 (bd 5) = some (cI (K 0) 48 oL) := (ho _ (zq_ne h_oL h_o (by simp)) (Ne.symm (zbd hbd 3 5)) (zbd hbd 5 7)).trans h_oL
                  have h_rw : M11 (bd 6) = some (cI (K 0) 48 rw) := (ho _ (zq_ne h_rw h_o (by simp)) (Ne.symm (zbd hbd 3 6)) (zbd hbd 6 7)).trans h_rw
                  have h_pi : M11 (bd 8) = some (cI (K 0) 12 pi) := (ho _ (zq_ne h_pi h_o (by simp)) (Ne.symm (zbd hbd 3 8)) (Ne.symm (zbd hbd 7 8))).trans h_pi
                  have h_fo : M11 (bd 9) = some (cI (K 0) 48 fo) := (ho _ (zq_ne h_fo h_o (by simp)) (Ne.symm (zbd hbd 3 9)) (Ne.symm (zbd hbd 7 9))).trans h_fo
                  have h_al : M11 (bd 10) = some (cI (K 0) 40 al) := (ho _ (zq_ne h_al h_o (by simp)) (Ne.symm (zbd hbd 3 10)) (Ne.symm (zbd hbd 7 10))).trans h_al
                  have h_on : M11 (bd 11) = some (cI (K 0) 384 on) := (ho _ (zq_ne h_on h_o (by simp)) (Ne.symm (zbd hbd 3 11)) (Ne.symm (zbd hbd 7 11))).trans h_on
                  have h_tw : M11 (bd 12) = some (cI (K 0) 384 tw) := (ho _ (zq_ne h_tw h_o (by simp)) (Ne.symm (zbd hbd 3 12)) (Ne.symm (zbd hbd 7 12))).trans h_tw
                  have h_sm : M11 (bd 13) = some (cJ (K 1) 114688 sm) := (ho _ (zq_ne h_sm h_o (by simp)) (Ne.symm (zbd hbd 3 13)) (Ne.symm (zbd hbd 7 13))).trans h_sm
                  have h_av : M11 (bd 14) = some (cJ (K 1) 2100 av) := (ho _ (zq_ne h_av h_o (by simp)) (Ne.symm (zbd hbd 3 14)) (Ne.symm (zbd hbd 7 14))).trans h_av
                  have h_po : M11 (bd 15) = some (cJ (K 1) 14 po) := (ho _ (zq_ne h_po h_o (by simp)) (Ne.symm (zbd hbd 3 15)) (Ne.symm (zbd hbd 7 15))).trans h_po
                  have h_le : M11 (bd 16) = some (cJ (K 1) 28 le) := (ho _ (zq_ne h_le h_o (by simp)) (Ne.symm (zbd hbd 3 16)) (Ne.symm (zbd hbd 7 16))).trans h_le
                  have h_gd : M11 (bd 17) = some (cI (K 0) 384 gd) := (ho _ (zq_ne h_gd h_o (by simp)) (Ne.symm (zbd hbd 3 17)) (Ne.symm (zbd hbd 7 17))).trans h_gd
                  have h_o : M11 o = some (.inr (9, [.int (iI th), .int (iI put), .int (iI wr), .ref (bd 0), .ref (bd 1), .int (iI (nn - 1)), .int (iI (cir + 1)), .int (iI oN), .int (iI oC), .ref (bd 2), .ref (bd 3), .ref (bd 4), .ref (bd 5), .int (iI lbs), .ref (bd 6), .ref (bd 7), .ref (bd 8), .int (iI fcs), .ref (bd 9), .int (iI arcs), .ref (bd 10), .ref (bd 11), .ref (bd 12), .ref (bd 13), .int (iI mns), .ref (bd 14), .ref (bd 15), .ref (bd 16), .int (iI kn), .ref (bd 17)])) := hs0
                  have h_lb : M11 (bd 3) = some (cI (K 0) 48 (zot lb (4 * k) (4 * (nn - 1)) 4)) := hs1
                  have h_fr : M11 (bd 7) = some (cI (K 0) 48 F4) := hs2
                  have hfr : ∀ q, q ≠ o → (∀ i, i < 18 → q ≠ bd i) → M11 q = M q := fun q g0 g1 => (ho q g0 (g1 3 (by decide)) (g1 7 (by decide))).trans (hfr q g0 g1)
                  refine W.eq (g2 := F0 m 262 ls []) rfl ?_
                  refine lv_aload_n hx hb d_MM_smooth_262 rfl (lv_at hl 0 rfl) ?_
                  refine lv_aload_n hx hb d_MM_smooth_263 rfl (lv_at hl 0 rfl) ?_
                  refine zq_get hx hb hts i_MM hown hK hw h_o rfl 15 (by decide) (hts _ tw_601) rfl d_MM_smooth_264 ?_
                  refine lv_iconst (v := iI 2) hx hb d_MM_smooth_267 rfl ?_
                  refine zq_iald hx hb hK hw 0 h_fr rfl (by omega) (by omega) (by decide) d_MM_smooth_268 ?_
                  refine lv_aload_n hx hb d_MM_smooth_269 rfl (lv_at hl 0 rfl) ?_
                  refine zq_get hx hb hts i_MM hown hK hw h_o rfl 15 (by decide) (hts _ tw_601) rfl d_MM_smooth_270 ?_
                  refine lv_iconst (v := iI 3) hx hb d_MM_smooth_273 rfl ?_
                  refine zq_iald hx hb hK hw 0 h_fr rfl (by omega) (by omega) (by decide) d_MM_smooth_274 ?_
                  rw [hF2, hF3]
                  refine zq_callV (As := [.int (iI up), .int (iI lo)]) (rest := []) ⟨hx, hb, hml, hown, hts⟩ (c_MM_join l D K M11 o bd th put wr (nn - 1) (cir + 1) oN oC lbs fcs arcs mns kn (zot lb (4 * k) (4 * (nn - 1)) 4) F4  up lo h_o hbd h_lb h_fr (zot_in hlb) ⟨by omega, by omega⟩ hFr hiup hilo) (cwV 2 hts (zg_V tw_856 tw_858 ts_55 tw_10 tw_859) rfl rfl rfl (by decide +kernel) ⟨Nat.le_of_ble_eq_true rfl, Nat.le_of_ble_eq_true rfl⟩) hZ hw hA h_o rfl rfl rfl rfl hl.1 (Nat.le_of_ble_eq_true rfl) d_MM_smooth_275 ⟨Nat.le_of_ble_eq_true rfl, Nat.le_of_ble_eq_true rfl⟩ (fun v M12 H locs hp hw => ?_)
                  rcases hp with ⟨rfl, hj275, hs0, hs1, hs2, ho⟩ | ⟨rfl, hj275, hs0, hs1, hs2, ho⟩
                  · have h_pS : M12 (bd 0) = some (cI (K 0) 12 pS) := (ho _ (zq_ne h_pS h_o (by simp)) (zbd hbd 0 3) (zbd hbd 0 7)).trans h_pS
                    have h_pL : M12 (bd 1) = some (cI (K 0) 48 pL) := (ho _ (zq_ne h_pL h_o (by simp)) (zbd hbd 1 3) (zbd hbd 1 7)).trans h_pL
                    have h_sg : M12 (bd 2) = some (cI (K 0) 12 (zot sg k (nn - 1) 1)) := (ho _ (zq_ne h_sg h_o (by simp)) (zbd hbd 2 3) (zbd hbd 2 7)).trans h_sg
                    have h_oS : M12 (bd 4) = some (cI (K 0) 12 oS) := (ho _ (zq_ne h_oS h_o (by simp)) (Ne.symm (zbd hbd 3 4)) (zbd hbd 4 7)).trans h_oS
                    have h_oL : M12 (bd 5) = some (cI (K 0) 48 oL) := (ho _ (zq_ne h_oL h_o (by simp)) (Ne.symm (zbd hbd 3 5)) (zbd hbd 5 7)).trans h_oL
                    have h_rw : M12 (bd 6) = some (cI (K 0) 48 rw) := (ho _ (zq_ne h_rw h_o (by simp)) (Ne.symm (zbd hbd 3 6)) (zbd hbd 6 7)).trans h_rw
                    have h_pi : M12 (bd 8) = some (cI (K 0) 12 pi) := (ho _ (zq_ne h_pi h_o (by simp)) (Ne.symm (zbd hbd 3 8)) (Ne.symm (zbd hbd 7 8))).trans h_pi
                    have h_fo : M12 (bd 9) = some (cI (K 0) 48 fo) := (ho _ (zq_ne h_fo h_o (by simp)) (Ne.symm (zbd hbd 3 9)) (Ne.symm (zbd hbd 7 9))).trans h_fo
                    have h_al : M12 (bd 10) = some (cI (K 0) 40 al) := (ho _ (zq_ne h_al h_o (by simp)) (Ne.symm (zbd hbd 3 10)) (Ne.symm (zbd hbd 7 10))).trans h_al
                    have h_on : M12 (bd 11) = some (cI (K 0) 384 on) := (ho _ (zq_ne h_on h_o (by simp)) (Ne.symm (zbd hbd 3 11)) (Ne.symm (zbd hbd 7 11))).trans h_on
                    have h_tw : M12 (bd 12) = some (cI (K 0) 384 tw) := (ho _ (zq_ne h_tw h_o (by simp)) (Ne.symm (zbd hbd 3 12)) (Ne.symm (zbd hbd 7 12))).trans h_tw
                    have h_sm : M12 (bd 13) = some (cJ (K 1) 114688 sm) := (ho _ (zq_ne h_sm h_o (by simp)) (Ne.symm (zbd hbd 3 13)) (Ne.symm (zbd hbd 7 13))).trans h_sm
                    have h_av : M12 (bd 14) = some (cJ (K 1) 2100 av) := (ho _ (zq_ne h_av h_o (by simp)) (Ne.symm (zbd hbd 3 14)) (Ne.symm (zbd hbd 7 14))).trans h_av
                    have h_po : M12 (bd 15) = some (cJ (K 1) 14 po) := (ho _ (zq_ne h_po h_o (by simp)) (Ne.symm (zbd hbd 3 15)) (Ne.symm (zbd hbd 7 15))).trans h_po
                    have h_le : M12 (bd 16) = some (cJ (K 1) 28 le) := (ho _ (zq_ne h_le h_o (by simp)) (Ne.symm (zbd hbd 3 16)) (Ne.symm (zbd hbd 7 16))).trans h_le
                    have h_gd : M12 (bd 17) = some (cI (K 0) 384 gd) := (ho _ (zq_ne h_gd h_o (by simp)) (Ne.symm (zbd hbd 3 17)) (Ne.symm (zbd hbd 7 17))).trans h_gd
                    have h_o : M12 o = some (.inr (9, [.int (iI th), .int (iI put), .int (iI wr), .ref (bd 0), .ref (bd 1), .int (iI (nn - 1)), .int (iI (cir + 1 + 1)), .int (iI oN), .int (iI oC), .ref (bd 2), .ref (bd 3), .ref (bd 4), .ref (bd 5), .int (iI lbs), .ref (bd 6), .ref (bd 7), .ref (bd 8), .int (iI fcs), .ref (bd 9), .int (iI arcs), .ref (bd 10), .ref (bd 11), .ref (bd 12), .ref (bd 13), .int (iI mns), .ref (bd 14), .ref (bd 15), .ref (bd 16), .int (iI kn), .ref (bd 17)])) := hs0
                    have h_lb : M12 (bd 3) = some (cI (K 0) 48 (zot lb (4 * k) (4 * (nn - 1)) 4)) := hs1
                    have h_fr : M12 (bd 7) = some (cI (K 0) 48 F4) := hs2
                    have hfr : ∀ q, q ≠ o → (∀ i, i < 18 → q ≠ bd i) → M12 q = M q := fun q g0 g1 => (ho q g0 (g1 3 (by decide)) (g1 7 (by decide))).trans (hfr q g0 g1)
                    refine W.eq (g2 := F0 m 278 ls []) rfl ?_
                    refine lv_aload_n hx hb d_MM_smooth_278 rfl (lv_at hl 0 rfl) ?_
                    refine lv_iconst (v := iI 0) hx hb d_MM_smooth_279 rfl ?_
                    refine zq_put (ci := 9) (v := .int (iI 0)) (ty := .boolean) hx hb hts i_MM t_MM t_MM_ok n_MM hown hK hw h_o rfl 28 (by decide) (hts _ tw_614) rfl (by decide +kernel) rfl rfl (Nat.le_of_ble_eq_true rfl) d_MM_smooth_280 (fun M13 H locs hs ho hw => ?_)
                    have h_pS : M13 (bd 0) = some (cI (K 0) 12 pS) := (ho _ (zq_ne h_pS h_o (by simp))).trans h_pS
                    have h_pL : M13 (bd 1) = some (cI (K 0) 48 pL) := (ho _ (zq_ne h_pL h_o (by simp))).trans h_pL
                    have h_sg : M13 (bd 2) = some (cI (K 0) 12 (zot sg k (nn - 1) 1)) := (ho _ (zq_ne h_sg h_o (by simp))).trans h_sg
                    have h_lb : M13 (bd 3) = some (cI (K 0) 48 (zot lb (4 * k) (4 * (nn - 1)) 4)) := (ho _ (zq_ne h_lb h_o (by simp))).trans h_lb
                    have h_oS : M13 (bd 4) = some (cI (K 0) 12 oS) := (ho _ (zq_ne h_oS h_o (by simp))).trans h_oS
                    have h_oL : M13 (bd 5) = some (cI (K 0) 48 oL) := (ho _ (zq_ne h_oL h_o (by simp))).trans h_oL
                    have h_rw : M13 (bd 6) = some (cI (K 0) 48 rw) := (ho _ (zq_ne h_rw h_o (by simp))).trans h_rw
                    have h_fr : M13 (bd 7) = some (cI (K 0) 48 F4) := (ho _ (zq_ne h_fr h_o (by simp))).trans h_fr
                    have h_pi : M13 (bd 8) = some (cI (K 0) 12 pi) := (ho _ (zq_ne h_pi h_o (by simp))).trans h_pi
                    have h_fo : M13 (bd 9) = some (cI (K 0) 48 fo) := (ho _ (zq_ne h_fo h_o (by simp))).trans h_fo
                    have h_al : M13 (bd 10) = some (cI (K 0) 40 al) := (ho _ (zq_ne h_al h_o (by simp))).trans h_al
                    have h_on : M13 (bd 11) = some (cI (K 0) 384 on) := (ho _ (zq_ne h_on h_o (by simp))).trans h_on
                    have h_tw : M13 (bd 12) = some (cI (K 0) 384 tw) := (ho _ (zq_ne h_tw h_o (by simp))).trans h_tw
                    have h_sm : M13 (bd 13) = some (cJ (K 1) 114688 sm) := (ho _ (zq_ne h_sm h_o (by simp))).trans h_sm
                    have h_av : M13 (bd 14) = some (cJ (K 1) 2100 av) := (ho _ (zq_ne h_av h_o (by simp))).trans h_av
                    have h_po : M13 (bd 15) = some (cJ (K 1) 14 po) := (ho _ (zq_ne h_po h_o (by simp))).trans h_po
                    have h_le : M13 (bd 16) = some (cJ (K 1) 28 le) := (ho _ (zq_ne h_le h_o (by simp))).trans h_le
                    have h_gd : M13 (bd 17) = some (cI (K 0) 384 gd) := (ho _ (zq_ne h_gd h_o (by simp))).trans h_gd
                    have h_o : M13 o = some (.inr (9, [.int (iI th), .int (iI put), .int (iI wr), .ref (bd 0), .ref (bd 1), .int (iI (nn - 1)), .int (iI (cir + 1 + 1)), .int (iI oN), .int (iI oC), .ref (bd 2), .ref (bd 3), .ref (bd 4), .ref (bd 5), .int (iI lbs), .ref (bd 6), .ref (bd 7), .ref (bd 8), .int (iI fcs), .ref (bd 9), .int (iI arcs), .ref (bd 10), .ref (bd 11), .ref (bd 12), .ref (bd 13), .int (iI mns), .ref (bd 14), .ref (bd 15), .ref (bd 16), .int (iI 0), .ref (bd 17)])) := hs
                    have hfr : ∀ q, q ≠ o → (∀ i, i < 18 → q ≠ bd i) → M13 q = M q := fun q g0 g1 => (ho q g0).trans (hfr q g0 g1)
                    refine lv_iconst (v := iI 1) hx hb d_MM_smooth_283 rfl ?_
                    exact zq_zret hx hb hr rfl hlocks hZ hw ⟨1, rfl, Or.inr ⟨⟨⟨by omega, by omega⟩, (by rw [← hli, ← hbg, ← huo, ← hup, ← hlo, ← hmy]; omega)⟩, rfl, _, _, bg, hbg, (by rw [← hli, ← huo, ← hup, ← hlo]; exact ⟨_, _, _, _, Or.inl ⟨hj259, rfl, rfl, rfl, rfl⟩, Or.inl ⟨hj275, rfl, rfl⟩⟩), ⟨_, _, _, _, _, _, _, _, _, _, _, _, _, _, _, h_o, hbd, h_pS, h_pL, h_sg, h_lb, h_oS, h_oL, h_rw, h_fr, h_pi, h_fo, h_al, h_on, h_tw, h_sm, h_av, h_po, h_le, h_gd, fun j => ⟨hpS j, hpL j, (zot_in hsg) j, (zot_in hlb) j, hoS j, hoL j, hrw j, hfo j, hal j⟩⟩, hfr⟩⟩ d_MM_smooth_284
                  · have h_pS : M12 (bd 0) = some (cI (K 0) 12 pS) := (ho _ (zq_ne h_pS h_o (by simp)) (zbd hbd 0 3) (zbd hbd 0 7)).trans h_pS
                    have h_pL : M12 (bd 1) = some (cI (K 0) 48 pL) := (ho _ (zq_ne h_pL h_o (by simp)) (zbd hbd 1 3) (zbd hbd 1 7)).trans h_pL
                    have h_sg : M12 (bd 2) = some (cI (K 0) 12 (zot sg k (nn - 1) 1)) := (ho _ (zq_ne h_sg h_o (by simp)) (zbd hbd 2 3) (zbd hbd 2 7)).trans h_sg
                    have h_oS : M12 (bd 4) = some (cI (K 0) 12 oS) := (ho _ (zq_ne h_oS h_o (by simp)) (Ne.symm (zbd hbd 3 4)) (zbd hbd 4 7)).trans h_oS
                    have h_oL : M12 (bd 5) = some (cI (K 0) 48 oL) := (ho _ (zq_ne h_oL h_o (by simp)) (Ne.symm (zbd hbd 3 5)) (zbd hbd 5 7)).trans h_oL
                    have h_rw : M12 (bd 6) = some (cI (K 0) 48 rw) := (ho _ (zq_ne h_rw h_o (by simp)) (Ne.symm (zbd hbd 3 6)) (zbd hbd 6 7)).trans h_rw
                    have h_pi : M12 (bd 8) = some (cI (K 0) 12 pi) := (ho _ (zq_ne h_pi h_o (by simp)) (Ne.symm (zbd hbd 3 8)) (Ne.symm (zbd hbd 7 8))).trans h_pi
                    have h_fo : M12 (bd 9) = some (cI (K 0) 48 fo) := (ho _ (zq_ne h_fo h_o (by simp)) (Ne.symm (zbd hbd 3 9)) (Ne.symm (zbd hbd 7 9))).trans h_fo
                    have h_al : M12 (bd 10) = some (cI (K 0) 40 al) := (ho _ (zq_ne h_al h_o (by simp)) (Ne.symm (zbd hbd 3 10)) (Ne.symm (zbd hbd 7 10))).trans h_al
                    have h_on : M12 (bd 11) = some (cI (K 0) 384 on) := (ho _ (zq_ne h_on h_o (by simp)) (Ne.symm (zbd hbd 3 11)) (Ne.symm (zbd hbd 7 11))).trans h_on
                    have h_tw : M12 (bd 12) = some (cI (K 0) 384 tw) := (ho _ (zq_ne h_tw h_o (by simp)) (Ne.symm (zbd hbd 3 12)) (Ne.symm (zbd hbd 7 12))).trans h_tw
                    have h_sm : M12 (bd 13) = some (cJ (K 1) 114688 sm) := (ho _ (zq_ne h_sm h_o (by simp)) (Ne.symm (zbd hbd 3 13)) (Ne.symm (zbd hbd 7 13))).trans h_sm
                    have h_av : M12 (bd 14) = some (cJ (K 1) 2100 av) := (ho _ (zq_ne h_av h_o (by simp)) (Ne.symm (zbd hbd 3 14)) (Ne.symm (zbd hbd 7 14))).trans h_av
                    have h_po : M12 (bd 15) = some (cJ (K 1) 14 po) := (ho _ (zq_ne h_po h_o (by simp)) (Ne.symm (zbd hbd 3 15)) (Ne.symm (zbd hbd 7 15))).trans h_po
                    have h_le : M12 (bd 16) = some (cJ (K 1) 28 le) := (ho _ (zq_ne h_le h_o (by simp)) (Ne.symm (zbd hbd 3 16)) (Ne.symm (zbd hbd 7 16))).trans h_le
                    have h_gd : M12 (bd 17) = some (cI (K 0) 384 gd) := (ho _ (zq_ne h_gd h_o (by simp)) (Ne.symm (zbd hbd 3 17)) (Ne.symm (zbd hbd 7 17))).trans h_gd
                    have h_o : M12 o = some (.inr (9, [.int (iI th), .int (iI put), .int (iI wr), .ref (bd 0), .ref (bd 1), .int (iI (nn - 1)), .int (iI (cir + 1)), .int (iI oN), .int (iI oC), .ref (bd 2), .ref (bd 3), .ref (bd 4), .ref (bd 5), .int (iI lbs), .ref (bd 6), .ref (bd 7), .ref (bd 8), .int (iI fcs), .ref (bd 9), .int (iI arcs), .ref (bd 10), .ref (bd 11), .ref (bd 12), .ref (bd 13), .int (iI mns), .ref (bd 14), .ref (bd 15), .ref (bd 16), .int (iI kn), .ref (bd 17)])) := hs0
                    have h_lb : M12 (bd 3) = some (cI (K 0) 48 (zrn (zot lb (4 * k) (4 * (nn - 1)) 4) (4 * (nn - 1)) (zmx up lo) (zmi up lo))) := hs1
                    have h_fr : M12 (bd 7) = some (cI (K 0) 48 (zrn F4 4 (zmx up lo) (zmi up lo))) := hs2
                    have hfr : ∀ q, q ≠ o → (∀ i, i < 18 → q ≠ bd i) → M12 q = M q := fun q g0 g1 => (ho q g0 (g1 3 (by decide)) (g1 7 (by decide))).trans (hfr q g0 g1)
                    refine W.eq (g2 := F0 m 278 ls []) rfl ?_
                    refine lv_aload_n hx hb d_MM_smooth_278 rfl (lv_at hl 0 rfl) ?_
                    refine lv_iconst (v := iI 0) hx hb d_MM_smooth_279 rfl ?_
                    refine zq_put (ci := 9) (v := .int (iI 0)) (ty := .boolean) hx hb hts i_MM t_MM t_MM_ok n_MM hown hK hw h_o rfl 28 (by decide) (hts _ tw_614) rfl (by decide +kernel) rfl rfl (Nat.le_of_ble_eq_true rfl) d_MM_smooth_280 (fun M14 H locs hs ho hw => ?_)
                    have h_pS : M14 (bd 0) = some (cI (K 0) 12 pS) := (ho _ (zq_ne h_pS h_o (by simp))).trans h_pS
                    have h_pL : M14 (bd 1) = some (cI (K 0) 48 pL) := (ho _ (zq_ne h_pL h_o (by simp))).trans h_pL
                    have h_sg : M14 (bd 2) = some (cI (K 0) 12 (zot sg k (nn - 1) 1)) := (ho _ (zq_ne h_sg h_o (by simp))).trans h_sg
                    have h_lb : M14 (bd 3) = some (cI (K 0) 48 (zrn (zot lb (4 * k) (4 * (nn - 1)) 4) (4 * (nn - 1)) (zmx up lo) (zmi up lo))) := (ho _ (zq_ne h_lb h_o (by simp))).trans h_lb
                    have h_oS : M14 (bd 4) = some (cI (K 0) 12 oS) := (ho _ (zq_ne h_oS h_o (by simp))).trans h_oS
                    have h_oL : M14 (bd 5) = some (cI (K 0) 48 oL) := (ho _ (zq_ne h_oL h_o (by simp))).trans h_oL
                    have h_rw : M14 (bd 6) = some (cI (K 0) 48 rw) := (ho _ (zq_ne h_rw h_o (by simp))).trans h_rw
                    have h_fr : M14 (bd 7) = some (cI (K 0) 48 (zrn F4 4 (zmx up lo) (zmi up lo))) := (ho _ (zq_ne h_fr h_o (by simp))).trans h_fr
                    have h_pi : M14 (bd 8) = some (cI (K 0) 12 pi) := (ho _ (zq_ne h_pi h_o (by simp))).trans h_pi
                    have h_fo : M14 (bd 9) = some (cI (K 0) 48 fo) := (ho _ (zq_ne h_fo h_o (by simp))).trans h_fo
                    have h_al : M14 (bd 10) = some (cI (K 0) 40 al) := (ho _ (zq_ne h_al h_o (by simp))).trans h_al
                    have h_on : M14 (bd 11) = some (cI (K 0) 384 on) := (ho _ (zq_ne h_on h_o (by simp))).trans h_on
                    have h_tw : M14 (bd 12) = some (cI (K 0) 384 tw) := (ho _ (zq_ne h_tw h_o (by simp))).trans h_tw
                    have h_sm : M14 (bd 13) = some (cJ (K 1) 114688 sm) := (ho _ (zq_ne h_sm h_o (by simp))).trans h_sm
                    have h_av : M14 (bd 14) = some (cJ (K 1) 2100 av) := (ho _ (zq_ne h_av h_o (by simp))).trans h_av
                    have h_po : M14 (bd 15) = some (cJ (K 1) 14 po) := (ho _ (zq_ne h_po h_o (by simp))).trans h_po
                    have h_le : M14 (bd 16) = some (cJ (K 1) 28 le) := (ho _ (zq_ne h_le h_o (by simp))).trans h_le
                    have h_gd : M14 (bd 17) = some (cI (K 0) 384 gd) := (ho _ (zq_ne h_gd h_o (by simp))).trans h_gd
                    have h_o : M14 o = some (.inr (9, [.int (iI th), .int (iI put), .int (iI wr), .ref (bd 0), .ref (bd 1), .int (iI (nn - 1)), .int (iI (cir + 1)), .int (iI oN), .int (iI oC), .ref (bd 2), .ref (bd 3), .ref (bd 4), .ref (bd 5), .int (iI lbs), .ref (bd 6), .ref (bd 7), .ref (bd 8), .int (iI fcs), .ref (bd 9), .int (iI arcs), .ref (bd 10), .ref (bd 11), .ref (bd 12), .ref (bd 13), .int (iI mns), .ref (bd 14), .ref (bd 15), .ref (bd 16), .int (iI 0), .ref (bd 17)])) := hs
                    have hfr : ∀ q, q ≠ o → (∀ i, i < 18 → q ≠ bd i) → M14 q = M q := fun q g0 g1 => (ho q g0).trans (hfr q g0 g1)
                    refine lv_iconst (v := iI 1) hx hb d_MM_smooth_283 rfl ?_
                    exact zq_zret hx hb hr rfl hlocks hZ hw ⟨1, rfl, Or.inr ⟨⟨⟨by omega, by omega⟩, (by rw [← hli, ← hbg, ← huo, ← hup, ← hlo, ← hmy]; omega)⟩, rfl, _, _, bg, hbg, (by rw [← hli, ← huo, ← hup, ← hlo]; exact ⟨_, _, _, _, Or.inl ⟨hj259, rfl, rfl, rfl, rfl⟩, Or.inr ⟨hj275, rfl, rfl⟩⟩), ⟨_, _, _, _, _, _, _, _, _, _, _, _, _, _, _, h_o, hbd, h_pS, h_pL, h_sg, h_lb, h_oS, h_oL, h_rw, h_fr, h_pi, h_fo, h_al, h_on, h_tw, h_sm, h_av, h_po, h_le, h_gd, fun j => ⟨hpS j, hpL j, (zot_in hsg) j, (zrn_in (zot_in hlb) (zmi_in hiup hilo)) j, hoS j, hoL j, hrw j, hfo j, hal j⟩⟩, hfr⟩⟩ d_MM_smooth_284
                · have h_pS : M11 (bd 0) = some (cI (K 0) 12 pS) := (ho _ (zq_ne h_pS h_o (by simp)) (zbd hbd 0 3) (zbd hbd 0 7)).trans h_pS
                  have h_pL : M11 (bd 1) = some (cI (K 0) 48 pL) := (ho _ (zq_ne h_pL h_o (by simp)) (zbd hbd 1 3) (zbd hbd 1 7)).trans h_pL
                  have h_sg : M11 (bd 2) = some (cI (K 0) 12 (zot sg k (nn - 1) 1)) := (ho _ (zq_ne h_sg h_o (by simp)) (zbd hbd 2 3) (zbd hbd 2 7)).trans h_sg
                  have h_oS : M11 (bd 4) = some (cI (K 0) 12 oS) := (ho _ (zq_ne h_oS h_o (by simp)) (Ne.symm (zbd hbd 3 4)) (zbd hbd 4 7)).trans h_oS
                  have h_oL : M11 (bd 5) = some (cI (K 0) 48 oL) := (ho _ (zq_ne h_oL h_o (by simp)) (Ne.symm (zbd hbd 3 5)) (zbd hbd 5 7)).trans h_oL
                  have h_rw : M11 (bd 6) = some (cI (K 0) 48 rw) := (ho _ (zq_ne h_rw h_o (by simp)) (Ne.symm (zbd hbd 3 6)) (zbd hbd 6 7)).trans h_rw
                  have h_pi : M11 (bd 8) = some (cI (K 0) 12 pi) := (ho _ (zq_ne h_pi h_o (by simp)) (Ne.symm (zbd hbd 3 8)) (Ne.symm (zbd hbd 7 8))).trans h_pi
                  have h_fo : M11 (bd 9) = some (cI (K 0) 48 fo) := (ho _ (zq_ne h_fo h_o (by simp)) (Ne.symm (zbd hbd 3 9)) (Ne.symm (zbd hbd 7 9))).trans h_fo
                  have h_al : M11 (bd 10) = some (cI (K 0) 40 al) := (ho _ (zq_ne h_al h_o (by simp)) (Ne.symm (zbd hbd 3 10)) (Ne.symm (zbd hbd 7 10))).trans h_al
                  have h_on : M11 (bd 11) = some (cI (K 0) 384 on) := (ho _ (zq_ne h_on h_o (by simp)) (Ne.symm (zbd hbd 3 11)) (Ne.symm (zbd hbd 7 11))).trans h_on
                  have h_tw : M11 (bd 12) = some (cI (K 0) 384 tw) := (ho _ (zq_ne h_tw h_o (by simp)) (Ne.symm (zbd hbd 3 12)) (Ne.symm (zbd hbd 7 12))).trans h_tw
                  have h_sm : M11 (bd 13) = some (cJ (K 1) 114688 sm) := (ho _ (zq_ne h_sm h_o (by simp)) (Ne.symm (zbd hbd 3 13)) (Ne.symm (zbd hbd 7 13))).trans h_sm
                  have h_av : M11 (bd 14) = some (cJ (K 1) 2100 av) := (ho _ (zq_ne h_av h_o (by simp)) (Ne.symm (zbd hbd 3 14)) (Ne.symm (zbd hbd 7 14))).trans h_av
                  have h_po : M11 (bd 15) = some (cJ (K 1) 14 po) := (ho _ (zq_ne h_po h_o (by simp)) (Ne.symm (zbd hbd 3 15)) (Ne.symm (zbd hbd 7 15))).trans h_po
                  have h_le : M11 (bd 16) = some (cJ (K 1) 28 le) := (ho _ (zq_ne h_le h_o (by simp)) (Ne.symm (zbd hbd 3 16)) (Ne.symm (zbd hbd 7 16))).trans h_le
                  have h_gd : M11 (bd 17) = some (cI (K 0) 384 gd) := (ho _ (zq_ne h_gd h_o (by simp)) (Ne.symm (zbd hbd 3 17)) (Ne.symm (zbd hbd 7 17))).trans h_gd
                  have h_o : M11 o = some (.inr (9, [.int (iI th), .int (iI put), .int (iI wr), .ref (bd 0), .ref (bd 1), .int (iI (nn - 1)), .int (iI cir), .int (iI oN), .int (iI oC), .ref (bd 2), .ref (bd 3), .ref (bd 4), .ref (bd 5), .int (iI lbs), .ref (bd 6), .ref (bd 7), .ref (bd 8), .int (iI fcs), .ref (bd 9), .int (iI arcs), .ref (bd 10), .ref (bd 11), .ref (bd 12), .ref (bd 13), .int (iI mns), .ref (bd 14), .ref (bd 15), .ref (bd 16), .int (iI kn), .ref (bd 17)])) := hs0
                  have h_lb : M11 (bd 3) = some (cI (K 0) 48 (zrn (zot lb (4 * k) (4 * (nn - 1)) 4) (4 * (nn - 1)) (zmx li uo) (zmi li uo))) := hs1
                  have h_fr : M11 (bd 7) = some (cI (K 0) 48 (zrn F4 4 (zmx li uo) (zmi li uo))) := hs2
                  have hfr : ∀ q, q ≠ o → (∀ i, i < 18 → q ≠ bd i) → M11 q = M q := fun q g0 g1 => (ho q g0 (g1 3 (by decide)) (g1 7 (by decide))).trans (hfr q g0 g1)
                  refine W.eq (g2 := F0 m 262 ls []) rfl ?_
                  refine lv_aload_n hx hb d_MM_smooth_262 rfl (lv_at hl 0 rfl) ?_
                  refine lv_aload_n hx hb d_MM_smooth_263 rfl (lv_at hl 0 rfl) ?_
                  refine zq_get hx hb hts i_MM hown hK hw h_o rfl 15 (by decide) (hts _ tw_601) rfl d_MM_smooth_264 ?_
                  refine lv_iconst (v := iI 2) hx hb d_MM_smooth_267 rfl ?_
                  refine zq_iald hx hb hK hw 0 h_fr rfl (by omega) (by omega) (by decide) d_MM_smooth_268 ?_
                  refine lv_aload_n hx hb d_MM_smooth_269 rfl (lv_at hl 0 rfl) ?_
                  refine zq_get hx hb hts i_MM hown hK hw h_o rfl 15 (by decide) (hts _ tw_601) rfl d_MM_smooth_270 ?_
                  refine lv_iconst (v := iI 3) hx hb d_MM_smooth_273 rfl ?_
                  refine zq_iald hx hb hK hw 0 h_fr rfl (by omega) (by omega) (by decide) d_MM_smooth_274 ?_
                  obtain ⟨c9, hc9⟩ : ∃ z : Int, z = (zrn F4 4 (zmx li uo) (zmi li uo)) 2 := ⟨_, rfl⟩
                  rw [← hc9]
                  have hc9 : c9 = if up = zmx li uo then zmi li uo else up := by rw [hc9]; unfold zrn; rw [hF2]; by_cases q : up = zmx li uo; rw [if_pos ⟨⟨by decide, by decide⟩, q⟩, if_pos q]; rw [if_neg (fun w => q w.2), if_neg q]
                  obtain ⟨d9, hd9⟩ : ∃ z : Int, z = (zrn F4 4 (zmx li uo) (zmi li uo)) 3 := ⟨_, rfl⟩
                  rw [← hd9]
                  have hd9 : d9 = if lo = zmx li uo then zmi li uo else lo := by rw [hd9]; unfold zrn; rw [hF3]; by_cases q : lo = zmx li uo; rw [if_pos ⟨⟨by decide, by decide⟩, q⟩, if_pos q]; rw [if_neg (fun w => q w.2), if_neg q]
                  have hic9 : inI c9 := by rw [hc9]; split; exact zmi_in hili hiuo; exact hiup
                  have hid9 : inI d9 := by rw [hd9]; split; exact zmi_in hili hiuo; exact hilo
                  refine zq_callV (As := [.int (iI c9), .int (iI d9)]) (rest := []) ⟨hx, hb, hml, hown, hts⟩ (c_MM_join l D K M11 o bd th put wr (nn - 1) cir oN oC lbs fcs arcs mns kn (zrn (zot lb (4 * k) (4 * (nn - 1)) 4) (4 * (nn - 1)) (zmx li uo) (zmi li uo)) (zrn F4 4 (zmx li uo) (zmi li uo))  c9 d9 h_o hbd h_lb h_fr (zrn_in (zot_in hlb) (zmi_in hili hiuo)) ⟨by omega, by omega⟩ (fun z h1 h2 => by unfold zrn; split; exact zmi_in hili hiuo; exact hFr z h1 h2) hic9 hid9) (cwV 2 hts (zg_V tw_856 tw_858 ts_55 tw_10 tw_859) rfl rfl rfl (by decide +kernel) ⟨Nat.le_of_ble_eq_true rfl, Nat.le_of_ble_eq_true rfl⟩) hZ hw hA h_o rfl rfl rfl rfl hl.1 (Nat.le_of_ble_eq_true rfl) d_MM_smooth_275 ⟨Nat.le_of_ble_eq_true rfl, Nat.le_of_ble_eq_true rfl⟩ (fun v M15 H locs hp hw => ?_)
                  rcases hp with ⟨rfl, hj275, hs0, hs1, hs2, ho⟩ | ⟨rfl, hj275, hs0, hs1, hs2, ho⟩
                  · have h_pS : M15 (bd 0) = some (cI (K 0) 12 pS) := (ho _ (zq_ne h_pS h_o (by simp)) (zbd hbd 0 3) (zbd hbd 0 7)).trans h_pS
                    have h_pL : M15 (bd 1) = some (cI (K 0) 48 pL) := (ho _ (zq_ne h_pL h_o (by simp)) (zbd hbd 1 3) (zbd hbd 1 7)).trans h_pL
                    have h_sg : M15 (bd 2) = some (cI (K 0) 12 (zot sg k (nn - 1) 1)) := (ho _ (zq_ne h_sg h_o (by simp)) (zbd hbd 2 3) (zbd hbd 2 7)).trans h_sg
                    have h_oS : M15 (bd 4) = some (cI (K 0) 12 oS) := (ho _ (zq_ne h_oS h_o (by simp)) (Ne.symm (zbd hbd 3 4)) (zbd hbd 4 7)).trans h_oS
                    have h_oL : M15 (bd 5) = some (cI (K 0) 48 oL) := (ho _ (zq_ne h_oL h_o (by simp)) (Ne.symm (zbd hbd 3 5)) (zbd hbd 5 7)).trans h_oL
                    have h_rw : M15 (bd 6) = some (cI (K 0) 48 rw) := (ho _ (zq_ne h_rw h_o (by simp)) (Ne.symm (zbd hbd 3 6)) (zbd hbd 6 7)).trans h_rw
                    have h_pi : M15 (bd 8) = some (cI (K 0) 12 pi) := (ho _ (zq_ne h_pi h_o (by simp)) (Ne.symm (zbd hbd 3 8)) (Ne.symm (zbd hbd 7 8))).trans h_pi
                    have h_fo : M15 (bd 9) = some (cI (K 0) 48 fo) := (ho _ (zq_ne h_fo h_o (by simp)) (Ne.symm (zbd hbd 3 9)) (Ne.symm (zbd hbd 7 9))).trans h_fo
                    have h_al : M15 (bd 10) = some (cI (K 0) 40 al) := (ho _ (zq_ne h_al h_o (by simp)) (Ne.symm (zbd hbd 3 10)) (Ne.symm (zbd hbd 7 10))).trans h_al
                    have h_on : M15 (bd 11) = some (cI (K 0) 384 on) := (ho _ (zq_ne h_on h_o (by simp)) (Ne.symm (zbd hbd 3 11)) (Ne.symm (zbd hbd 7 11))).trans h_on
                    have h_tw : M15 (bd 12) = some (cI (K 0) 384 tw) := (ho _ (zq_ne h_tw h_o (by simp)) (Ne.symm (zbd hbd 3 12)) (Ne.symm (zbd hbd 7 12))).trans h_tw
                    have h_sm : M15 (bd 13) = some (cJ (K 1) 114688 sm) := (ho _ (zq_ne h_sm h_o (by simp)) (Ne.symm (zbd hbd 3 13)) (Ne.symm (zbd hbd 7 13))).trans h_sm
                    have h_av : M15 (bd 14) = some (cJ (K 1) 2100 av) := (ho _ (zq_ne h_av h_o (by simp)) (Ne.symm (zbd hbd 3 14)) (Ne.symm (zbd hbd 7 14))).trans h_av
                    have h_po : M15 (bd 15) = some (cJ (K 1) 14 po) := (ho _ (zq_ne h_po h_o (by simp)) (Ne.symm (zbd hbd 3 15)) (Ne.symm (zbd hbd 7 15))).trans h_po
                    have h_le : M15 (bd 16) = some (cJ (K 1) 28 le) := (ho _ (zq_ne h_le h_o (by simp)) (Ne.symm (zbd hbd 3 16)) (Ne.symm (zbd hbd 7 16))).trans h_le
                    have h_gd : M15 (bd 17) = some (cI (K 0) 384 gd) := (ho _ (zq_ne h_gd h_o (by simp)) (Ne.symm (zbd hbd 3 17)) (Ne.symm (zbd hbd 7 17))).trans h_gd
                    have h_o : M15 o = some (.inr (9, [.int (iI th), .int (iI put), .int (iI wr), .ref (bd 0), .ref (bd 1), .int (iI (nn - 1)), .int (iI (cir + 1)), .int (iI oN), .int (iI oC), .ref (bd 2), .ref (bd 3), .ref (bd 4), .ref (bd 5), .int (iI lbs), .ref (bd 6), .ref (bd 7), .ref (bd 8), .int (iI fcs), .ref (bd 9), .int (iI arcs), .ref (bd 10), .ref (bd 11), .ref (bd 12), .ref (bd 13), .int (iI mns), .ref (bd 14), .ref (bd 15), .ref (bd 16), .int (iI kn), .ref (bd 17)])) := hs0
                    have h_lb : M15 (bd 3) = some (cI (K 0) 48 (zrn (zot lb (4 * k) (4 * (nn - 1)) 4) (4 * (nn - 1)) (zmx li uo) (zmi li uo))) := hs1
                    have h_fr : M15 (bd 7) = some (cI (K 0) 48 (zrn F4 4 (zmx li uo) (zmi li uo))) := hs2
                    have hfr : ∀ q, q ≠ o → (∀ i, i < 18 → q ≠ bd i) → M15 q = M q := fun q g0 g1 => (ho q g0 (g1 3 (by decide)) (g1 7 (by decide))).trans (hfr q g0 g1)
                    refine W.eq (g2 := F0 m 278 ls []) rfl ?_
                    refine lv_aload_n hx hb d_MM_smooth_278 rfl (lv_at hl 0 rfl) ?_
                    refine lv_iconst (v := iI 0) hx hb d_MM_smooth_279 rfl ?_
                    refine zq_put (ci := 9) (v := .int (iI 0)) (ty := .boolean) hx hb hts i_MM t_MM t_MM_ok n_MM hown hK hw h_o rfl 28 (by decide) (hts _ tw_614) rfl (by decide +kernel) rfl rfl (Nat.le_of_ble_eq_true rfl) d_MM_smooth_280 (fun M16 H locs hs ho hw => ?_)
                    have h_pS : M16 (bd 0) = some (cI (K 0) 12 pS) := (ho _ (zq_ne h_pS h_o (by simp))).trans h_pS
                    have h_pL : M16 (bd 1) = some (cI (K 0) 48 pL) := (ho _ (zq_ne h_pL h_o (by simp))).trans h_pL
                    have h_sg : M16 (bd 2) = some (cI (K 0) 12 (zot sg k (nn - 1) 1)) := (ho _ (zq_ne h_sg h_o (by simp))).trans h_sg
                    have h_lb : M16 (bd 3) = some (cI (K 0) 48 (zrn (zot lb (4 * k) (4 * (nn - 1)) 4) (4 * (nn - 1)) (zmx li uo) (zmi li uo))) := (ho _ (zq_ne h_lb h_o (by simp))).trans h_lb
                    have h_oS : M16 (bd 4) = some (cI (K 0) 12 oS) := (ho _ (zq_ne h_oS h_o (by simp))).trans h_oS
                    have h_oL : M16 (bd 5) = some (cI (K 0) 48 oL) := (ho _ (zq_ne h_oL h_o (by simp))).trans h_oL
                    have h_rw : M16 (bd 6) = some (cI (K 0) 48 rw) := (ho _ (zq_ne h_rw h_o (by simp))).trans h_rw
                    have h_fr : M16 (bd 7) = some (cI (K 0) 48 (zrn F4 4 (zmx li uo) (zmi li uo))) := (ho _ (zq_ne h_fr h_o (by simp))).trans h_fr
                    have h_pi : M16 (bd 8) = some (cI (K 0) 12 pi) := (ho _ (zq_ne h_pi h_o (by simp))).trans h_pi
                    have h_fo : M16 (bd 9) = some (cI (K 0) 48 fo) := (ho _ (zq_ne h_fo h_o (by simp))).trans h_fo
                    have h_al : M16 (bd 10) = some (cI (K 0) 40 al) := (ho _ (zq_ne h_al h_o (by simp))).trans h_al
                    have h_on : M16 (bd 11) = some (cI (K 0) 384 on) := (ho _ (zq_ne h_on h_o (by simp))).trans h_on
                    have h_tw : M16 (bd 12) = some (cI (K 0) 384 tw) := (ho _ (zq_ne h_tw h_o (by simp))).trans h_tw
                    have h_sm : M16 (bd 13) = some (cJ (K 1) 114688 sm) := (ho _ (zq_ne h_sm h_o (by simp))).trans h_sm
                    have h_av : M16 (bd 14) = some (cJ (K 1) 2100 av) := (ho _ (zq_ne h_av h_o (by simp))).trans h_av
                    have h_po : M16 (bd 15) = some (cJ (K 1) 14 po) := (ho _ (zq_ne h_po h_o (by simp))).trans h_po
                    have h_le : M16 (bd 16) = some (cJ (K 1) 28 le) := (ho _ (zq_ne h_le h_o (by simp))).trans h_le
                    have h_gd : M16 (bd 17) = some (cI (K 0) 384 gd) := (ho _ (zq_ne h_gd h_o (by simp))).trans h_gd
                    have h_o : M16 o = some (.inr (9, [.int (iI th), .int (iI put), .int (iI wr), .ref (bd 0), .ref (bd 1), .int (iI (nn - 1)), .int (iI (cir + 1)), .int (iI oN), .int (iI oC), .ref (bd 2), .ref (bd 3), .ref (bd 4), .ref (bd 5), .int (iI lbs), .ref (bd 6), .ref (bd 7), .ref (bd 8), .int (iI fcs), .ref (bd 9), .int (iI arcs), .ref (bd 10), .ref (bd 11), .ref (bd 12), .ref (bd 13), .int (iI mns), .ref (bd 14), .ref (bd 15), .ref (bd 16), .int (iI 0), .ref (bd 17)])) := hs
                    have hfr : ∀ q, q ≠ o → (∀ i, i < 18 → q ≠ bd i) → M16 q = M q := fun q g0 g1 => (ho q g0).trans (hfr q g0 g1)
                    refine lv_iconst (v := iI 1) hx hb d_MM_smooth_283 rfl ?_
                    exact zq_zret hx hb hr rfl hlocks hZ hw ⟨1, rfl, Or.inr ⟨⟨⟨by omega, by omega⟩, (by rw [← hli, ← hbg, ← huo, ← hup, ← hlo, ← hmy]; omega)⟩, rfl, _, _, bg, hbg, (by rw [← hli, ← huo, ← hup, ← hlo]; exact ⟨_, _, _, _, Or.inr ⟨hj259, rfl, rfl, hc9, hd9⟩, Or.inl ⟨hj275, rfl, rfl⟩⟩), ⟨_, _, _, _, _, _, _, _, _, _, _, _, _, _, _, h_o, hbd, h_pS, h_pL, h_sg, h_lb, h_oS, h_oL, h_rw, h_fr, h_pi, h_fo, h_al, h_on, h_tw, h_sm, h_av, h_po, h_le, h_gd, fun j => ⟨hpS j, hpL j, (zot_in hsg) j, (zrn_in (zot_in hlb) (zmi_in hili hiuo)) j, hoS j, hoL j, hrw j, hfo j, hal j⟩⟩, hfr⟩⟩ d_MM_smooth_284
                  · have h_pS : M15 (bd 0) = some (cI (K 0) 12 pS) := (ho _ (zq_ne h_pS h_o (by simp)) (zbd hbd 0 3) (zbd hbd 0 7)).trans h_pS
                    have h_pL : M15 (bd 1) = some (cI (K 0) 48 pL) := (ho _ (zq_ne h_pL h_o (by simp)) (zbd hbd 1 3) (zbd hbd 1 7)).trans h_pL
                    have h_sg : M15 (bd 2) = some (cI (K 0) 12 (zot sg k (nn - 1) 1)) := (ho _ (zq_ne h_sg h_o (by simp)) (zbd hbd 2 3) (zbd hbd 2 7)).trans h_sg
                    have h_oS : M15 (bd 4) = some (cI (K 0) 12 oS) := (ho _ (zq_ne h_oS h_o (by simp)) (Ne.symm (zbd hbd 3 4)) (zbd hbd 4 7)).trans h_oS
                    have h_oL : M15 (bd 5) = some (cI (K 0) 48 oL) := (ho _ (zq_ne h_oL h_o (by simp)) (Ne.symm (zbd hbd 3 5)) (zbd hbd 5 7)).trans h_oL
                    have h_rw : M15 (bd 6) = some (cI (K 0) 48 rw) := (ho _ (zq_ne h_rw h_o (by simp)) (Ne.symm (zbd hbd 3 6)) (zbd hbd 6 7)).trans h_rw
                    have h_pi : M15 (bd 8) = some (cI (K 0) 12 pi) := (ho _ (zq_ne h_pi h_o (by simp)) (Ne.symm (zbd hbd 3 8)) (Ne.symm (zbd hbd 7 8))).trans h_pi
                    have h_fo : M15 (bd 9) = some (cI (K 0) 48 fo) := (ho _ (zq_ne h_fo h_o (by simp)) (Ne.symm (zbd hbd 3 9)) (Ne.symm (zbd hbd 7 9))).trans h_fo
                    have h_al : M15 (bd 10) = some (cI (K 0) 40 al) := (ho _ (zq_ne h_al h_o (by simp)) (Ne.symm (zbd hbd 3 10)) (Ne.symm (zbd hbd 7 10))).trans h_al
                    have h_on : M15 (bd 11) = some (cI (K 0) 384 on) := (ho _ (zq_ne h_on h_o (by simp)) (Ne.symm (zbd hbd 3 11)) (Ne.symm (zbd hbd 7 11))).trans h_on
                    have h_tw : M15 (bd 12) = some (cI (K 0) 384 tw) := (ho _ (zq_ne h_tw h_o (by simp)) (Ne.symm (zbd hbd 3 12)) (Ne.symm (zbd hbd 7 12))).trans h_tw
                    have h_sm : M15 (bd 13) = some (cJ (K 1) 114688 sm) := (ho _ (zq_ne h_sm h_o (by simp)) (Ne.symm (zbd hbd 3 13)) (Ne.symm (zbd hbd 7 13))).trans h_sm
                    have h_av : M15 (bd 14) = some (cJ (K 1) 2100 av) := (ho _ (zq_ne h_av h_o (by simp)) (Ne.symm (zbd hbd 3 14)) (Ne.symm (zbd hbd 7 14))).trans h_av
                    have h_po : M15 (bd 15) = some (cJ (K 1) 14 po) := (ho _ (zq_ne h_po h_o (by simp)) (Ne.symm (zbd hbd 3 15)) (Ne.symm (zbd hbd 7 15))).trans h_po
                    have h_le : M15 (bd 16) = some (cJ (K 1) 28 le) := (ho _ (zq_ne h_le h_o (by simp)) (Ne.symm (zbd hbd 3 16)) (Ne.symm (zbd hbd 7 16))).trans h_le
                    have h_gd : M15 (bd 17) = some (cI (K 0) 384 gd) := (ho _ (zq_ne h_gd h_o (by simp)) (Ne.symm (zbd hbd 3 17)) (Ne.symm (zbd hbd 7 17))).trans h_gd
                    have h_o : M15 o = some (.inr (9, [.int (iI th), .int (iI put), .int (iI wr), .ref (bd 0), .ref (bd 1), .int (iI (nn - 1)), .int (iI cir), .int (iI oN), .int (iI oC), .ref (bd 2), .ref (bd 3), .ref (bd 4), .ref (bd 5), .int (iI lbs), .ref (bd 6), .ref (bd 7), .ref (bd 8), .int (iI fcs), .ref (bd 9), .int (iI arcs), .ref (bd 10), .ref (bd 11), .ref (bd 12), .ref (bd 13), .int (iI mns), .ref (bd 14), .ref (bd 15), .ref (bd 16), .int (iI kn), .ref (bd 17)])) := hs0
                    have h_lb : M15 (bd 3) = some (cI (K 0) 48 (zrn (zrn (zot lb (4 * k) (4 * (nn - 1)) 4) (4 * (nn - 1)) (zmx li uo) (zmi li uo)) (4 * (nn - 1)) (zmx c9 d9) (zmi c9 d9))) := hs1
                    have h_fr : M15 (bd 7) = some (cI (K 0) 48 (zrn (zrn F4 4 (zmx li uo) (zmi li uo)) 4 (zmx c9 d9) (zmi c9 d9))) := hs2
                    have hfr : ∀ q, q ≠ o → (∀ i, i < 18 → q ≠ bd i) → M15 q = M q := fun q g0 g1 => (ho q g0 (g1 3 (by decide)) (g1 7 (by decide))).trans (hfr q g0 g1)
                    refine W.eq (g2 := F0 m 278 ls []) rfl ?_
                    refine lv_aload_n hx hb d_MM_smooth_278 rfl (lv_at hl 0 rfl) ?_
                    refine lv_iconst (v := iI 0) hx hb d_MM_smooth_279 rfl ?_
                    refine zq_put (ci := 9) (v := .int (iI 0)) (ty := .boolean) hx hb hts i_MM t_MM t_MM_ok n_MM hown hK hw h_o rfl 28 (by decide) (hts _ tw_614) rfl (by decide +kernel) rfl rfl (Nat.le_of_ble_eq_true rfl) d_MM_smooth_280 (fun M17 H locs hs ho hw => ?_)
                    have h_pS : M17 (bd 0) = some (cI (K 0) 12 pS) := (ho _ (zq_ne h_pS h_o (by simp))).trans h_pS
                    have h_pL : M17 (bd 1) = some (cI (K 0) 48 pL) := (ho _ (zq_ne h_pL h_o (by simp))).trans h_pL
                    have h_sg : M17 (bd 2) = some (cI (K 0) 12 (zot sg k (nn - 1) 1)) := (ho _ (zq_ne h_sg h_o (by simp))).trans h_sg
                    have h_lb : M17 (bd 3) = some (cI (K 0) 48 (zrn (zrn (zot lb (4 * k) (4 * (nn - 1)) 4) (4 * (nn - 1)) (zmx li uo) (zmi li uo)) (4 * (nn - 1)) (zmx c9 d9) (zmi c9 d9))) := (ho _ (zq_ne h_lb h_o (by simp))).trans h_lb
                    have h_oS : M17 (bd 4) = some (cI (K 0) 12 oS) := (ho _ (zq_ne h_oS h_o (by simp))).trans h_oS
                    have h_oL : M17 (bd 5) = some (cI (K 0) 48 oL) := (ho _ (zq_ne h_oL h_o (by simp))).trans h_oL
                    have h_rw : M17 (bd 6) = some (cI (K 0) 48 rw) := (ho _ (zq_ne h_rw h_o (by simp))).trans h_rw
                    have h_fr : M17 (bd 7) = some (cI (K 0) 48 (zrn (zrn F4 4 (zmx li uo) (zmi li uo)) 4 (zmx c9 d9) (zmi c9 d9))) := (ho _ (zq_ne h_fr h_o (by simp))).trans h_fr
                    have h_pi : M17 (bd 8) = some (cI (K 0) 12 pi) := (ho _ (zq_ne h_pi h_o (by simp))).trans h_pi
                    have h_fo : M17 (bd 9) = some (cI (K 0) 48 fo) := (ho _ (zq_ne h_fo h_o (by simp))).trans h_fo
                    have h_al : M17 (bd 10) = some (cI (K 0) 40 al) := (ho _ (zq_ne h_al h_o (by simp))).trans h_al
                    have h_on : M17 (bd 11) = some (cI (K 0) 384 on) := (ho _ (zq_ne h_on h_o (by simp))).trans h_on
                    have h_tw : M17 (bd 12) = some (cI (K 0) 384 tw) := (ho _ (zq_ne h_tw h_o (by simp))).trans h_tw
                    have h_sm : M17 (bd 13) = some (cJ (K 1) 114688 sm) := (ho _ (zq_ne h_sm h_o (by simp))).trans h_sm
                    have h_av : M17 (bd 14) = some (cJ (K 1) 2100 av) := (ho _ (zq_ne h_av h_o (by simp))).trans h_av
                    have h_po : M17 (bd 15) = some (cJ (K 1) 14 po) := (ho _ (zq_ne h_po h_o (by simp))).trans h_po
                    have h_le : M17 (bd 16) = some (cJ (K 1) 28 le) := (ho _ (zq_ne h_le h_o (by simp))).trans h_le
                    have h_gd : M17 (bd 17) = some (cI (K 0) 384 gd) := (ho _ (zq_ne h_gd h_o (by simp))).trans h_gd
                    have h_o : M17 o = some (.inr (9, [.int (iI th), .int (iI put), .int (iI wr), .ref (bd 0), .ref (bd 1), .int (iI (nn - 1)), .int (iI cir), .int (iI oN), .int (iI oC), .ref (bd 2), .ref (bd 3), .ref (bd 4), .ref (bd 5), .int (iI lbs), .ref (bd 6), .ref (bd 7), .ref (bd 8), .int (iI fcs), .ref (bd 9), .int (iI arcs), .ref (bd 10), .ref (bd 11), .ref (bd 12), .ref (bd 13), .int (iI mns), .ref (bd 14), .ref (bd 15), .ref (bd 16), .int (iI 0), .ref (bd 17)])) := hs
                    have hfr : ∀ q, q ≠ o → (∀ i, i < 18 → q ≠ bd i) → M17 q = M q := fun q g0 g1 => (ho q g0).trans (hfr q g0 g1)
                    refine lv_iconst (v := iI 1) hx hb d_MM_smooth_283 rfl ?_
                    exact zq_zret hx hb hr rfl hlocks hZ hw ⟨1, rfl, Or.inr ⟨⟨⟨by omega, by omega⟩, (by rw [← hli, ← hbg, ← huo, ← hup, ← hlo, ← hmy]; omega)⟩, rfl, _, _, bg, hbg, (by rw [← hli, ← huo, ← hup, ← hlo]; exact ⟨_, _, _, _, Or.inr ⟨hj259, rfl, rfl, hc9, hd9⟩, Or.inr ⟨hj275, rfl, rfl⟩⟩), ⟨_, _, _, _, _, _, _, _, _, _, _, _, _, _, _, h_o, hbd, h_pS, h_pL, h_sg, h_lb, h_oS, h_oL, h_rw, h_fr, h_pi, h_fo, h_al, h_on, h_tw, h_sm, h_av, h_po, h_le, h_gd, fun j => ⟨hpS j, hpL j, (zot_in hsg) j, (zrn_in (zrn_in (zot_in hlb) (zmi_in hili hiuo)) (zmi_in hic9 hid9)) j, hoS j, hoL j, hrw j, hfo j, hal j⟩⟩, hfr⟩⟩ d_MM_smooth_284
              · refine lv_aload_n hx hb d_MM_smooth_183 rfl (lv_at hl 0 rfl) ?_
                refine zq_get hx hb hts i_MM hown hK hw h_o rfl 9 (by decide) (hts _ tw_595) rfl d_MM_smooth_184 ?_
                refine lv_iload hx hb d_MM_smooth_187 (lv_at hl 1 rfl) ?_
                refine lv_aload_n hx hb d_MM_smooth_189 rfl (lv_at hl 0 rfl) ?_
                refine zq_get hx hb hts i_MM hown hK hw h_o rfl 9 (by decide) (hts _ tw_595) rfl d_MM_smooth_190 ?_
                refine lv_iload hx hb d_MM_smooth_193 (lv_at hl 1 rfl) ?_
                refine lv_iconst (v := iI 1) hx hb d_MM_smooth_195 rfl ?_
                refine zq_iadd hx hb d_MM_smooth_196 ?_
                refine zq_iald hx hb hK hw 0 h_sg rfl (by omega) (by omega) (by decide) d_MM_smooth_197 ?_
                refine zq_iast hx hb hK hw 0 h_sg rfl (by omega) (by omega) (by decide) d_MM_smooth_198 (fun M18 H locs hs ho hw => ?_)
                have h_o : M18 o = some (.inr (9, [.int (iI th), .int (iI put), .int (iI wr), .ref (bd 0), .ref (bd 1), .int (iI (nn - 1)), .int (iI cir), .int (iI oN), .int (iI oC), .ref (bd 2), .ref (bd 3), .ref (bd 4), .ref (bd 5), .int (iI lbs), .ref (bd 6), .ref (bd 7), .ref (bd 8), .int (iI fcs), .ref (bd 9), .int (iI arcs), .ref (bd 10), .ref (bd 11), .ref (bd 12), .ref (bd 13), .int (iI mns), .ref (bd 14), .ref (bd 15), .ref (bd 16), .int (iI kn), .ref (bd 17)])) := (ho _ (zq_ne h_o h_sg (by simp))).trans h_o
                have h_pS : M18 (bd 0) = some (cI (K 0) 12 pS) := (ho _ (zbd hbd 0 2)).trans h_pS
                have h_pL : M18 (bd 1) = some (cI (K 0) 48 pL) := (ho _ (zbd hbd 1 2)).trans h_pL
                have h_lb : M18 (bd 3) = some (cI (K 0) 48 g2) := (ho _ (Ne.symm (zbd hbd 2 3))).trans h_lb
                have h_oS : M18 (bd 4) = some (cI (K 0) 12 oS) := (ho _ (Ne.symm (zbd hbd 2 4))).trans h_oS
                have h_oL : M18 (bd 5) = some (cI (K 0) 48 oL) := (ho _ (Ne.symm (zbd hbd 2 5))).trans h_oL
                have h_rw : M18 (bd 6) = some (cI (K 0) 48 rw) := (ho _ (Ne.symm (zbd hbd 2 6))).trans h_rw
                have h_fr : M18 (bd 7) = some (cI (K 0) 48 F4) := (ho _ (Ne.symm (zbd hbd 2 7))).trans h_fr
                have h_pi : M18 (bd 8) = some (cI (K 0) 12 pi) := (ho _ (Ne.symm (zbd hbd 2 8))).trans h_pi
                have h_fo : M18 (bd 9) = some (cI (K 0) 48 fo) := (ho _ (Ne.symm (zbd hbd 2 9))).trans h_fo
                have h_al : M18 (bd 10) = some (cI (K 0) 40 al) := (ho _ (Ne.symm (zbd hbd 2 10))).trans h_al
                have h_on : M18 (bd 11) = some (cI (K 0) 384 on) := (ho _ (Ne.symm (zbd hbd 2 11))).trans h_on
                have h_tw : M18 (bd 12) = some (cI (K 0) 384 tw) := (ho _ (Ne.symm (zbd hbd 2 12))).trans h_tw
                have h_sm : M18 (bd 13) = some (cJ (K 1) 114688 sm) := (ho _ (Ne.symm (zbd hbd 2 13))).trans h_sm
                have h_av : M18 (bd 14) = some (cJ (K 1) 2100 av) := (ho _ (Ne.symm (zbd hbd 2 14))).trans h_av
                have h_po : M18 (bd 15) = some (cJ (K 1) 14 po) := (ho _ (Ne.symm (zbd hbd 2 15))).trans h_po
                have h_le : M18 (bd 16) = some (cJ (K 1) 28 le) := (ho _ (Ne.symm (zbd hbd 2 16))).trans h_le
                have h_gd : M18 (bd 17) = some (cI (K 0) 384 gd) := (ho _ (Ne.symm (zbd hbd 2 17))).trans h_gd
                have h_sg : M18 (bd 2) = some (cI (K 0) 12 (zu g i (g (i + 1)))) := hs
                have hfr : ∀ q, q ≠ o → (∀ i, i < 18 → q ≠ bd i) → M18 q = M q := fun q g0 g1 => (ho q (g1 2 (by decide))).trans (hfr q g0 g1)
                have hL2 : ∀ (n : Nat) (j : Int) (g3 : Int → Int) (Mq : zq_M) (H : Heap) (locs : List Loc) (ls : Array Slot), (0 ≤ j ∧ j ≤ 4) → (∀ z, g3 z = if 4 * k ≤ z ∧ z < 4 * i + j then lb (z + 4) else lb z) → (4 - j).toNat < n → (∀ q, q ≠ o → (∀ i, i < 18 → q ≠ bd i) → Mq q = M q) → Mq o = some (.inr (9, [.int (iI th), .int (iI put), .int (iI wr), .ref (bd 0), .ref (bd 1), .int (iI (nn - 1)), .int (iI cir), .int (iI oN), .int (iI oC), .ref (bd 2), .ref (bd 3), .ref (bd 4), .ref (bd 5), .int (iI lbs), .ref (bd 6), .ref (bd 7), .ref (bd 8), .int (iI fcs), .ref (bd 9), .int (iI arcs), .ref (bd 10), .ref (bd 11), .ref (bd 12), .ref (bd 13), .int (iI mns), .ref (bd 14), .ref (bd 15), .ref (bd 16), .int (iI kn), .ref (bd 17)])) → Mq (bd 0) = some (cI (K 0) 12 pS) → Mq (bd 1) = some (cI (K 0) 48 pL) → Mq (bd 2) = some (cI (K 0) 12 (zu g i (g (i + 1)))) → Mq (bd 3) = some (cI (K 0) 48 g3) → Mq (bd 4) = some (cI (K 0) 12 oS) → Mq (bd 5) = some (cI (K 0) 48 oL) → Mq (bd 6) = some (cI (K 0) 48 rw) → Mq (bd 7) = some (cI (K 0) 48 F4) → Mq (bd 8) = some (cI (K 0) 12 pi) → Mq (bd 9) = some (cI (K 0) 48 fo) → Mq (bd 10) = some (cI (K 0) 40 al) → Mq (bd 11) = some (cI (K 0) 384 on) → Mq (bd 12) = some (cI (K 0) 384 tw) → Mq (bd 13) = some (cJ (K 1) 114688 sm) → Mq (bd 14) = some (cJ (K 1) 2100 av) → Mq (bd 15) = some (cJ (K 1) 14 po) → Mq (bd 16) = some (cJ (K 1) 28 le) → Mq (bd 17) = some (cI (K 0) 384 gd) → zq_W D vwCl A s.heap Mq H locs → lv_has ls 10 [(0, .ref o), (8, .int (iI i)), (9, .int (iI j))] → W p l e ({ frames := 2, cells := 0, slots := 0, locals := 45 } : Room) s m [.ref o, .int (iI k)].toArray below meth co H locs 0 0 (MQ below (zq_Q D vwCl (zT K) (P_MM_smooth K M o bd put pS pL nn cir sg lb kn arcs al on tw mns av po k) A) [.ref o, .int (iI k)].toArray s 0 0 A) (F0 m 202 ls []) := by
                  intro n
                  induction n with
                  | zero =>
                    intro j g3 Mq H locs ls hj hg3 hms hfr h_o h_pS h_pL h_sg h_lb h_oS h_oL h_rw h_fr h_pi h_fo h_al h_on h_tw h_sm h_av h_po h_le h_gd hw hl
                    exact absurd hms (Nat.not_lt_zero _)
                  | succ n ih_hL2 =>
                    intro j g3 Mq H locs ls hj hg3 hms hfr h_o h_pS h_pL h_sg h_lb h_oS h_oL h_rw h_fr h_pi h_fo h_al h_on h_tw h_sm h_av h_po h_le h_gd hw hl
                    refine lv_iload hx hb d_MM_smooth_202 (lv_at hl 2 rfl) ?_
                    refine lv_iconst (v := iI 4) hx hb d_MM_smooth_204 rfl ?_
                    refine zq_icmp_ge (tgt := 240) hx hb d_MM_smooth_205 (by decide) ⟨by omega, by omega⟩ (by decide) (fun hc19 => ?_) (fun hc19 => ?_)
                    · refine lv_iinc (v := iI (i + 1)) (lv' := [(8, .int (iI (i + 1))), (0, .ref o), (9, .int (iI j))]) hx hb d_MM_smooth_240 hl (k := 1) rfl (iI_add _ _) (by decide) rfl (fun ls hl => ?_)
                      refine lv_goto (tgt := 174) hx hb d_MM_smooth_243 (by decide) ?_
                      exact ih_hL1 (i + 1) (zu g i (g (i + 1))) g3 Mq _ _ _ (by omega) (zot_s hg hi.1 (by decide)) (fun z => by rw [hg3 z, show 4 * i + j = 4 * (i + 1) by omega]) (by omega) hfr h_o h_pS h_pL h_sg h_lb h_oS h_oL h_rw h_fr h_pi h_fo h_al h_on h_tw h_sm h_av h_po h_le h_gd hw (lv_sub hl [1, 0] rfl)
                    · refine lv_aload_n hx hb d_MM_smooth_208 rfl (lv_at hl 0 rfl) ?_
                      refine zq_get hx hb hts i_MM hown hK hw h_o rfl 10 (by decide) (hts _ tw_596) rfl d_MM_smooth_209 ?_
                      refine lv_iconst (v := iI 4) hx hb d_MM_smooth_212 rfl ?_
                      refine lv_iload hx hb d_MM_smooth_213 (lv_at hl 1 rfl) ?_
                      refine zq_imul hx hb d_MM_smooth_215 ?_
                      refine lv_iload hx hb d_MM_smooth_216 (lv_at hl 2 rfl) ?_
                      refine zq_iadd hx hb d_MM_smooth_218 ?_
                      refine lv_aload_n hx hb d_MM_smooth_219 rfl (lv_at hl 0 rfl) ?_
                      refine zq_get hx hb hts i_MM hown hK hw h_o rfl 10 (by decide) (hts _ tw_596) rfl d_MM_smooth_220 ?_
                      refine lv_iconst (v := iI 4) hx hb d_MM_smooth_223 rfl ?_
                      refine lv_iload hx hb d_MM_smooth_224 (lv_at hl 1 rfl) ?_
                      refine zq_imul hx hb d_MM_smooth_226 ?_
                      refine lv_iconst (v := iI 4) hx hb d_MM_smooth_227 rfl ?_
                      refine zq_iadd hx hb d_MM_smooth_228 ?_
                      refine lv_iload hx hb d_MM_smooth_229 (lv_at hl 2 rfl) ?_
                      refine zq_iadd hx hb d_MM_smooth_231 ?_
                      refine zq_iald hx hb hK hw 0 h_lb rfl (by omega) (by omega) (by decide) d_MM_smooth_232 ?_
                      refine zq_iast hx hb hK hw 0 h_lb rfl (by omega) (by omega) (by decide) d_MM_smooth_233 (fun M20 H locs hs ho hw => ?_)
                      have h_o : M20 o = some (.inr (9, [.int (iI th), .int (iI put), .int (iI wr), .ref (bd 0), .ref (bd 1), .int (iI (nn - 1)), .int (iI cir), .int (iI oN), .int (iI oC), .ref (bd 2), .ref (bd 3), .ref (bd 4), .ref (bd 5), .int (iI lbs), .ref (bd 6), .ref (bd 7), .ref (bd 8), .int (iI fcs), .ref (bd 9), .int (iI arcs), .ref (bd 10), .ref (bd 11), .ref (bd 12), .ref (bd 13), .int (iI mns), .ref (bd 14), .ref (bd 15), .ref (bd 16), .int (iI kn), .ref (bd 17)])) := (ho _ (zq_ne h_o h_lb (by simp))).trans h_o
                      have h_pS : M20 (bd 0) = some (cI (K 0) 12 pS) := (ho _ (zbd hbd 0 3)).trans h_pS
                      have h_pL : M20 (bd 1) = some (cI (K 0) 48 pL) := (ho _ (zbd hbd 1 3)).trans h_pL
                      have h_sg : M20 (bd 2) = some (cI (K 0) 12 (zu g i (g (i + 1)))) := (ho _ (zbd hbd 2 3)).trans h_sg
                      have h_oS : M20 (bd 4) = some (cI (K 0) 12 oS) := (ho _ (Ne.symm (zbd hbd 3 4))).trans h_oS
                      have h_oL : M20 (bd 5) = some (cI (K 0) 48 oL) := (ho _ (Ne.symm (zbd hbd 3 5))).trans h_oL
                      have h_rw : M20 (bd 6) = some (cI (K 0) 48 rw) := (ho _ (Ne.symm (zbd hbd 3 6))).trans h_rw
                      have h_fr : M20 (bd 7) = some (cI (K 0) 48 F4) := (ho _ (Ne.symm (zbd hbd 3 7))).trans h_fr
                      have h_pi : M20 (bd 8) = some (cI (K 0) 12 pi) := (ho _ (Ne.symm (zbd hbd 3 8))).trans h_pi
                      have h_fo : M20 (bd 9) = some (cI (K 0) 48 fo) := (ho _ (Ne.symm (zbd hbd 3 9))).trans h_fo
                      have h_al : M20 (bd 10) = some (cI (K 0) 40 al) := (ho _ (Ne.symm (zbd hbd 3 10))).trans h_al
                      have h_on : M20 (bd 11) = some (cI (K 0) 384 on) := (ho _ (Ne.symm (zbd hbd 3 11))).trans h_on
                      have h_tw : M20 (bd 12) = some (cI (K 0) 384 tw) := (ho _ (Ne.symm (zbd hbd 3 12))).trans h_tw
                      have h_sm : M20 (bd 13) = some (cJ (K 1) 114688 sm) := (ho _ (Ne.symm (zbd hbd 3 13))).trans h_sm
                      have h_av : M20 (bd 14) = some (cJ (K 1) 2100 av) := (ho _ (Ne.symm (zbd hbd 3 14))).trans h_av
                      have h_po : M20 (bd 15) = some (cJ (K 1) 14 po) := (ho _ (Ne.symm (zbd hbd 3 15))).trans h_po
                      have h_le : M20 (bd 16) = some (cJ (K 1) 28 le) := (ho _ (Ne.symm (zbd hbd 3 16))).trans h_le
                      have h_gd : M20 (bd 17) = some (cI (K 0) 384 gd) := (ho _ (Ne.symm (zbd hbd 3 17))).trans h_gd
                      have h_lb : M20 (bd 3) = some (cI (K 0) 48 (zu g3 ((4 * i) + j) (g3 (((4 * i) + 4) + j)))) := hs
                      have hfr : ∀ q, q ≠ o → (∀ i, i < 18 → q ≠ bd i) → M20 q = M q := fun q g0 g1 => (ho q (g1 3 (by decide))).trans (hfr q g0 g1)
                      refine lv_iinc (v := iI (j + 1)) (lv' := [(9, .int (iI (j + 1))), (0, .ref o), (8, .int (iI i))]) hx hb d_MM_smooth_234 hl (k := 2) rfl (iI_add _ _) (by decide) rfl (fun ls hl => ?_)
                      refine lv_goto (tgt := 202) hx hb d_MM_smooth_237 (by decide) ?_
                      exact ih_hL2 (j + 1) (zu g3 ((4 * i) + j) (g3 (((4 * i) + 4) + j))) M20 _ _ _ (by omega) (by have h9 := zot_s (w := 4) hg3 (by omega) (by decide); rw [show 4 * i + j + 4 = 4 * i + 4 + j by omega, show 4 * i + j + 1 = 4 * i + (j + 1) by omega] at h9; exact h9) (by omega) hfr h_o h_pS h_pL h_sg h_lb h_oS h_oL h_rw h_fr h_pi h_fo h_al h_on h_tw h_sm h_av h_po h_le h_gd hw (lv_sub hl [1, 2, 0] rfl)
                refine lv_iconst (v := iI 0) hx hb d_MM_smooth_199 rfl ?_
                refine lv_istore (lv' := [(9, .int (iI 0)), (0, .ref o), (8, .int (iI i))]) hx hb d_MM_smooth_200 hl (by decide) rfl (fun ls hl => ?_)
                exact hL2 _ 0 g2 M18 _ _ _ ⟨by omega, by omega⟩ (fun z => by rw [hg2 z, Int.add_zero]) (Nat.lt_succ_self _) hfr h_o h_pS h_pL h_sg h_lb h_oS h_oL h_rw h_fr h_pi h_fo h_al h_on h_tw h_sm h_av h_po h_le h_gd hw (lv_sub hl [1, 2, 0] rfl)
          refine lv_iload_n hx hb d_MM_smooth_171 rfl (lv_at hl 1 rfl) ?_
          refine lv_istore (lv' := [(8, .int (iI k)), (0, .ref o), (1, .int (iI k)), (3, .int (iI li)), (4, .int (iI uo)), (5, .int (iI up)), (6, .int (iI lo)), (7, .int (iI my))]) hx hb d_MM_smooth_172 hl (by decide) rfl (fun ls hl => ?_)
          exact hL1 _ k sg lb M9 _ _ _ ⟨by omega, by omega⟩ (fun z => (if_neg (by omega)).symm) (fun z => (if_neg (by omega)).symm) (Nat.lt_succ_self _) hfr h_o h_pS h_pL h_sg h_lb h_oS h_oL h_rw h_fr h_pi h_fo h_al h_on h_tw h_sm h_av h_po h_le h_gd hw (lv_sub hl [1, 0] rfl)
        · refine lv_iconst (v := iI 0) hx hb d_MM_smooth_128 rfl ?_
          exact zq_zret hx hb hr rfl hlocks hZ hw ⟨0, rfl, Or.inl ⟨fun q => by have h9 := q.2; rw [← hli, ← hbg, ← huo, ← hup, ← hlo, ← hmy] at h9; omega, rfl, hMq⟩⟩ d_MM_smooth_129
      refine lv_iload_n hx hb d_MM_smooth_69 rfl (lv_at hl 3 rfl) ?_
      refine lv_iload hx hb d_MM_smooth_70 (lv_at hl 2 rfl) ?_
      refine zq_icmp_ne (tgt := 79) hx hb d_MM_smooth_72 (by decide) hili hiuo (fun hc21 => ?_) (fun hc21 => ?_)
      · refine lv_iconst (v := iI 0) hx hb d_MM_smooth_79 rfl ?_
        refine lv_iload hx hb d_MM_smooth_80 (lv_at hl 1 rfl) ?_
        refine lv_iload hx hb d_MM_smooth_82 (lv_at hl 0 rfl) ?_
        refine zq_icmp_ne (tgt := 91) hx hb d_MM_smooth_84 (by decide) hiup hilo (fun hc22 => ?_) (fun hc22 => ?_)
        · refine lv_iconst (v := iI 0) hx hb d_MM_smooth_91 rfl ?_
          refine zq_iadd hx hb d_MM_smooth_92 ?_
          rw [show 0 + 0 = (0 : Int) from by omega]
          refine lv_istore (lv' := [(7, .int (iI 0)), (6, .int (iI lo)), (5, .int (iI up)), (4, .int (iI uo)), (3, .int (iI li)), (2, .int (iI bg)), (0, .ref o), (1, .int (iI k))]) hx hb d_MM_smooth_93 hl (by decide) rfl (fun ls hl => ?_)
          refine lv_iload hx hb d_MM_smooth_95 (lv_at hl 0 rfl) ?_
          refine zq_if_ne (tgt := 116) hx hb d_MM_smooth_97 (by decide) (by decide) (fun hc23 => ?_) (fun hc23 => ?_)
          · exact absurd hc23 (by decide)
          · refine lv_iload_n hx hb d_MM_smooth_100 rfl (lv_at hl 4 rfl) ?_
            refine lv_iload hx hb d_MM_smooth_101 (lv_at hl 1 rfl) ?_
            refine zq_icmp_ne (tgt := 116) hx hb d_MM_smooth_103 (by decide) hili hilo (fun hc24 => ?_) (fun hc24 => ?_)
            · exact hJ 0 M _ _ _ rfl (by unfold zmy; (repeat' split) <;> omega) hfr h_o h_pS h_pL h_sg h_lb h_oS h_oL h_rw h_fr h_pi h_fo h_al h_on h_tw h_sm h_av h_po h_le h_gd hw (lv_sub hl [6, 7, 4, 3, 2, 1, 0] rfl)
            · refine lv_iload hx hb d_MM_smooth_106 (lv_at hl 2 rfl) ?_
              refine lv_iload hx hb d_MM_smooth_108 (lv_at hl 3 rfl) ?_
              refine zq_icmp_ne (tgt := 116) hx hb d_MM_smooth_110 (by decide) hiup hiuo (fun hc25 => ?_) (fun hc25 => ?_)
              · exact hJ 0 M _ _ _ rfl (by unfold zmy; (repeat' split) <;> omega) hfr h_o h_pS h_pL h_sg h_lb h_oS h_oL h_rw h_fr h_pi h_fo h_al h_on h_tw h_sm h_av h_po h_le h_gd hw (lv_sub hl [6, 7, 4, 3, 2, 1, 0] rfl)
              · refine lv_iconst (v := iI 1) hx hb d_MM_smooth_113 rfl ?_
                refine lv_istore (lv' := [(7, .int (iI 1)), (6, .int (iI lo)), (5, .int (iI up)), (4, .int (iI uo)), (3, .int (iI li)), (2, .int (iI bg)), (0, .ref o), (1, .int (iI k))]) hx hb d_MM_smooth_114 hl (by decide) rfl (fun ls hl => ?_)
                exact hJ 1 M _ _ _ rfl (by unfold zmy; (repeat' split) <;> omega) hfr h_o h_pS h_pL h_sg h_lb h_oS h_oL h_rw h_fr h_pi h_fo h_al h_on h_tw h_sm h_av h_po h_le h_gd hw (lv_sub hl [6, 7, 4, 3, 2, 1, 0] rfl)
        · refine lv_iconst (v := iI 1) hx hb d_MM_smooth_87 rfl ?_
          refine lv_goto (tgt := 92) hx hb d_MM_smooth_88 (by decide) ?_
          refine zq_iadd hx hb d_MM_smooth_92 ?_
          rw [show 0 + 1 = (1 : Int) from by omega]
          refine lv_istore (lv' := [(7, .int (iI 1)), (6, .int (iI lo)), (5, .int (iI up)), (4, .int (iI uo)), (3, .int (iI li)), (2, .int (iI bg)), (0, .ref o), (1, .int (iI k))]) hx hb d_MM_smooth_93 hl (by decide) rfl (fun ls hl => ?_)
          refine lv_iload hx hb d_MM_smooth_95 (lv_at hl 0 rfl) ?_
          refine zq_if_ne (tgt := 116) hx hb d_MM_smooth_97 (by decide) (by decide) (fun hc26 => ?_) (fun hc26 => ?_)
          · exact hJ 1 M _ _ _ rfl (by unfold zmy; (repeat' split) <;> omega) hfr h_o h_pS h_pL h_sg h_lb h_oS h_oL h_rw h_fr h_pi h_fo h_al h_on h_tw h_sm h_av h_po h_le h_gd hw (lv_sub hl [6, 7, 4, 3, 2, 1, 0] rfl)
          · exact absurd hc26 (by decide)
      · refine lv_iconst (v := iI 1) hx hb d_MM_smooth_75 rfl ?_
        refine lv_goto (tgt := 80) hx hb d_MM_smooth_76 (by decide) ?_
        refine lv_iload hx hb d_MM_smooth_80 (lv_at hl 1 rfl) ?_
        refine lv_iload hx hb d_MM_smooth_82 (lv_at hl 0 rfl) ?_
        refine zq_icmp_ne (tgt := 91) hx hb d_MM_smooth_84 (by decide) hiup hilo (fun hc27 => ?_) (fun hc27 => ?_)
        · refine lv_iconst (v := iI 0) hx hb d_MM_smooth_91 rfl ?_
          refine zq_iadd hx hb d_MM_smooth_92 ?_
          rw [show 1 + 0 = (1 : Int) from by omega]
          refine lv_istore (lv' := [(7, .int (iI 1)), (6, .int (iI lo)), (5, .int (iI up)), (4, .int (iI uo)), (3, .int (iI li)), (2, .int (iI bg)), (0, .ref o), (1, .int (iI k))]) hx hb d_MM_smooth_93 hl (by decide) rfl (fun ls hl => ?_)
          refine lv_iload hx hb d_MM_smooth_95 (lv_at hl 0 rfl) ?_
          refine zq_if_ne (tgt := 116) hx hb d_MM_smooth_97 (by decide) (by decide) (fun hc28 => ?_) (fun hc28 => ?_)
          · exact hJ 1 M _ _ _ rfl (by unfold zmy; (repeat' split) <;> omega) hfr h_o h_pS h_pL h_sg h_lb h_oS h_oL h_rw h_fr h_pi h_fo h_al h_on h_tw h_sm h_av h_po h_le h_gd hw (lv_sub hl [6, 7, 4, 3, 2, 1, 0] rfl)
          · exact absurd hc28 (by decide)
        · refine lv_iconst (v := iI 1) hx hb d_MM_smooth_87 rfl ?_
          refine lv_goto (tgt := 92) hx hb d_MM_smooth_88 (by decide) ?_
          refine zq_iadd hx hb d_MM_smooth_92 ?_
          rw [show 1 + 1 = (2 : Int) from by omega]
          refine lv_istore (lv' := [(7, .int (iI 2)), (6, .int (iI lo)), (5, .int (iI up)), (4, .int (iI uo)), (3, .int (iI li)), (2, .int (iI bg)), (0, .ref o), (1, .int (iI k))]) hx hb d_MM_smooth_93 hl (by decide) rfl (fun ls hl => ?_)
          refine lv_iload hx hb d_MM_smooth_95 (lv_at hl 0 rfl) ?_
          refine zq_if_ne (tgt := 116) hx hb d_MM_smooth_97 (by decide) (by decide) (fun hc29 => ?_) (fun hc29 => ?_)
          · exact hJ 2 M _ _ _ rfl (by unfold zmy; (repeat' split) <;> omega) hfr h_o h_pS h_pL h_sg h_lb h_oS h_oL h_rw h_fr h_pi h_fo h_al h_on h_tw h_sm h_av h_po h_le h_gd hw (lv_sub hl [6, 7, 4, 3, 2, 1, 0] rfl)
          · exact absurd hc29 (by decide)
    · refine lv_iconst (v := iI 0) hx hb d_MM_smooth_12 rfl ?_
      exact zq_zret hx hb hr rfl hlocks hZ hw ⟨0, rfl, Or.inl ⟨fun q => by omega, rfl, rfl⟩⟩ d_MM_smooth_13
