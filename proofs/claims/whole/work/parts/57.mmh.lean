abbrev P_MM_change (K : Nat → ClassId) (M : zq_M) (o : Nat) (bd : Nat → Nat) (put : Int) (pS : Int → Int) (pL : Int → Int) (nn : Int) (cir : Int) (sg : Int → Int) (lb : Int → Int) (kn : Int) (arcs : Int) (al : Int → Int) (on : Int → Int) (tw : Int → Int) (mns : Int) (av : Int → Int) (po : Int → Int) (k : Int) : Option Value → zq_M → Prop := fun v M' => ∃ r, v = some (.int (iI r)) ∧ ((¬ (0 ≤ k ∧ k < nn) ∧ r = 0 ∧ M' = M) ∨ ((0 ≤ k ∧ k < nn) ∧ r = 1 ∧ ∃ bg, bg = (if 0 < sg k then 3 else 1) ∧ zMK K M' o bd put pS pL nn cir (zu sg k (-sg k)) (zch lb k bg) 0 arcs al on tw mns av po ∧ ∀ q, q ≠ o → (∀ i, i < 18 → q ≠ bd i) → M' q = M q))
set_option maxHeartbeats 4000000 in
set_option maxRecDepth 100000 in
theorem c_MM_change (l : Launch) (D : va_G) (K : Nat → ClassId) (M : zq_M) (o : Nat) (bd : Nat → Nat) (put : Int) (pS : Int → Int) (pL : Int → Int) (nn : Int) (cir : Int) (sg : Int → Int) (lb : Int → Int) (kn : Int) (arcs : Int) (al : Int → Int) (on : Int → Int) (tw : Int → Int) (mns : Int) (av : Int → Int) (po : Int → Int) (k : Int) (hS : zMK K M o bd put pS pL nn cir sg lb kn arcs al on tw mns av po) (hnn : 0 ≤ nn ∧ nn ≤ 12) (hsk : ∀ k, 0 ≤ k → k < nn → sg k = 1 ∨ sg k = -1) (hk0 : inI k) : zq_Met l y_MM_change (.code y_MM_change b_MM_change 4 (some .boolean) :: lw_gd) { frames := 1, cells := 0, slots := 0, locals := 21 } D vwCl (zT K) [.ref o, .int (iI k)] M (P_MM_change K M o bd put pS pL nn cir sg lb kn arcs al on tw mns av po k) 0 0 := by
  refine zq_start (cc := b_MM_change) (maxL := 4) (ret := (some .boolean)) (by decide) rfl (Nat.le_of_ble_eq_true rfl) ?_
  intro p e s m below meth co A ls hx hb hr hml hts hown hnm hlocks hA hZ hw hl
  have hts : ∀ w ∈ lw_gd, w.before [.ref o, .int (iI k)].toArray s = true := fun w h => hts w (List.mem_cons_of_mem _ h)
  have hown : s.vm.findClass R_MM = some m.cls := hown
  have hK := hZ.1
  have hl : lv_has ls 4 [(0, .ref o), (1, .int (iI k))] := hl
  have hfr : ∀ q, q ≠ o → (∀ i, i < 18 → q ≠ bd i) → M q = M q := fun q _ _ => rfl
  have hS0 := hS
  obtain ⟨th, wr, oN, oC, lbs, fcs, oS, oL, rw, fr, pi, fo, sm, le, gd, h_o, hbd, h_pS, h_pL, h_sg, h_lb, h_oS, h_oL, h_rw, h_fr, h_pi, h_fo, h_al, h_on, h_tw, h_sm, h_av, h_po, h_le, h_gd, hrg⟩ := hS
  have hpS : ∀ j, inI (pS j) := fun j => (hrg j).1
  have hpL : ∀ j, inI (pL j) := fun j => (hrg j).2.1
  have hsg : ∀ j, inI (sg j) := fun j => (hrg j).2.2.1
  have hlb : ∀ j, inI (lb j) := fun j => (hrg j).2.2.2.1
  have hoS : ∀ j, inI (oS j) := fun j => (hrg j).2.2.2.2.1
  have hoL : ∀ j, inI (oL j) := fun j => (hrg j).2.2.2.2.2.1
  have hrw : ∀ j, inI (rw j) := fun j => (hrg j).2.2.2.2.2.2.1
  have hfo : ∀ j, inI (fo j) := fun j => (hrg j).2.2.2.2.2.2.2.1
  have hal : ∀ j, inI (al j) := fun j => (hrg j).2.2.2.2.2.2.2.2
  refine lv_iload_n hx hb d_MM_change_0 rfl (lv_at hl 1 rfl) ?_
  refine zq_if_lt (tgt := 12) hx hb d_MM_change_1 (by decide) hk0 (fun hc1 => ?_) (fun hc1 => ?_)
  · refine lv_iconst (v := iI 0) hx hb d_MM_change_12 rfl ?_
    exact zq_zret hx hb hr rfl hlocks hZ hw ⟨0, rfl, Or.inl ⟨by omega, rfl, rfl⟩⟩ d_MM_change_13
  · refine lv_iload_n hx hb d_MM_change_4 rfl (lv_at hl 1 rfl) ?_
    refine lv_aload_n hx hb d_MM_change_5 rfl (lv_at hl 0 rfl) ?_
    refine zq_get hx hb hts i_MM hown hK hw h_o rfl 5 (by decide) (hts _ tw_591) rfl d_MM_change_6 ?_
    refine zq_icmp_lt (tgt := 14) hx hb d_MM_change_9 (by decide) hk0 ⟨by omega, by omega⟩ (fun hc2 => ?_) (fun hc2 => ?_)
    · refine lv_aload_n hx hb d_MM_change_14 rfl (lv_at hl 0 rfl) ?_
      refine lv_iload_n hx hb d_MM_change_15 rfl (lv_at hl 1 rfl) ?_
      refine zq_callV (As := [.int (iI k)]) (rest := []) ⟨hx, hb, hml, hown, hts⟩ (c_MM_upperIn l D K M o bd th put wr nn cir oN oC lbs fcs arcs mns kn sg  k h_o hbd h_sg hsg ⟨by omega, by omega⟩) (cwV 1 hts (zg_V tw_848 tw_850 ts_54 tw_10 tw_851) rfl rfl rfl (by decide +kernel) ⟨Nat.le_of_ble_eq_true rfl, Nat.le_of_ble_eq_true rfl⟩) hZ hw hA h_o rfl rfl rfl rfl hl.1 (Nat.le_of_ble_eq_true rfl) d_MM_change_16 ⟨Nat.le_of_ble_eq_true rfl, Nat.le_of_ble_eq_true rfl⟩ (fun v M3 H locs hp hw => ?_)
      obtain ⟨rfl, hMe⟩ := hp
      rw [hMe] at hw
      refine W.eq (g2 := F0 m 19 ls [.int (iI (if 0 < sg k then 3 else 1))]) rfl ?_
      refine lv_istore_n (lv' := [(2, .int (iI (if 0 < sg k then 3 else 1))), (0, .ref o), (1, .int (iI k))]) hx hb d_MM_change_19 rfl hl (by decide) rfl (fun ls hl => ?_)
      obtain ⟨bg, hbg⟩ : ∃ z : Int, z = if 0 < sg k then 3 else 1 := ⟨_, rfl⟩
      rw [← hbg] at hl
      have hbg2 : bg = 1 ∨ bg = 3 := by rw [hbg]; split; exact Or.inr rfl; exact Or.inl rfl
      have hL1 : ∀ (n : Nat) (i : Int) (g : Int → Int) (Mq : zq_M) (H : Heap) (locs : List Loc) (ls : Array Slot), (0 ≤ i ∧ i ≤ 4) → (∀ z, g z = if 0 ≤ z ∧ z < i then (fun z => lb (4 * k + (bg + z) % 4)) z else fr z) → (4 - i).toNat < n → (∀ q, q ≠ o → (∀ i, i < 18 → q ≠ bd i) → Mq q = M q) → Mq o = some (.inr (9, [.int (iI th), .int (iI put), .int (iI wr), .ref (bd 0), .ref (bd 1), .int (iI nn), .int (iI cir), .int (iI oN), .int (iI oC), .ref (bd 2), .ref (bd 3), .ref (bd 4), .ref (bd 5), .int (iI lbs), .ref (bd 6), .ref (bd 7), .ref (bd 8), .int (iI fcs), .ref (bd 9), .int (iI arcs), .ref (bd 10), .ref (bd 11), .ref (bd 12), .ref (bd 13), .int (iI mns), .ref (bd 14), .ref (bd 15), .ref (bd 16), .int (iI kn), .ref (bd 17)])) → Mq (bd 0) = some (cI (K 0) 12 pS) → Mq (bd 1) = some (cI (K 0) 48 pL) → Mq (bd 2) = some (cI (K 0) 12 sg) → Mq (bd 3) = some (cI (K 0) 48 lb) → Mq (bd 4) = some (cI (K 0) 12 oS) → Mq (bd 5) = some (cI (K 0) 48 oL) → Mq (bd 6) = some (cI (K 0) 48 rw) → Mq (bd 7) = some (cI (K 0) 48 g) → Mq (bd 8) = some (cI (K 0) 12 pi) → Mq (bd 9) = some (cI (K 0) 48 fo) → Mq (bd 10) = some (cI (K 0) 40 al) → Mq (bd 11) = some (cI (K 0) 384 on) → Mq (bd 12) = some (cI (K 0) 384 tw) → Mq (bd 13) = some (cJ (K 1) 114688 sm) → Mq (bd 14) = some (cJ (K 1) 2100 av) → Mq (bd 15) = some (cJ (K 1) 14 po) → Mq (bd 16) = some (cJ (K 1) 28 le) → Mq (bd 17) = some (cI (K 0) 384 gd) → zq_W D vwCl A s.heap Mq H locs → lv_has ls 4 [(0, .ref o), (1, .int (iI k)), (2, .int (iI bg)), (3, .int (iI i))] → W p l e ({ frames := 1, cells := 0, slots := 0, locals := 21 } : Room) s m [.ref o, .int (iI k)].toArray below meth co H locs 0 0 (MQ below (zq_Q D vwCl (zT K) (P_MM_change K M o bd put pS pL nn cir sg lb kn arcs al on tw mns av po k) A) [.ref o, .int (iI k)].toArray s 0 0 A) (F0 m 22 ls []) := by
        intro n
        induction n with
        | zero =>
          intro i g Mq H locs ls hi hg hms hfr h_o h_pS h_pL h_sg h_lb h_oS h_oL h_rw h_fr h_pi h_fo h_al h_on h_tw h_sm h_av h_po h_le h_gd hw hl
          exact absurd hms (Nat.not_lt_zero _)
        | succ n ih_hL1 =>
          intro i g Mq H locs ls hi hg hms hfr h_o h_pS h_pL h_sg h_lb h_oS h_oL h_rw h_fr h_pi h_fo h_al h_on h_tw h_sm h_av h_po h_le h_gd hw hl
          refine lv_iload_n hx hb d_MM_change_22 rfl (lv_at hl 3 rfl) ?_
          refine lv_iconst (v := iI 4) hx hb d_MM_change_23 rfl ?_
          refine zq_icmp_ge (tgt := 53) hx hb d_MM_change_24 (by decide) ⟨by omega, by omega⟩ (by decide) (fun hc4 => ?_) (fun hc4 => ?_)
          · have hg4 : ∀ z, 0 ≤ z → z < 4 → g z = lb (4 * k + (bg + z) % 4) := fun z h1 h2 => by rw [hg z, if_pos ⟨h1, by omega⟩]
            have hL2 : ∀ (n : Nat) (i : Int) (g2 : Int → Int) (Mq : zq_M) (H : Heap) (locs : List Loc) (ls : Array Slot), (0 ≤ i ∧ i ≤ 4) → (∀ z, g2 z = if 4 * k ≤ z ∧ z < 4 * k + i then lb (4 * k + (bg + (z - 4 * k)) % 4) else lb z) → (4 - i).toNat < n → (∀ q, q ≠ o → (∀ i, i < 18 → q ≠ bd i) → Mq q = M q) → Mq o = some (.inr (9, [.int (iI th), .int (iI put), .int (iI wr), .ref (bd 0), .ref (bd 1), .int (iI nn), .int (iI cir), .int (iI oN), .int (iI oC), .ref (bd 2), .ref (bd 3), .ref (bd 4), .ref (bd 5), .int (iI lbs), .ref (bd 6), .ref (bd 7), .ref (bd 8), .int (iI fcs), .ref (bd 9), .int (iI arcs), .ref (bd 10), .ref (bd 11), .ref (bd 12), .ref (bd 13), .int (iI mns), .ref (bd 14), .ref (bd 15), .ref (bd 16), .int (iI kn), .ref (bd 17)])) → Mq (bd 0) = some (cI (K 0) 12 pS) → Mq (bd 1) = some (cI (K 0) 48 pL) → Mq (bd 2) = some (cI (K 0) 12 sg) → Mq (bd 3) = some (cI (K 0) 48 g2) → Mq (bd 4) = some (cI (K 0) 12 oS) → Mq (bd 5) = some (cI (K 0) 48 oL) → Mq (bd 6) = some (cI (K 0) 48 rw) → Mq (bd 7) = some (cI (K 0) 48 g) → Mq (bd 8) = some (cI (K 0) 12 pi) → Mq (bd 9) = some (cI (K 0) 48 fo) → Mq (bd 10) = some (cI (K 0) 40 al) → Mq (bd 11) = some (cI (K 0) 384 on) → Mq (bd 12) = some (cI (K 0) 384 tw) → Mq (bd 13) = some (cJ (K 1) 114688 sm) → Mq (bd 14) = some (cJ (K 1) 2100 av) → Mq (bd 15) = some (cJ (K 1) 14 po) → Mq (bd 16) = some (cJ (K 1) 28 le) → Mq (bd 17) = some (cI (K 0) 384 gd) → zq_W D vwCl A s.heap Mq H locs → lv_has ls 4 [(0, .ref o), (1, .int (iI k)), (3, .int (iI i))] → W p l e ({ frames := 1, cells := 0, slots := 0, locals := 21 } : Room) s m [.ref o, .int (iI k)].toArray below meth co H locs 0 0 (MQ below (zq_Q D vwCl (zT K) (P_MM_change K M o bd put pS pL nn cir sg lb kn arcs al on tw mns av po k) A) [.ref o, .int (iI k)].toArray s 0 0 A) (F0 m 55 ls []) := by
              intro n
              induction n with
              | zero =>
                intro i g2 Mq H locs ls hi hg2 hms hfr h_o h_pS h_pL h_sg h_lb h_oS h_oL h_rw h_fr h_pi h_fo h_al h_on h_tw h_sm h_av h_po h_le h_gd hw hl
                exact absurd hms (Nat.not_lt_zero _)
              | succ n ih_hL2 =>
                intro i g2 Mq H locs ls hi hg2 hms hfr h_o h_pS h_pL h_sg h_lb h_oS h_oL h_rw h_fr h_pi h_fo h_al h_on h_tw h_sm h_av h_po h_le h_gd hw hl
                refine lv_iload_n hx hb d_MM_change_55 rfl (lv_at hl 2 rfl) ?_
                refine lv_iconst (v := iI 4) hx hb d_MM_change_56 rfl ?_
                refine zq_icmp_ge (tgt := 82) hx hb d_MM_change_57 (by decide) ⟨by omega, by omega⟩ (by decide) (fun hc5 => ?_) (fun hc5 => ?_)
                · have eg : g2 = zch lb k bg := funext fun z => by rw [hg2 z, show i = 4 by omega]; rfl
                  subst eg
                  have hsk1 := hsk k (by omega) (by omega)
                  have hneg : inI (-sg k) := ⟨by omega, by omega⟩
                  refine lv_aload_n hx hb d_MM_change_82 rfl (lv_at hl 0 rfl) ?_
                  refine zq_get hx hb hts i_MM hown hK hw h_o rfl 9 (by decide) (hts _ tw_595) rfl d_MM_change_83 ?_
                  refine lv_iload_n hx hb d_MM_change_86 rfl (lv_at hl 1 rfl) ?_
                  refine lv_aload_n hx hb d_MM_change_87 rfl (lv_at hl 0 rfl) ?_
                  refine zq_get hx hb hts i_MM hown hK hw h_o rfl 9 (by decide) (hts _ tw_595) rfl d_MM_change_88 ?_
                  refine lv_iload_n hx hb d_MM_change_91 rfl (lv_at hl 1 rfl) ?_
                  refine zq_iald hx hb hK hw 0 h_sg rfl (by omega) (by omega) (by decide) d_MM_change_92 ?_
                  refine zq_ineg hx hb d_MM_change_93 ?_
                  refine zq_iast hx hb hK hw 0 h_sg rfl (by omega) (by omega) (by decide) d_MM_change_94 (fun M6 H locs hs ho hw => ?_)
                  have h_o : M6 o = some (.inr (9, [.int (iI th), .int (iI put), .int (iI wr), .ref (bd 0), .ref (bd 1), .int (iI nn), .int (iI cir), .int (iI oN), .int (iI oC), .ref (bd 2), .ref (bd 3), .ref (bd 4), .ref (bd 5), .int (iI lbs), .ref (bd 6), .ref (bd 7), .ref (bd 8), .int (iI fcs), .ref (bd 9), .int (iI arcs), .ref (bd 10), .ref (bd 11), .ref (bd 12), .ref (bd 13), .int (iI mns), .ref (bd 14), .ref (bd 15), .ref (bd 16), .int (iI kn), .ref (bd 17)])) := (ho _ (zq_ne h_o h_sg (by simp))).trans h_o
                  have h_pS : M6 (bd 0) = some (cI (K 0) 12 pS) := (ho _ (zbd hbd 0 2)).trans h_pS
                  have h_pL : M6 (bd 1) = some (cI (K 0) 48 pL) := (ho _ (zbd hbd 1 2)).trans h_pL
                  have h_lb : M6 (bd 3) = some (cI (K 0) 48 (zch lb k bg)) := (ho _ (Ne.symm (zbd hbd 2 3))).trans h_lb
                  have h_oS : M6 (bd 4) = some (cI (K 0) 12 oS) := (ho _ (Ne.symm (zbd hbd 2 4))).trans h_oS
                  have h_oL : M6 (bd 5) = some (cI (K 0) 48 oL) := (ho _ (Ne.symm (zbd hbd 2 5))).trans h_oL
                  have h_rw : M6 (bd 6) = some (cI (K 0) 48 rw) := (ho _ (Ne.symm (zbd hbd 2 6))).trans h_rw
                  have h_fr : M6 (bd 7) = some (cI (K 0) 48 g) := (ho _ (Ne.symm (zbd hbd 2 7))).trans h_fr
                  have h_pi : M6 (bd 8) = some (cI (K 0) 12 pi) := (ho _ (Ne.symm (zbd hbd 2 8))).trans h_pi
                  have h_fo : M6 (bd 9) = some (cI (K 0) 48 fo) := (ho _ (Ne.symm (zbd hbd 2 9))).trans h_fo
                  have h_al : M6 (bd 10) = some (cI (K 0) 40 al) := (ho _ (Ne.symm (zbd hbd 2 10))).trans h_al
                  have h_on : M6 (bd 11) = some (cI (K 0) 384 on) := (ho _ (Ne.symm (zbd hbd 2 11))).trans h_on
                  have h_tw : M6 (bd 12) = some (cI (K 0) 384 tw) := (ho _ (Ne.symm (zbd hbd 2 12))).trans h_tw
                  have h_sm : M6 (bd 13) = some (cJ (K 1) 114688 sm) := (ho _ (Ne.symm (zbd hbd 2 13))).trans h_sm
                  have h_av : M6 (bd 14) = some (cJ (K 1) 2100 av) := (ho _ (Ne.symm (zbd hbd 2 14))).trans h_av
                  have h_po : M6 (bd 15) = some (cJ (K 1) 14 po) := (ho _ (Ne.symm (zbd hbd 2 15))).trans h_po
                  have h_le : M6 (bd 16) = some (cJ (K 1) 28 le) := (ho _ (Ne.symm (zbd hbd 2 16))).trans h_le
                  have h_gd : M6 (bd 17) = some (cI (K 0) 384 gd) := (ho _ (Ne.symm (zbd hbd 2 17))).trans h_gd
                  have h_sg : M6 (bd 2) = some (cI (K 0) 12 (zu sg k (-(sg k)))) := hs
                  have hfr : ∀ q, q ≠ o → (∀ i, i < 18 → q ≠ bd i) → M6 q = M q := fun q g0 g1 => (ho q (g1 2 (by decide))).trans (hfr q g0 g1)
                  refine lv_aload_n hx hb d_MM_change_95 rfl (lv_at hl 0 rfl) ?_
                  refine lv_iconst (v := iI 0) hx hb d_MM_change_96 rfl ?_
                  refine zq_put (ci := 9) (v := .int (iI 0)) (ty := .boolean) hx hb hts i_MM t_MM t_MM_ok n_MM hown hK hw h_o rfl 28 (by decide) (hts _ tw_614) rfl (by decide +kernel) rfl rfl (Nat.le_of_ble_eq_true rfl) d_MM_change_97 (fun M7 H locs hs ho hw => ?_)
                  have h_pS : M7 (bd 0) = some (cI (K 0) 12 pS) := (ho _ (zq_ne h_pS h_o (by simp))).trans h_pS
                  have h_pL : M7 (bd 1) = some (cI (K 0) 48 pL) := (ho _ (zq_ne h_pL h_o (by simp))).trans h_pL
                  have h_sg : M7 (bd 2) = some (cI (K 0) 12 (zu sg k (-(sg k)))) := (ho _ (zq_ne h_sg h_o (by simp))).trans h_sg
                  have h_lb : M7 (bd 3) = some (cI (K 0) 48 (zch lb k bg)) := (ho _ (zq_ne h_lb h_o (by simp))).trans h_lb
                  have h_oS : M7 (bd 4) = some (cI (K 0) 12 oS) := (ho _ (zq_ne h_oS h_o (by simp))).trans h_oS
                  have h_oL : M7 (bd 5) = some (cI (K 0) 48 oL) := (ho _ (zq_ne h_oL h_o (by simp))).trans h_oL
                  have h_rw : M7 (bd 6) = some (cI (K 0) 48 rw) := (ho _ (zq_ne h_rw h_o (by simp))).trans h_rw
                  have h_fr : M7 (bd 7) = some (cI (K 0) 48 g) := (ho _ (zq_ne h_fr h_o (by simp))).trans h_fr
                  have h_pi : M7 (bd 8) = some (cI (K 0) 12 pi) := (ho _ (zq_ne h_pi h_o (by simp))).trans h_pi
                  have h_fo : M7 (bd 9) = some (cI (K 0) 48 fo) := (ho _ (zq_ne h_fo h_o (by simp))).trans h_fo
                  have h_al : M7 (bd 10) = some (cI (K 0) 40 al) := (ho _ (zq_ne h_al h_o (by simp))).trans h_al
                  have h_on : M7 (bd 11) = some (cI (K 0) 384 on) := (ho _ (zq_ne h_on h_o (by simp))).trans h_on
                  have h_tw : M7 (bd 12) = some (cI (K 0) 384 tw) := (ho _ (zq_ne h_tw h_o (by simp))).trans h_tw
                  have h_sm : M7 (bd 13) = some (cJ (K 1) 114688 sm) := (ho _ (zq_ne h_sm h_o (by simp))).trans h_sm
                  have h_av : M7 (bd 14) = some (cJ (K 1) 2100 av) := (ho _ (zq_ne h_av h_o (by simp))).trans h_av
                  have h_po : M7 (bd 15) = some (cJ (K 1) 14 po) := (ho _ (zq_ne h_po h_o (by simp))).trans h_po
                  have h_le : M7 (bd 16) = some (cJ (K 1) 28 le) := (ho _ (zq_ne h_le h_o (by simp))).trans h_le
                  have h_gd : M7 (bd 17) = some (cI (K 0) 384 gd) := (ho _ (zq_ne h_gd h_o (by simp))).trans h_gd
                  have h_o : M7 o = some (.inr (9, [.int (iI th), .int (iI put), .int (iI wr), .ref (bd 0), .ref (bd 1), .int (iI nn), .int (iI cir), .int (iI oN), .int (iI oC), .ref (bd 2), .ref (bd 3), .ref (bd 4), .ref (bd 5), .int (iI lbs), .ref (bd 6), .ref (bd 7), .ref (bd 8), .int (iI fcs), .ref (bd 9), .int (iI arcs), .ref (bd 10), .ref (bd 11), .ref (bd 12), .ref (bd 13), .int (iI mns), .ref (bd 14), .ref (bd 15), .ref (bd 16), .int (iI 0), .ref (bd 17)])) := hs
                  have hfr : ∀ q, q ≠ o → (∀ i, i < 18 → q ≠ bd i) → M7 q = M q := fun q g0 g1 => (ho q g0).trans (hfr q g0 g1)
                  refine lv_iconst (v := iI 1) hx hb d_MM_change_100 rfl ?_
                  exact zq_zret hx hb hr rfl hlocks hZ hw ⟨1, rfl, Or.inr ⟨⟨by omega, by omega⟩, rfl, bg, hbg, ⟨_, _, _, _, _, _, _, _, _, _, _, _, _, _, _, h_o, hbd, h_pS, h_pL, h_sg, h_lb, h_oS, h_oL, h_rw, h_fr, h_pi, h_fo, h_al, h_on, h_tw, h_sm, h_av, h_po, h_le, h_gd, fun j => ⟨hpS j, hpL j, (zu_in hsg hneg) j, (zch_in hlb) j, hoS j, hoL j, hrw j, hfo j, hal j⟩⟩, hfr⟩⟩ d_MM_change_101
                · refine lv_aload_n hx hb d_MM_change_60 rfl (lv_at hl 0 rfl) ?_
                  refine zq_get hx hb hts i_MM hown hK hw h_o rfl 10 (by decide) (hts _ tw_596) rfl d_MM_change_61 ?_
                  refine lv_iconst (v := iI 4) hx hb d_MM_change_64 rfl ?_
                  refine lv_iload_n hx hb d_MM_change_65 rfl (lv_at hl 1 rfl) ?_
                  refine zq_imul hx hb d_MM_change_66 ?_
                  refine lv_iload_n hx hb d_MM_change_67 rfl (lv_at hl 2 rfl) ?_
                  refine zq_iadd hx hb d_MM_change_68 ?_
                  refine lv_aload_n hx hb d_MM_change_69 rfl (lv_at hl 0 rfl) ?_
                  refine zq_get hx hb hts i_MM hown hK hw h_o rfl 15 (by decide) (hts _ tw_601) rfl d_MM_change_70 ?_
                  refine lv_iload_n hx hb d_MM_change_73 rfl (lv_at hl 2 rfl) ?_
                  refine zq_iald hx hb hK hw 0 h_fr rfl (by omega) (by omega) (by decide) d_MM_change_74 ?_
                  refine zq_iast hx hb hK hw 0 h_lb rfl (by omega) (by omega) (by decide) d_MM_change_75 (fun M8 H locs hs ho hw => ?_)
                  have h_o : M8 o = some (.inr (9, [.int (iI th), .int (iI put), .int (iI wr), .ref (bd 0), .ref (bd 1), .int (iI nn), .int (iI cir), .int (iI oN), .int (iI oC), .ref (bd 2), .ref (bd 3), .ref (bd 4), .ref (bd 5), .int (iI lbs), .ref (bd 6), .ref (bd 7), .ref (bd 8), .int (iI fcs), .ref (bd 9), .int (iI arcs), .ref (bd 10), .ref (bd 11), .ref (bd 12), .ref (bd 13), .int (iI mns), .ref (bd 14), .ref (bd 15), .ref (bd 16), .int (iI kn), .ref (bd 17)])) := (ho _ (zq_ne h_o h_lb (by simp))).trans h_o
                  have h_pS : M8 (bd 0) = some (cI (K 0) 12 pS) := (ho _ (zbd hbd 0 3)).trans h_pS
                  have h_pL : M8 (bd 1) = some (cI (K 0) 48 pL) := (ho _ (zbd hbd 1 3)).trans h_pL
                  have h_sg : M8 (bd 2) = some (cI (K 0) 12 sg) := (ho _ (zbd hbd 2 3)).trans h_sg
                  have h_oS : M8 (bd 4) = some (cI (K 0) 12 oS) := (ho _ (Ne.symm (zbd hbd 3 4))).trans h_oS
                  have h_oL : M8 (bd 5) = some (cI (K 0) 48 oL) := (ho _ (Ne.symm (zbd hbd 3 5))).trans h_oL
                  have h_rw : M8 (bd 6) = some (cI (K 0) 48 rw) := (ho _ (Ne.symm (zbd hbd 3 6))).trans h_rw
                  have h_fr : M8 (bd 7) = some (cI (K 0) 48 g) := (ho _ (Ne.symm (zbd hbd 3 7))).trans h_fr
                  have h_pi : M8 (bd 8) = some (cI (K 0) 12 pi) := (ho _ (Ne.symm (zbd hbd 3 8))).trans h_pi
                  have h_fo : M8 (bd 9) = some (cI (K 0) 48 fo) := (ho _ (Ne.symm (zbd hbd 3 9))).trans h_fo
                  have h_al : M8 (bd 10) = some (cI (K 0) 40 al) := (ho _ (Ne.symm (zbd hbd 3 10))).trans h_al
                  have h_on : M8 (bd 11) = some (cI (K 0) 384 on) := (ho _ (Ne.symm (zbd hbd 3 11))).trans h_on
                  have h_tw : M8 (bd 12) = some (cI (K 0) 384 tw) := (ho _ (Ne.symm (zbd hbd 3 12))).trans h_tw
                  have h_sm : M8 (bd 13) = some (cJ (K 1) 114688 sm) := (ho _ (Ne.symm (zbd hbd 3 13))).trans h_sm
                  have h_av : M8 (bd 14) = some (cJ (K 1) 2100 av) := (ho _ (Ne.symm (zbd hbd 3 14))).trans h_av
                  have h_po : M8 (bd 15) = some (cJ (K 1) 14 po) := (ho _ (Ne.symm (zbd hbd 3 15))).trans h_po
                  have h_le : M8 (bd 16) = some (cJ (K 1) 28 le) := (ho _ (Ne.symm (zbd hbd 3 16))).trans h_le
                  have h_gd : M8 (bd 17) = some (cI (K 0) 384 gd) := (ho _ (Ne.symm (zbd hbd 3 17))).trans h_gd
                  have h_lb : M8 (bd 3) = some (cI (K 0) 48 (zu g2 ((4 * k) + i) (g i))) := hs
                  have hfr : ∀ q, q ≠ o → (∀ i, i < 18 → q ≠ bd i) → M8 q = M q := fun q g0 g1 => (ho q (g1 3 (by decide))).trans (hfr q g0 g1)
                  refine lv_iinc (v := iI (i + 1)) (lv' := [(3, .int (iI (i + 1))), (0, .ref o), (1, .int (iI k))]) hx hb d_MM_change_76 hl (k := 2) rfl (iI_add _ _) (by decide) rfl (fun ls hl => ?_)
                  refine lv_goto (tgt := 55) hx hb d_MM_change_79 (by decide) ?_
                  exact ih_hL2 (i + 1) (zu g2 ((4 * k) + i) (g i)) M8 _ _ _ (by omega) (zch_s hg2 (hg4 i (by omega) (by omega)) hi.1) (by omega) hfr h_o h_pS h_pL h_sg h_lb h_oS h_oL h_rw h_fr h_pi h_fo h_al h_on h_tw h_sm h_av h_po h_le h_gd hw (lv_sub hl [1, 2, 0] rfl)
            refine lv_iconst (v := iI 0) hx hb d_MM_change_53 rfl ?_
            refine lv_istore_n (lv' := [(3, .int (iI 0)), (0, .ref o), (1, .int (iI k)), (2, .int (iI bg))]) hx hb d_MM_change_54 rfl hl (by decide) rfl (fun ls hl => ?_)
            exact hL2 _ 0 lb Mq _ _ _ ⟨by omega, by omega⟩ (fun z => (if_neg (by omega)).symm) (Nat.lt_succ_self _) hfr h_o h_pS h_pL h_sg h_lb h_oS h_oL h_rw h_fr h_pi h_fo h_al h_on h_tw h_sm h_av h_po h_le h_gd hw (lv_sub hl [1, 2, 0] rfl)
          · refine lv_aload_n hx hb d_MM_change_27 rfl (lv_at hl 0 rfl) ?_
            refine zq_get hx hb hts i_MM hown hK hw h_o rfl 15 (by decide) (hts _ tw_601) rfl d_MM_change_28 ?_
            refine lv_iload_n hx hb d_MM_change_31 rfl (lv_at hl 3 rfl) ?_
            refine lv_aload_n hx hb d_MM_change_32 rfl (lv_at hl 0 rfl) ?_
            refine zq_get hx hb hts i_MM hown hK hw h_o rfl 10 (by decide) (hts _ tw_596) rfl d_MM_change_33 ?_
            refine lv_iconst (v := iI 4) hx hb d_MM_change_36 rfl ?_
            refine lv_iload_n hx hb d_MM_change_37 rfl (lv_at hl 1 rfl) ?_
            refine zq_imul hx hb d_MM_change_38 ?_
            refine lv_iload_n hx hb d_MM_change_39 rfl (lv_at hl 2 rfl) ?_
            refine lv_iload_n hx hb d_MM_change_40 rfl (lv_at hl 3 rfl) ?_
            refine zq_iadd hx hb d_MM_change_41 ?_
            refine lv_iconst (v := iI 4) hx hb d_MM_change_42 rfl ?_
            refine zq_irem hx hb (by omega) ⟨by omega, by omega⟩ (by decide) (by decide) d_MM_change_43 ?_
            refine zq_iadd hx hb d_MM_change_44 ?_
            refine zq_iald hx hb hK hw 0 h_lb rfl (by omega) (by omega) (by decide) d_MM_change_45 ?_
            refine zq_iast hx hb hK hw 0 h_fr rfl (by omega) (by omega) (by decide) d_MM_change_46 (fun M9 H locs hs ho hw => ?_)
            have h_o : M9 o = some (.inr (9, [.int (iI th), .int (iI put), .int (iI wr), .ref (bd 0), .ref (bd 1), .int (iI nn), .int (iI cir), .int (iI oN), .int (iI oC), .ref (bd 2), .ref (bd 3), .ref (bd 4), .ref (bd 5), .int (iI lbs), .ref (bd 6), .ref (bd 7), .ref (bd 8), .int (iI fcs), .ref (bd 9), .int (iI arcs), .ref (bd 10), .ref (bd 11), .ref (bd 12), .ref (bd 13), .int (iI mns), .ref (bd 14), .ref (bd 15), .ref (bd 16), .int (iI kn), .ref (bd 17)])) := (ho _ (zq_ne h_o h_fr (by simp))).trans h_o
            have h_pS : M9 (bd 0) = some (cI (K 0) 12 pS) := (ho _ (zbd hbd 0 7)).trans h_pS
            have h_pL : M9 (bd 1) = some (cI (K 0) 48 pL) := (ho _ (zbd hbd 1 7)).trans h_pL
            have h_sg : M9 (bd 2) = some (cI (K 0) 12 sg) := (ho _ (zbd hbd 2 7)).trans h_sg
            have h_lb : M9 (bd 3) = some (cI (K 0) 48 lb) := (ho _ (zbd hbd 3 7)).trans h_lb
            have h_oS : M9 (bd 4) = some (cI (K 0) 12 oS) := (ho _ (zbd hbd 4 7)).trans h_oS
            have h_oL : M9 (bd 5) = some (cI (K 0) 48 oL) := (ho _ (zbd hbd 5 7)).trans h_oL
            have h_rw : M9 (bd 6) = some (cI (K 0) 48 rw) := (ho _ (zbd hbd 6 7)).trans h_rw
            have h_pi : M9 (bd 8) = some (cI (K 0) 12 pi) := (ho _ (Ne.symm (zbd hbd 7 8))).trans h_pi
            have h_fo : M9 (bd 9) = some (cI (K 0) 48 fo) := (ho _ (Ne.symm (zbd hbd 7 9))).trans h_fo
            have h_al : M9 (bd 10) = some (cI (K 0) 40 al) := (ho _ (Ne.symm (zbd hbd 7 10))).trans h_al
            have h_on : M9 (bd 11) = some (cI (K 0) 384 on) := (ho _ (Ne.symm (zbd hbd 7 11))).trans h_on
            have h_tw : M9 (bd 12) = some (cI (K 0) 384 tw) := (ho _ (Ne.symm (zbd hbd 7 12))).trans h_tw
            have h_sm : M9 (bd 13) = some (cJ (K 1) 114688 sm) := (ho _ (Ne.symm (zbd hbd 7 13))).trans h_sm
            have h_av : M9 (bd 14) = some (cJ (K 1) 2100 av) := (ho _ (Ne.symm (zbd hbd 7 14))).trans h_av
            have h_po : M9 (bd 15) = some (cJ (K 1) 14 po) := (ho _ (Ne.symm (zbd hbd 7 15))).trans h_po
            have h_le : M9 (bd 16) = some (cJ (K 1) 28 le) := (ho _ (Ne.symm (zbd hbd 7 16))).trans h_le
            have h_gd : M9 (bd 17) = some (cI (K 0) 384 gd) := (ho _ (Ne.symm (zbd hbd 7 17))).trans h_gd
            have h_fr : M9 (bd 7) = some (cI (K 0) 48 (zu g i (lb ((4 * k) + ((bg + i) % 4))))) := hs
            have hfr : ∀ q, q ≠ o → (∀ i, i < 18 → q ≠ bd i) → M9 q = M q := fun q g0 g1 => (ho q (g1 7 (by decide))).trans (hfr q g0 g1)
            refine lv_iinc (v := iI (i + 1)) (lv' := [(3, .int (iI (i + 1))), (0, .ref o), (1, .int (iI k)), (2, .int (iI bg))]) hx hb d_MM_change_47 hl (k := 3) rfl (iI_add _ _) (by decide) rfl (fun ls hl => ?_)
            refine lv_goto (tgt := 22) hx hb d_MM_change_50 (by decide) ?_
            exact ih_hL1 (i + 1) (zu g i (lb ((4 * k) + ((bg + i) % 4)))) M9 _ _ _ (by omega) (zcp_step hg hi.1) (by omega) hfr h_o h_pS h_pL h_sg h_lb h_oS h_oL h_rw h_fr h_pi h_fo h_al h_on h_tw h_sm h_av h_po h_le h_gd hw (lv_sub hl [1, 2, 3, 0] rfl)
      refine lv_iconst (v := iI 0) hx hb d_MM_change_20 rfl ?_
      refine lv_istore_n (lv' := [(3, .int (iI 0)), (2, .int (iI bg)), (0, .ref o), (1, .int (iI k))]) hx hb d_MM_change_21 rfl hl (by decide) rfl (fun ls hl => ?_)
      exact hL1 _ 0 fr M _ _ _ ⟨by omega, by omega⟩ (fun z => (if_neg (by omega)).symm) (Nat.lt_succ_self _) hfr h_o h_pS h_pL h_sg h_lb h_oS h_oL h_rw h_fr h_pi h_fo h_al h_on h_tw h_sm h_av h_po h_le h_gd hw (lv_sub hl [2, 3, 1, 0] rfl)
    · refine lv_iconst (v := iI 0) hx hb d_MM_change_12 rfl ?_
      exact zq_zret hx hb hr rfl hlocks hZ hw ⟨0, rfl, Or.inl ⟨by omega, rfl, rfl⟩⟩ d_MM_change_13
abbrev P_MM_rename (K : Nat → ClassId) (M : zq_M) (o : Nat) (bd : Nat → Nat) (th : Int) (put : Int) (wr : Int) (nn : Int) (cir : Int) (oN : Int) (oC : Int) (lbs : Int) (fcs : Int) (arcs : Int) (mns : Int) (kn : Int) (lb : Int → Int) (fr : Int → Int) (ra : Int) (rb : Int) : Option Value → zq_M → Prop := fun v M' => v = none ∧ M' (bd 3) = some (cI (K 0) 48 (zrn lb (4 * nn) ra rb)) ∧ M' (bd 7) = some (cI (K 0) 48 (zrn fr 4 ra rb)) ∧ ∀ q, q ≠ (bd 3) → q ≠ (bd 7) → M' q = M q
set_option maxHeartbeats 4000000 in
set_option maxRecDepth 100000 in
theorem c_MM_rename (l : Launch) (D : va_G) (K : Nat → ClassId) (M : zq_M) (o : Nat) (bd : Nat → Nat) (th : Int) (put : Int) (wr : Int) (nn : Int) (cir : Int) (oN : Int) (oC : Int) (lbs : Int) (fcs : Int) (arcs : Int) (mns : Int) (kn : Int) (lb : Int → Int) (fr : Int → Int) (ra : Int) (rb : Int) (h_o : M o = some (.inr (9, [.int (iI th), .int (iI put), .int (iI wr), .ref (bd 0), .ref (bd 1), .int (iI nn), .int (iI cir), .int (iI oN), .int (iI oC), .ref (bd 2), .ref (bd 3), .ref (bd 4), .ref (bd 5), .int (iI lbs), .ref (bd 6), .ref (bd 7), .ref (bd 8), .int (iI fcs), .ref (bd 9), .int (iI arcs), .ref (bd 10), .ref (bd 11), .ref (bd 12), .ref (bd 13), .int (iI mns), .ref (bd 14), .ref (bd 15), .ref (bd 16), .int (iI kn), .ref (bd 17)]))) (hbd : ∀ i j, i < 18 → j < 18 → bd i = bd j → i = j) (h_lb : M (bd 3) = some (cI (K 0) 48 lb)) (h_fr : M (bd 7) = some (cI (K 0) 48 fr)) (hlb : ∀ j, inI (lb j)) (hnn : 0 ≤ nn ∧ nn ≤ 12) (hf4 : ∀ z, 0 ≤ z → z < 4 → inI (fr z)) (hra : inI ra) : zq_Met l y_MM_rename (.code y_MM_rename b_MM_rename 4 none :: lw_gd) { frames := 0, cells := 0, slots := 0, locals := 0 } D vwCl (zT K) [.ref o, .int (iI ra), .int (iI rb)] M (P_MM_rename K M o bd th put wr nn cir oN oC lbs fcs arcs mns kn lb fr ra rb) 0 0 := by
  refine zq_start (cc := b_MM_rename) (maxL := 4) (ret := none) (by decide) rfl (Nat.le_of_ble_eq_true rfl) ?_
  intro p e s m below meth co A ls hx hb hr hml hts hown hnm hlocks hA hZ hw hl
  have hts : ∀ w ∈ lw_gd, w.before [.ref o, .int (iI ra), .int (iI rb)].toArray s = true := fun w h => hts w (List.mem_cons_of_mem _ h)
  have hown : s.vm.findClass R_MM = some m.cls := hown
  have hK := hZ.1
  have hl : lv_has ls 4 [(0, .ref o), (1, .int (iI ra)), (2, .int (iI rb))] := hl
  have hfr : ∀ q, q ≠ (bd 3) → q ≠ (bd 7) → M q = M q := fun q _ _ => rfl
  have hL1 : ∀ (n : Nat) (i : Int) (g : Int → Int) (Mq : zq_M) (H : Heap) (locs : List Loc) (ls : Array Slot), (0 ≤ i ∧ i ≤ 4 * nn) → (∀ z, g z = if (0 ≤ z ∧ z < i) ∧ lb z = ra then rb else lb z) → (4 * nn - i).toNat < n → (∀ q, q ≠ (bd 3) → q ≠ (bd 7) → Mq q = M q) → Mq o = some (.inr (9, [.int (iI th), .int (iI put), .int (iI wr), .ref (bd 0), .ref (bd 1), .int (iI nn), .int (iI cir), .int (iI oN), .int (iI oC), .ref (bd 2), .ref (bd 3), .ref (bd 4), .ref (bd 5), .int (iI lbs), .ref (bd 6), .ref (bd 7), .ref (bd 8), .int (iI fcs), .ref (bd 9), .int (iI arcs), .ref (bd 10), .ref (bd 11), .ref (bd 12), .ref (bd 13), .int (iI mns), .ref (bd 14), .ref (bd 15), .ref (bd 16), .int (iI kn), .ref (bd 17)])) → Mq (bd 3) = some (cI (K 0) 48 g) → Mq (bd 7) = some (cI (K 0) 48 fr) → zq_W D vwCl A s.heap Mq H locs → lv_has ls 4 [(0, .ref o), (1, .int (iI ra)), (2, .int (iI rb)), (3, .int (iI i))] → W p l e ({ frames := 0, cells := 0, slots := 0, locals := 0 } : Room) s m [.ref o, .int (iI ra), .int (iI rb)].toArray below meth co H locs 0 0 (MQ below (zq_Q D vwCl (zT K) (P_MM_rename K M o bd th put wr nn cir oN oC lbs fcs arcs mns kn lb fr ra rb) A) [.ref o, .int (iI ra), .int (iI rb)].toArray s 0 0 A) (F0 m 2 ls []) := by
    intro n
    induction n with
    | zero =>
      intro i g Mq H locs ls hi hg hms hfr h_o h_lb h_fr hw hl
      exact absurd hms (Nat.not_lt_zero _)
    | succ n ih_hL1 =>
      intro i g Mq H locs ls hi hg hms hfr h_o h_lb h_fr hw hl
      refine lv_iload_n hx hb d_MM_rename_2 rfl (lv_at hl 3 rfl) ?_
      refine lv_iconst (v := iI 4) hx hb d_MM_rename_3 rfl ?_
      refine lv_aload_n hx hb d_MM_rename_4 rfl (lv_at hl 0 rfl) ?_
      refine zq_get hx hb hts i_MM hown hK hw h_o rfl 5 (by decide) (hts _ tw_591) rfl d_MM_rename_5 ?_
      refine zq_imul hx hb d_MM_rename_8 ?_
      refine zq_icmp_ge (tgt := 44) hx hb d_MM_rename_9 (by decide) ⟨by omega, by omega⟩ ⟨by omega, by omega⟩ (fun hc1 => ?_) (fun hc1 => ?_)
      · have eg : g = zrn lb (4 * nn) ra rb := funext fun z => by rw [hg z, show i = 4 * nn by omega]; rfl
        subst eg
        have hL2 : ∀ (n : Nat) (i : Int) (g2 : Int → Int) (Mq : zq_M) (H : Heap) (locs : List Loc) (ls : Array Slot), (0 ≤ i ∧ i ≤ 4) → (∀ z, g2 z = if (0 ≤ z ∧ z < i) ∧ fr z = ra then rb else fr z) → (4 - i).toNat < n → (∀ q, q ≠ (bd 3) → q ≠ (bd 7) → Mq q = M q) → Mq o = some (.inr (9, [.int (iI th), .int (iI put), .int (iI wr), .ref (bd 0), .ref (bd 1), .int (iI nn), .int (iI cir), .int (iI oN), .int (iI oC), .ref (bd 2), .ref (bd 3), .ref (bd 4), .ref (bd 5), .int (iI lbs), .ref (bd 6), .ref (bd 7), .ref (bd 8), .int (iI fcs), .ref (bd 9), .int (iI arcs), .ref (bd 10), .ref (bd 11), .ref (bd 12), .ref (bd 13), .int (iI mns), .ref (bd 14), .ref (bd 15), .ref (bd 16), .int (iI kn), .ref (bd 17)])) → Mq (bd 3) = some (cI (K 0) 48 (zrn lb (4 * nn) ra rb)) → Mq (bd 7) = some (cI (K 0) 48 g2) → zq_W D vwCl A s.heap Mq H locs → lv_has ls 4 [(0, .ref o), (1, .int (iI ra)), (2, .int (iI rb)), (3, .int (iI i))] → W p l e ({ frames := 0, cells := 0, slots := 0, locals := 0 } : Room) s m [.ref o, .int (iI ra), .int (iI rb)].toArray below meth co H locs 0 0 (MQ below (zq_Q D vwCl (zT K) (P_MM_rename K M o bd th put wr nn cir oN oC lbs fcs arcs mns kn lb fr ra rb) A) [.ref o, .int (iI ra), .int (iI rb)].toArray s 0 0 A) (F0 m 46 ls []) := by
          intro n
          induction n with
          | zero =>
            intro i g2 Mq H locs ls hi hg2 hms hfr h_o h_lb h_fr hw hl
            exact absurd hms (Nat.not_lt_zero _)
          | succ n ih_hL2 =>
            intro i g2 Mq H locs ls hi hg2 hms hfr h_o h_lb h_fr hw hl
            refine lv_iload_n hx hb d_MM_rename_46 rfl (lv_at hl 3 rfl) ?_
            refine lv_iconst (v := iI 4) hx hb d_MM_rename_47 rfl ?_
            refine zq_icmp_ge (tgt := 83) hx hb d_MM_rename_48 (by decide) ⟨by omega, by omega⟩ (by decide) (fun hc2 => ?_) (fun hc2 => ?_)
            · have eg : g2 = zrn fr 4 ra rb := funext fun z => by rw [hg2 z, show i = 4 by omega]; rfl
              subst eg
              exact zq_vret hx hb hr hlocks hZ hw ⟨rfl, h_lb, h_fr, hfr⟩ d_MM_rename_83
            · have hgi : g2 i = fr i := by rw [hg2, if_neg (fun q => by omega)]
              refine lv_aload_n hx hb d_MM_rename_51 rfl (lv_at hl 0 rfl) ?_
              refine zq_get hx hb hts i_MM hown hK hw h_o rfl 15 (by decide) (hts _ tw_601) rfl d_MM_rename_52 ?_
              refine lv_iload_n hx hb d_MM_rename_55 rfl (lv_at hl 3 rfl) ?_
              refine lv_aload_n hx hb d_MM_rename_56 rfl (lv_at hl 0 rfl) ?_
              refine zq_get hx hb hts i_MM hown hK hw h_o rfl 15 (by decide) (hts _ tw_601) rfl d_MM_rename_57 ?_
              refine lv_iload_n hx hb d_MM_rename_60 rfl (lv_at hl 3 rfl) ?_
              refine zq_iald hx hb hK hw 0 h_fr rfl (by omega) (by omega) (by decide) d_MM_rename_61 ?_
              refine lv_iload_n hx hb d_MM_rename_62 rfl (lv_at hl 1 rfl) ?_
              refine zq_icmp_ne (tgt := 70) hx hb d_MM_rename_63 (by decide) (by rw [hgi]; exact hf4 _ (by omega) (by omega)) hra (fun hc3 => ?_) (fun hc3 => ?_)
              · refine lv_aload_n hx hb d_MM_rename_70 rfl (lv_at hl 0 rfl) ?_
                refine zq_get hx hb hts i_MM hown hK hw h_o rfl 15 (by decide) (hts _ tw_601) rfl d_MM_rename_71 ?_
                refine lv_iload_n hx hb d_MM_rename_74 rfl (lv_at hl 3 rfl) ?_
                refine zq_iald hx hb hK hw 0 h_fr rfl (by omega) (by omega) (by decide) d_MM_rename_75 ?_
                refine zq_iast hx hb hK hw 0 h_fr rfl (by omega) (by omega) (by decide) d_MM_rename_76 (fun M4 H locs hs ho hw => ?_)
                have h_o : M4 o = some (.inr (9, [.int (iI th), .int (iI put), .int (iI wr), .ref (bd 0), .ref (bd 1), .int (iI nn), .int (iI cir), .int (iI oN), .int (iI oC), .ref (bd 2), .ref (bd 3), .ref (bd 4), .ref (bd 5), .int (iI lbs), .ref (bd 6), .ref (bd 7), .ref (bd 8), .int (iI fcs), .ref (bd 9), .int (iI arcs), .ref (bd 10), .ref (bd 11), .ref (bd 12), .ref (bd 13), .int (iI mns), .ref (bd 14), .ref (bd 15), .ref (bd 16), .int (iI kn), .ref (bd 17)])) := (ho _ (zq_ne h_o h_fr (by simp))).trans h_o
                have h_lb : M4 (bd 3) = some (cI (K 0) 48 (zrn lb (4 * nn) ra rb)) := (ho _ (zbd hbd 3 7)).trans h_lb
                have h_fr : M4 (bd 7) = some (cI (K 0) 48 (zu g2 i (g2 i))) := hs
                have hfr : ∀ q, q ≠ (bd 3) → q ≠ (bd 7) → M4 q = M q := fun q g0 g1 => (ho q g1).trans (hfr q g0 g1)
                refine lv_iinc (v := iI (i + 1)) (lv' := [(3, .int (iI (i + 1))), (0, .ref o), (1, .int (iI ra)), (2, .int (iI rb))]) hx hb d_MM_rename_77 hl (k := 3) rfl (iI_add _ _) (by decide) rfl (fun ls hl => ?_)
                refine lv_goto (tgt := 46) hx hb d_MM_rename_80 (by decide) ?_
                exact ih_hL2 (i + 1) (zu g2 i (g2 i)) M4 _ _ _ (by omega) (zrn_s hg2 hi.1 (by rw [if_neg (by omega), hgi])) (by omega) hfr h_o h_lb h_fr hw (lv_sub hl [1, 2, 3, 0] rfl)
              · refine lv_iload_n hx hb d_MM_rename_66 rfl (lv_at hl 2 rfl) ?_
                refine lv_goto (tgt := 76) hx hb d_MM_rename_67 (by decide) ?_
                refine zq_iast hx hb hK hw 0 h_fr rfl (by omega) (by omega) (by decide) d_MM_rename_76 (fun M5 H locs hs ho hw => ?_)
                have h_o : M5 o = some (.inr (9, [.int (iI th), .int (iI put), .int (iI wr), .ref (bd 0), .ref (bd 1), .int (iI nn), .int (iI cir), .int (iI oN), .int (iI oC), .ref (bd 2), .ref (bd 3), .ref (bd 4), .ref (bd 5), .int (iI lbs), .ref (bd 6), .ref (bd 7), .ref (bd 8), .int (iI fcs), .ref (bd 9), .int (iI arcs), .ref (bd 10), .ref (bd 11), .ref (bd 12), .ref (bd 13), .int (iI mns), .ref (bd 14), .ref (bd 15), .ref (bd 16), .int (iI kn), .ref (bd 17)])) := (ho _ (zq_ne h_o h_fr (by simp))).trans h_o
                have h_lb : M5 (bd 3) = some (cI (K 0) 48 (zrn lb (4 * nn) ra rb)) := (ho _ (zbd hbd 3 7)).trans h_lb
                have h_fr : M5 (bd 7) = some (cI (K 0) 48 (zu g2 i rb)) := hs
                have hfr : ∀ q, q ≠ (bd 3) → q ≠ (bd 7) → M5 q = M q := fun q g0 g1 => (ho q g1).trans (hfr q g0 g1)
                refine lv_iinc (v := iI (i + 1)) (lv' := [(3, .int (iI (i + 1))), (0, .ref o), (1, .int (iI ra)), (2, .int (iI rb))]) hx hb d_MM_rename_77 hl (k := 3) rfl (iI_add _ _) (by decide) rfl (fun ls hl => ?_)
                refine lv_goto (tgt := 46) hx hb d_MM_rename_80 (by decide) ?_
                exact ih_hL2 (i + 1) (zu g2 i rb) M5 _ _ _ (by omega) (zrn_s hg2 hi.1 (by rw [if_pos (by omega)])) (by omega) hfr h_o h_lb h_fr hw (lv_sub hl [1, 2, 3, 0] rfl)
        refine lv_iconst (v := iI 0) hx hb d_MM_rename_44 rfl ?_
        refine lv_istore_n (lv' := [(3, .int (iI 0)), (0, .ref o), (1, .int (iI ra)), (2, .int (iI rb))]) hx hb d_MM_rename_45 rfl hl (by decide) rfl (fun ls hl => ?_)
        exact hL2 _ 0 fr Mq _ _ _ ⟨by omega, by omega⟩ (fun z => (if_neg (fun q => by omega)).symm) (Nat.lt_succ_self _) hfr h_o h_lb h_fr hw (lv_sub hl [1, 2, 3, 0] rfl)
      · have hgi : g i = lb i := by rw [hg, if_neg (fun q => by omega)]
        refine lv_aload_n hx hb d_MM_rename_12 rfl (lv_at hl 0 rfl) ?_
        refine zq_get hx hb hts i_MM hown hK hw h_o rfl 10 (by decide) (hts _ tw_596) rfl d_MM_rename_13 ?_
        refine lv_iload_n hx hb d_MM_rename_16 rfl (lv_at hl 3 rfl) ?_
        refine lv_aload_n hx hb d_MM_rename_17 rfl (lv_at hl 0 rfl) ?_
        refine zq_get hx hb hts i_MM hown hK hw h_o rfl 10 (by decide) (hts _ tw_596) rfl d_MM_rename_18 ?_
        refine lv_iload_n hx hb d_MM_rename_21 rfl (lv_at hl 3 rfl) ?_
        refine zq_iald hx hb hK hw 0 h_lb rfl (by omega) (by omega) (by decide) d_MM_rename_22 ?_
        refine lv_iload_n hx hb d_MM_rename_23 rfl (lv_at hl 1 rfl) ?_
        refine zq_icmp_ne (tgt := 31) hx hb d_MM_rename_24 (by decide) (by rw [hgi]; exact hlb _) hra (fun hc6 => ?_) (fun hc6 => ?_)
        · refine lv_aload_n hx hb d_MM_rename_31 rfl (lv_at hl 0 rfl) ?_
          refine zq_get hx hb hts i_MM hown hK hw h_o rfl 10 (by decide) (hts _ tw_596) rfl d_MM_rename_32 ?_
          refine lv_iload_n hx hb d_MM_rename_35 rfl (lv_at hl 3 rfl) ?_
          refine zq_iald hx hb hK hw 0 h_lb rfl (by omega) (by omega) (by decide) d_MM_rename_36 ?_
          refine zq_iast hx hb hK hw 0 h_lb rfl (by omega) (by omega) (by decide) d_MM_rename_37 (fun M7 H locs hs ho hw => ?_)
          have h_o : M7 o = some (.inr (9, [.int (iI th), .int (iI put), .int (iI wr), .ref (bd 0), .ref (bd 1), .int (iI nn), .int (iI cir), .int (iI oN), .int (iI oC), .ref (bd 2), .ref (bd 3), .ref (bd 4), .ref (bd 5), .int (iI lbs), .ref (bd 6), .ref (bd 7), .ref (bd 8), .int (iI fcs), .ref (bd 9), .int (iI arcs), .ref (bd 10), .ref (bd 11), .ref (bd 12), .ref (bd 13), .int (iI mns), .ref (bd 14), .ref (bd 15), .ref (bd 16), .int (iI kn), .ref (bd 17)])) := (ho _ (zq_ne h_o h_lb (by simp))).trans h_o
          have h_fr : M7 (bd 7) = some (cI (K 0) 48 fr) := (ho _ (Ne.symm (zbd hbd 3 7))).trans h_fr
          have h_lb : M7 (bd 3) = some (cI (K 0) 48 (zu g i (g i))) := hs
          have hfr : ∀ q, q ≠ (bd 3) → q ≠ (bd 7) → M7 q = M q := fun q g0 g1 => (ho q g0).trans (hfr q g0 g1)
          refine lv_iinc (v := iI (i + 1)) (lv' := [(3, .int (iI (i + 1))), (0, .ref o), (1, .int (iI ra)), (2, .int (iI rb))]) hx hb d_MM_rename_38 hl (k := 3) rfl (iI_add _ _) (by decide) rfl (fun ls hl => ?_)
          refine lv_goto (tgt := 2) hx hb d_MM_rename_41 (by decide) ?_
          exact ih_hL1 (i + 1) (zu g i (g i)) M7 _ _ _ (by omega) (zrn_s hg hi.1 (by rw [if_neg (by omega), hgi])) (by omega) hfr h_o h_lb h_fr hw (lv_sub hl [1, 2, 3, 0] rfl)
        · refine lv_iload_n hx hb d_MM_rename_27 rfl (lv_at hl 2 rfl) ?_
          refine lv_goto (tgt := 37) hx hb d_MM_rename_28 (by decide) ?_
          refine zq_iast hx hb hK hw 0 h_lb rfl (by omega) (by omega) (by decide) d_MM_rename_37 (fun M8 H locs hs ho hw => ?_)
          have h_o : M8 o = some (.inr (9, [.int (iI th), .int (iI put), .int (iI wr), .ref (bd 0), .ref (bd 1), .int (iI nn), .int (iI cir), .int (iI oN), .int (iI oC), .ref (bd 2), .ref (bd 3), .ref (bd 4), .ref (bd 5), .int (iI lbs), .ref (bd 6), .ref (bd 7), .ref (bd 8), .int (iI fcs), .ref (bd 9), .int (iI arcs), .ref (bd 10), .ref (bd 11), .ref (bd 12), .ref (bd 13), .int (iI mns), .ref (bd 14), .ref (bd 15), .ref (bd 16), .int (iI kn), .ref (bd 17)])) := (ho _ (zq_ne h_o h_lb (by simp))).trans h_o
          have h_fr : M8 (bd 7) = some (cI (K 0) 48 fr) := (ho _ (Ne.symm (zbd hbd 3 7))).trans h_fr
          have h_lb : M8 (bd 3) = some (cI (K 0) 48 (zu g i rb)) := hs
          have hfr : ∀ q, q ≠ (bd 3) → q ≠ (bd 7) → M8 q = M q := fun q g0 g1 => (ho q g0).trans (hfr q g0 g1)
          refine lv_iinc (v := iI (i + 1)) (lv' := [(3, .int (iI (i + 1))), (0, .ref o), (1, .int (iI ra)), (2, .int (iI rb))]) hx hb d_MM_rename_38 hl (k := 3) rfl (iI_add _ _) (by decide) rfl (fun ls hl => ?_)
          refine lv_goto (tgt := 2) hx hb d_MM_rename_41 (by decide) ?_
          exact ih_hL1 (i + 1) (zu g i rb) M8 _ _ _ (by omega) (zrn_s hg hi.1 (by rw [if_pos (by omega)])) (by omega) hfr h_o h_lb h_fr hw (lv_sub hl [1, 2, 3, 0] rfl)
  refine lv_iconst (v := iI 0) hx hb d_MM_rename_0 rfl ?_
  refine lv_istore_n (lv' := [(3, .int (iI 0)), (0, .ref o), (1, .int (iI ra)), (2, .int (iI rb))]) hx hb d_MM_rename_1 rfl hl (by decide) rfl (fun ls hl => ?_)
  exact hL1 _ 0 lb M _ _ _ ⟨by omega, by omega⟩ (fun z => (if_neg (fun q => by omega)).symm) (Nat.lt_succ_self _) hfr h_o h_lb h_fr hw (lv_sub hl [1, 2, 3, 0] rfl)
abbrev P_MM_join (K : Nat → ClassId) (M : zq_M) (o : Nat) (bd : Nat → Nat) (th : Int) (put : Int) (wr : Int) (nn : Int) (cir : Int) (oN : Int) (oC : Int) (lbs : Int) (fcs : Int) (arcs : Int) (mns : Int) (kn : Int) (lb : Int → Int) (fr : Int → Int) (ra : Int) (rb : Int) : Option Value → zq_M → Prop := fun v M' => (v = none ∧ ra = rb ∧ M' o = some (.inr (9, [.int (iI th), .int (iI put), .int (iI wr), .ref (bd 0), .ref (bd 1), .int (iI nn), .int (iI (cir + 1)), .int (iI oN), .int (iI oC), .ref (bd 2), .ref (bd 3), .ref (bd 4), .ref (bd 5), .int (iI lbs), .ref (bd 6), .ref (bd 7), .ref (bd 8), .int (iI fcs), .ref (bd 9), .int (iI arcs), .ref (bd 10), .ref (bd 11), .ref (bd 12), .ref (bd 13), .int (iI mns), .ref (bd 14), .ref (bd 15), .ref (bd 16), .int (iI kn), .ref (bd 17)])) ∧ M' (bd 3) = some (cI (K 0) 48 lb) ∧ M' (bd 7) = some (cI (K 0) 48 fr) ∧ ∀ q, q ≠ o → q ≠ (bd 3) → q ≠ (bd 7) → M' q = M q) ∨ (v = none ∧ ¬ ra = rb ∧ M' o = some (.inr (9, [.int (iI th), .int (iI put), .int (iI wr), .ref (bd 0), .ref (bd 1), .int (iI nn), .int (iI cir), .int (iI oN), .int (iI oC), .ref (bd 2), .ref (bd 3), .ref (bd 4), .ref (bd 5), .int (iI lbs), .ref (bd 6), .ref (bd 7), .ref (bd 8), .int (iI fcs), .ref (bd 9), .int (iI arcs), .ref (bd 10), .ref (bd 11), .ref (bd 12), .ref (bd 13), .int (iI mns), .ref (bd 14), .ref (bd 15), .ref (bd 16), .int (iI kn), .ref (bd 17)])) ∧ M' (bd 3) = some (cI (K 0) 48 (zrn lb (4 * nn) (zmx ra rb) (zmi ra rb))) ∧ M' (bd 7) = some (cI (K 0) 48 (zrn fr 4 (zmx ra rb) (zmi ra rb))) ∧ ∀ q, q ≠ o → q ≠ (bd 3) → q ≠ (bd 7) → M' q = M q)
set_option maxHeartbeats 4000000 in
set_option maxRecDepth 100000 in
theorem c_MM_join (l : Launch) (D : va_G) (K : Nat → ClassId) (M : zq_M) (o : Nat) (bd : Nat → Nat) (th : Int) (put : Int) (wr : Int) (nn : Int) (cir : Int) (oN : Int) (oC : Int) (lbs : Int) (fcs : Int) (arcs : Int) (mns : Int) (kn : Int) (lb : Int → Int) (fr : Int → Int) (ra : Int) (rb : Int) (h_o : M o = some (.inr (9, [.int (iI th), .int (iI put), .int (iI wr), .ref (bd 0), .ref (bd 1), .int (iI nn), .int (iI cir), .int (iI oN), .int (iI oC), .ref (bd 2), .ref (bd 3), .ref (bd 4), .ref (bd 5), .int (iI lbs), .ref (bd 6), .ref (bd 7), .ref (bd 8), .int (iI fcs), .ref (bd 9), .int (iI arcs), .ref (bd 10), .ref (bd 11), .ref (bd 12), .ref (bd 13), .int (iI mns), .ref (bd 14), .ref (bd 15), .ref (bd 16), .int (iI kn), .ref (bd 17)]))) (hbd : ∀ i j, i < 18 → j < 18 → bd i = bd j → i = j) (h_lb : M (bd 3) = some (cI (K 0) 48 lb)) (h_fr : M (bd 7) = some (cI (K 0) 48 fr)) (hlb : ∀ j, inI (lb j)) (hnn : 0 ≤ nn ∧ nn ≤ 12) (hf4 : ∀ z, 0 ≤ z → z < 4 → inI (fr z)) (hra : inI ra) (hrb : inI rb) : zq_Met l y_MM_join (.code y_MM_join b_MM_join 3 none :: lw_gd) { frames := 1, cells := 0, slots := 0, locals := 23 } D vwCl (zT K) [.ref o, .int (iI ra), .int (iI rb)] M (P_MM_join K M o bd th put wr nn cir oN oC lbs fcs arcs mns kn lb fr ra rb) 0 0 := by
  refine zq_start (cc := b_MM_join) (maxL := 3) (ret := none) (by decide) rfl (Nat.le_of_ble_eq_true rfl) ?_
  intro p e s m below meth co A ls hx hb hr hml hts hown hnm hlocks hA hZ hw hl
  have hts : ∀ w ∈ lw_gd, w.before [.ref o, .int (iI ra), .int (iI rb)].toArray s = true := fun w h => hts w (List.mem_cons_of_mem _ h)
  have hown : s.vm.findClass R_MM = some m.cls := hown
  have hK := hZ.1
  have hl : lv_has ls 3 [(0, .ref o), (1, .int (iI ra)), (2, .int (iI rb))] := hl
  have hfr : ∀ q, q ≠ o → q ≠ (bd 3) → q ≠ (bd 7) → M q = M q := fun q _ _ _ => rfl
  refine lv_iload_n hx hb d_MM_join_0 rfl (lv_at hl 1 rfl) ?_
  refine lv_iload_n hx hb d_MM_join_1 rfl (lv_at hl 2 rfl) ?_
  refine zq_icmp_ne (tgt := 18) hx hb d_MM_join_2 (by decide) hra hrb (fun hc1 => ?_) (fun hc1 => ?_)
  · refine lv_aload_n hx hb d_MM_join_18 rfl (lv_at hl 0 rfl) ?_
    refine lv_iload_n hx hb d_MM_join_19 rfl (lv_at hl 1 rfl) ?_
    refine lv_iload_n hx hb d_MM_join_20 rfl (lv_at hl 2 rfl) ?_
    refine zq_icmp_ge (tgt := 28) hx hb d_MM_join_21 (by decide) hra hrb (fun hc2 => ?_) (fun hc2 => ?_)
    · refine lv_iload_n hx hb d_MM_join_28 rfl (lv_at hl 1 rfl) ?_
      refine lv_iload_n hx hb d_MM_join_29 rfl (lv_at hl 1 rfl) ?_
      refine lv_iload_n hx hb d_MM_join_30 rfl (lv_at hl 2 rfl) ?_
      refine zq_icmp_ge (tgt := 38) hx hb d_MM_join_31 (by decide) hra hrb (fun hc3 => ?_) (fun hc3 => ?_)
      · refine lv_iload_n hx hb d_MM_join_38 rfl (lv_at hl 2 rfl) ?_
        refine zq_callV (As := [.int (iI ra), .int (iI rb)]) (rest := []) ⟨hx, hb, hml, hown, hts⟩ (c_MM_rename l D K M o bd th put wr nn cir oN oC lbs fcs arcs mns kn lb fr  ra rb h_o hbd h_lb h_fr hlb hnn hf4 hra) (cwV 2 hts (zg_V tw_860 tw_862 ts_56 tw_10 tw_863) rfl rfl rfl (by decide +kernel) ⟨Nat.le_of_ble_eq_true rfl, Nat.le_of_ble_eq_true rfl⟩) hZ hw hA h_o rfl rfl rfl rfl hl.1 (Nat.le_of_ble_eq_true rfl) d_MM_join_39 ⟨Nat.le_of_ble_eq_true rfl, Nat.le_of_ble_eq_true rfl⟩ (fun v M4 H locs hp hw => ?_)
        obtain ⟨rfl, hs1, hs2, ho⟩ := hp
        have h_o : M4 o = some (.inr (9, [.int (iI th), .int (iI put), .int (iI wr), .ref (bd 0), .ref (bd 1), .int (iI nn), .int (iI cir), .int (iI oN), .int (iI oC), .ref (bd 2), .ref (bd 3), .ref (bd 4), .ref (bd 5), .int (iI lbs), .ref (bd 6), .ref (bd 7), .ref (bd 8), .int (iI fcs), .ref (bd 9), .int (iI arcs), .ref (bd 10), .ref (bd 11), .ref (bd 12), .ref (bd 13), .int (iI mns), .ref (bd 14), .ref (bd 15), .ref (bd 16), .int (iI kn), .ref (bd 17)])) := (ho _ (zq_ne h_o h_lb (by simp)) (zq_ne h_o h_fr (by simp))).trans h_o
        have h_lb : M4 (bd 3) = some (cI (K 0) 48 (zrn lb (4 * nn) ra rb)) := hs1
        have h_fr : M4 (bd 7) = some (cI (K 0) 48 (zrn fr 4 ra rb)) := hs2
        have hfr : ∀ q, q ≠ o → q ≠ (bd 3) → q ≠ (bd 7) → M4 q = M q := fun q g0 g1 g2 => (ho q g1 g2).trans (hfr q g0 g1 g2)
        refine W.eq (g2 := F0 m 42 ls []) rfl ?_
        exact zq_vret hx hb hr hlocks hZ hw (Or.inr ⟨rfl, by omega, h_o, (by first | (rw [show zmx ra rb = rb from if_pos (by omega), show zmi ra rb = ra from if_pos (by omega)]; exact h_lb) | (rw [show zmx ra rb = ra from if_neg (by omega), show zmi ra rb = rb from if_neg (by omega)]; exact h_lb) | (exfalso; omega)), (by first | (rw [show zmx ra rb = rb from if_pos (by omega), show zmi ra rb = ra from if_pos (by omega)]; exact h_fr) | (rw [show zmx ra rb = ra from if_neg (by omega), show zmi ra rb = rb from if_neg (by omega)]; exact h_fr) | (exfalso; omega)), hfr⟩) d_MM_join_42
      · refine lv_iload_n hx hb d_MM_join_34 rfl (lv_at hl 1 rfl) ?_
        refine lv_goto (tgt := 39) hx hb d_MM_join_35 (by decide) ?_
        refine zq_callV (As := [.int (iI ra), .int (iI ra)]) (rest := []) ⟨hx, hb, hml, hown, hts⟩ (c_MM_rename l D K M o bd th put wr nn cir oN oC lbs fcs arcs mns kn lb fr  ra ra h_o hbd h_lb h_fr hlb hnn hf4 hra) (cwV 2 hts (zg_V tw_860 tw_862 ts_56 tw_10 tw_863) rfl rfl rfl (by decide +kernel) ⟨Nat.le_of_ble_eq_true rfl, Nat.le_of_ble_eq_true rfl⟩) hZ hw hA h_o rfl rfl rfl rfl hl.1 (Nat.le_of_ble_eq_true rfl) d_MM_join_39 ⟨Nat.le_of_ble_eq_true rfl, Nat.le_of_ble_eq_true rfl⟩ (fun v M5 H locs hp hw => ?_)
        obtain ⟨rfl, hs1, hs2, ho⟩ := hp
        have h_o : M5 o = some (.inr (9, [.int (iI th), .int (iI put), .int (iI wr), .ref (bd 0), .ref (bd 1), .int (iI nn), .int (iI cir), .int (iI oN), .int (iI oC), .ref (bd 2), .ref (bd 3), .ref (bd 4), .ref (bd 5), .int (iI lbs), .ref (bd 6), .ref (bd 7), .ref (bd 8), .int (iI fcs), .ref (bd 9), .int (iI arcs), .ref (bd 10), .ref (bd 11), .ref (bd 12), .ref (bd 13), .int (iI mns), .ref (bd 14), .ref (bd 15), .ref (bd 16), .int (iI kn), .ref (bd 17)])) := (ho _ (zq_ne h_o h_lb (by simp)) (zq_ne h_o h_fr (by simp))).trans h_o
        have h_lb : M5 (bd 3) = some (cI (K 0) 48 (zrn lb (4 * nn) ra ra)) := hs1
        have h_fr : M5 (bd 7) = some (cI (K 0) 48 (zrn fr 4 ra ra)) := hs2
        have hfr : ∀ q, q ≠ o → q ≠ (bd 3) → q ≠ (bd 7) → M5 q = M q := fun q g0 g1 g2 => (ho q g1 g2).trans (hfr q g0 g1 g2)
        refine W.eq (g2 := F0 m 42 ls []) rfl ?_
        exact zq_vret hx hb hr hlocks hZ hw (Or.inr ⟨rfl, by omega, h_o, (by first | (rw [show zmx ra rb = rb from if_pos (by omega), show zmi ra rb = ra from if_pos (by omega)]; exact h_lb) | (rw [show zmx ra rb = ra from if_neg (by omega), show zmi ra rb = rb from if_neg (by omega)]; exact h_lb) | (exfalso; omega)), (by first | (rw [show zmx ra rb = rb from if_pos (by omega), show zmi ra rb = ra from if_pos (by omega)]; exact h_fr) | (rw [show zmx ra rb = ra from if_neg (by omega), show zmi ra rb = rb from if_neg (by omega)]; exact h_fr) | (exfalso; omega)), hfr⟩) d_MM_join_42
    · refine lv_iload_n hx hb d_MM_join_24 rfl (lv_at hl 2 rfl) ?_
      refine lv_goto (tgt := 29) hx hb d_MM_join_25 (by decide) ?_
      refine lv_iload_n hx hb d_MM_join_29 rfl (lv_at hl 1 rfl) ?_
      refine lv_iload_n hx hb d_MM_join_30 rfl (lv_at hl 2 rfl) ?_
      refine zq_icmp_ge (tgt := 38) hx hb d_MM_join_31 (by decide) hra hrb (fun hc6 => ?_) (fun hc6 => ?_)
      · refine lv_iload_n hx hb d_MM_join_38 rfl (lv_at hl 2 rfl) ?_
        refine zq_callV (As := [.int (iI rb), .int (iI rb)]) (rest := []) ⟨hx, hb, hml, hown, hts⟩ (c_MM_rename l D K M o bd th put wr nn cir oN oC lbs fcs arcs mns kn lb fr  rb rb h_o hbd h_lb h_fr hlb hnn hf4 hrb) (cwV 2 hts (zg_V tw_860 tw_862 ts_56 tw_10 tw_863) rfl rfl rfl (by decide +kernel) ⟨Nat.le_of_ble_eq_true rfl, Nat.le_of_ble_eq_true rfl⟩) hZ hw hA h_o rfl rfl rfl rfl hl.1 (Nat.le_of_ble_eq_true rfl) d_MM_join_39 ⟨Nat.le_of_ble_eq_true rfl, Nat.le_of_ble_eq_true rfl⟩ (fun v M7 H locs hp hw => ?_)
        obtain ⟨rfl, hs1, hs2, ho⟩ := hp
        have h_o : M7 o = some (.inr (9, [.int (iI th), .int (iI put), .int (iI wr), .ref (bd 0), .ref (bd 1), .int (iI nn), .int (iI cir), .int (iI oN), .int (iI oC), .ref (bd 2), .ref (bd 3), .ref (bd 4), .ref (bd 5), .int (iI lbs), .ref (bd 6), .ref (bd 7), .ref (bd 8), .int (iI fcs), .ref (bd 9), .int (iI arcs), .ref (bd 10), .ref (bd 11), .ref (bd 12), .ref (bd 13), .int (iI mns), .ref (bd 14), .ref (bd 15), .ref (bd 16), .int (iI kn), .ref (bd 17)])) := (ho _ (zq_ne h_o h_lb (by simp)) (zq_ne h_o h_fr (by simp))).trans h_o
        have h_lb : M7 (bd 3) = some (cI (K 0) 48 (zrn lb (4 * nn) rb rb)) := hs1
        have h_fr : M7 (bd 7) = some (cI (K 0) 48 (zrn fr 4 rb rb)) := hs2
        have hfr : ∀ q, q ≠ o → q ≠ (bd 3) → q ≠ (bd 7) → M7 q = M q := fun q g0 g1 g2 => (ho q g1 g2).trans (hfr q g0 g1 g2)
        refine W.eq (g2 := F0 m 42 ls []) rfl ?_
        exact zq_vret hx hb hr hlocks hZ hw (Or.inr ⟨rfl, by omega, h_o, (by first | (rw [show zmx ra rb = rb from if_pos (by omega), show zmi ra rb = ra from if_pos (by omega)]; exact h_lb) | (rw [show zmx ra rb = ra from if_neg (by omega), show zmi ra rb = rb from if_neg (by omega)]; exact h_lb) | (exfalso; omega)), (by first | (rw [show zmx ra rb = rb from if_pos (by omega), show zmi ra rb = ra from if_pos (by omega)]; exact h_fr) | (rw [show zmx ra rb = ra from if_neg (by omega), show zmi ra rb = rb from if_neg (by omega)]; exact h_fr) | (exfalso; omega)), hfr⟩) d_MM_join_42
      · refine lv_iload_n hx hb d_MM_join_34 rfl (lv_at hl 1 rfl) ?_
        refine lv_goto (tgt := 39) hx hb d_MM_join_35 (by decide) ?_
        refine zq_callV (As := [.int (iI rb), .int (iI ra)]) (rest := []) ⟨hx, hb, hml, hown, hts⟩ (c_MM_rename l D K M o bd th put wr nn cir oN oC lbs fcs arcs mns kn lb fr  rb ra h_o hbd h_lb h_fr hlb hnn hf4 hrb) (cwV 2 hts (zg_V tw_860 tw_862 ts_56 tw_10 tw_863) rfl rfl rfl (by decide +kernel) ⟨Nat.le_of_ble_eq_true rfl, Nat.le_of_ble_eq_true rfl⟩) hZ hw hA h_o rfl rfl rfl rfl hl.1 (Nat.le_of_ble_eq_true rfl) d_MM_join_39 ⟨Nat.le_of_ble_eq_true rfl, Nat.le_of_ble_eq_true rfl⟩ (fun v M8 H locs hp hw => ?_)
        obtain ⟨rfl, hs1, hs2, ho⟩ := hp
        have h_o : M8 o = some (.inr (9, [.int (iI th), .int (iI put), .int (iI wr), .ref (bd 0), .ref (bd 1), .int (iI nn), .int (iI cir), .int (iI oN), .int (iI oC), .ref (bd 2), .ref (bd 3), .ref (bd 4), .ref (bd 5), .int (iI lbs), .ref (bd 6), .ref (bd 7), .ref (bd 8), .int (iI fcs), .ref (bd 9), .int (iI arcs), .ref (bd 10), .ref (bd 11), .ref (bd 12), .ref (bd 13), .int (iI mns), .ref (bd 14), .ref (bd 15), .ref (bd 16), .int (iI kn), .ref (bd 17)])) := (ho _ (zq_ne h_o h_lb (by simp)) (zq_ne h_o h_fr (by simp))).trans h_o
        have h_lb : M8 (bd 3) = some (cI (K 0) 48 (zrn lb (4 * nn) rb ra)) := hs1
        have h_fr : M8 (bd 7) = some (cI (K 0) 48 (zrn fr 4 rb ra)) := hs2
        have hfr : ∀ q, q ≠ o → q ≠ (bd 3) → q ≠ (bd 7) → M8 q = M q := fun q g0 g1 g2 => (ho q g1 g2).trans (hfr q g0 g1 g2)
        refine W.eq (g2 := F0 m 42 ls []) rfl ?_
        exact zq_vret hx hb hr hlocks hZ hw (Or.inr ⟨rfl, by omega, h_o, (by first | (rw [show zmx ra rb = rb from if_pos (by omega), show zmi ra rb = ra from if_pos (by omega)]; exact h_lb) | (rw [show zmx ra rb = ra from if_neg (by omega), show zmi ra rb = rb from if_neg (by omega)]; exact h_lb) | (exfalso; omega)), (by first | (rw [show zmx ra rb = rb from if_pos (by omega), show zmi ra rb = ra from if_pos (by omega)]; exact h_fr) | (rw [show zmx ra rb = ra from if_neg (by omega), show zmi ra rb = rb from if_neg (by omega)]; exact h_fr) | (exfalso; omega)), hfr⟩) d_MM_join_42
  · refine lv_aload_n hx hb d_MM_join_5 rfl (lv_at hl 0 rfl) ?_
    refine lv_dup hx hb d_MM_join_6 rfl ?_
    refine zq_get hx hb hts i_MM hown hK hw h_o rfl 6 (by decide) (hts _ tw_592) rfl d_MM_join_7 ?_
    refine lv_iconst (v := iI 1) hx hb d_MM_join_10 rfl ?_
    refine zq_iadd hx hb d_MM_join_11 ?_
    refine zq_put (ci := 9) (v := .int (iI (cir + 1))) (ty := .int) hx hb hts i_MM t_MM t_MM_ok n_MM hown hK hw h_o rfl 6 (by decide) (hts _ tw_592) rfl (by decide +kernel) rfl rfl (Nat.le_of_ble_eq_true rfl) d_MM_join_12 (fun M9 H locs hs ho hw => ?_)
    have h_lb : M9 (bd 3) = some (cI (K 0) 48 lb) := (ho _ (zq_ne h_lb h_o (by simp))).trans h_lb
    have h_fr : M9 (bd 7) = some (cI (K 0) 48 fr) := (ho _ (zq_ne h_fr h_o (by simp))).trans h_fr
    have h_o : M9 o = some (.inr (9, [.int (iI th), .int (iI put), .int (iI wr), .ref (bd 0), .ref (bd 1), .int (iI nn), .int (iI (cir + 1)), .int (iI oN), .int (iI oC), .ref (bd 2), .ref (bd 3), .ref (bd 4), .ref (bd 5), .int (iI lbs), .ref (bd 6), .ref (bd 7), .ref (bd 8), .int (iI fcs), .ref (bd 9), .int (iI arcs), .ref (bd 10), .ref (bd 11), .ref (bd 12), .ref (bd 13), .int (iI mns), .ref (bd 14), .ref (bd 15), .ref (bd 16), .int (iI kn), .ref (bd 17)])) := hs
    have hfr : ∀ q, q ≠ o → q ≠ (bd 3) → q ≠ (bd 7) → M9 q = M q := fun q g0 g1 g2 => (ho q g0).trans (hfr q g0 g1 g2)
    refine lv_goto (tgt := 42) hx hb d_MM_join_15 (by decide) ?_
    exact zq_vret hx hb hr hlocks hZ hw (Or.inl ⟨rfl, by omega, h_o, h_lb, h_fr, hfr⟩) d_MM_join_42
