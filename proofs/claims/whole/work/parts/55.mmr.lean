abbrev P_MM_many (K : Nat → ClassId) (M : zq_M) (o : Nat) (bd : Nat → Nat) (put : Int) (pS : Int → Int) (pL : Int → Int) (nn : Int) (cir : Int) (sg : Int → Int) (lb : Int → Int) (kn : Int) (arcs : Int) (al : Int → Int) (on : Int → Int) (tw : Int → Int) (mns : Int) (av : Int → Int) (po : Int → Int) (x : Int) : Option Value → zq_M → Prop := fun v M' => ∃ r, v = some (.long (iL r)) ∧ ∃ arcs1 al1 on1 tw1 mns1 av1 po1, zKn nn cir sg lb arcs1 al1 on1 tw1 mns1 av1 po1 ∧ zMK K M' o bd put pS pL nn cir sg lb 1 arcs1 al1 on1 tw1 mns1 av1 po1 ∧ (∀ q, q ≠ o → (∀ i, i < 18 → q ≠ bd i) → M' q = M q) ∧ ((x = 0 ∧ r = nn) ∨ (x = 1 ∧ r = cir) ∨ (x = 2 ∧ r = arcs1) ∨ (x = 3 ∧ (-1 ≤ r ∧ r ≤ 13) ∧ (∀ e, r < e → e < 14 → po1 e = 0) ∧ (0 ≤ r → ¬ po1 r = 0)) ∨ (x = 4 ∧ r = zvl po1 1 14) ∨ (x = 5 ∧ r = zvl po1 (-1) 14) ∨ (x = 6 ∧ r = put) ∨ ((x < 0 ∨ 6 < x) ∧ r = -1000))
set_option maxHeartbeats 4000000 in
set_option maxRecDepth 100000 in
theorem c_MM_many (l : Launch) (D : va_G) (K : Nat → ClassId) (M : zq_M) (o : Nat) (bd : Nat → Nat) (put : Int) (pS : Int → Int) (pL : Int → Int) (nn : Int) (cir : Int) (sg : Int → Int) (lb : Int → Int) (kn : Int) (arcs : Int) (al : Int → Int) (on : Int → Int) (tw : Int → Int) (mns : Int) (av : Int → Int) (po : Int → Int) (x : Int) (hS : zMK K M o bd put pS pL nn cir sg lb kn arcs al on tw mns av po) (hkn : kn = 0 ∨ (kn = 1 ∧ zKn nn cir sg lb arcs al on tw mns av po)) (hnn : 0 ≤ nn ∧ nn ≤ 12) (hcir : 0 ≤ cir ∧ cir ≤ 9) (hgd : zGd sg lb (4 * nn)) (hmath : zMth nn cir sg lb) (hput : 0 ≤ put ∧ put ≤ 12) (hx0 : inI x) : zq_Met l y_MM_many (.code y_MM_many b_MM_many 2 (some .long) :: lw_gd) { frames := 7, cells := 0, slots := 0, locals := 165 } D vwCl (zT K) [.ref o, .int (iI x)] M (P_MM_many K M o bd put pS pL nn cir sg lb kn arcs al on tw mns av po x) 0 0 := by
  refine zq_start (cc := b_MM_many) (maxL := 2) (ret := (some .long)) (by decide) rfl (Nat.le_of_ble_eq_true rfl) ?_
  intro p e s m below meth co A ls hx hb hr hml hts hown hnm hlocks hA hZ hw hl
  have hts : ∀ w ∈ lw_gd, w.before [.ref o, .int (iI x)].toArray s = true := fun w h => hts w (List.mem_cons_of_mem _ h)
  have hown : s.vm.findClass R_MM = some m.cls := hown
  have hK := hZ.1
  have hl : lv_has ls 2 [(0, .ref o), (1, .int (iI x))] := hl
  have hfr : ∀ q, q ≠ o → (∀ i, i < 18 → q ≠ bd i) → M q = M q := fun q _ _ => rfl
  have hS0 := hS
  obtain ⟨th, wr, oN, oC, lbs, fcs, oS, oL, rw, fr, pi, fo, sm, le, gd, h_o, hbd, h_pS, h_pL, h_sg, h_lb, h_oS, h_oL, h_rw, h_fr, h_pi, h_fo, h_al, h_on, h_tw, h_sm, h_av, h_po, h_le, h_gd, hrg⟩ := hS
  have hpS : ∀ j, inI (pS j) := fun j => (hrg j).1
  have hpL : ∀ j, inI (pL j) := fun j => (hrg j).2.1
  have hsg : ∀ j, inI (sg j) := fun j => (hrg j).2.2.1
  have hlb : ∀ j, inI (lb j) := fun j => (hrg j).2.2.2.1
  have hoS : ∀ j, inI (oS j) := fun j => (hrg j).2.2.2.2.1
  have hoL : ∀ j, inI (oL j) := fun j => (hrg j).2.2.2.2.2.1
  have hrw : ∀ j, inI (rw j) := fun j => (hrg j).2.2.2.2.2.2.1
  have hfo : ∀ j, inI (fo j) := fun j => (hrg j).2.2.2.2.2.2.2.1
  have hal : ∀ j, inI (al j) := fun j => (hrg j).2.2.2.2.2.2.2.2
  refine lv_aload_n hx hb d_MM_many_0 rfl (lv_at hl 0 rfl) ?_
  refine zq_callV (As := []) (rest := []) ⟨hx, hb, hml, hown, hts⟩ (c_MM_know l D K M o bd put pS pL nn cir sg lb kn arcs al on tw mns av po hS0 hkn hnn hcir hgd hmath) (cwV 0 hts (zg_V tw_741 tw_743 ts_39 tw_10 tw_744) rfl rfl rfl (by decide +kernel) ⟨Nat.le_of_ble_eq_true rfl, Nat.le_of_ble_eq_true rfl⟩) hZ hw hA h_o rfl rfl rfl rfl hl.1 (Nat.le_of_ble_eq_true rfl) d_MM_many_1 ⟨Nat.le_of_ble_eq_true rfl, Nat.le_of_ble_eq_true rfl⟩ (fun v M1 H locs hp hw => ?_)
  obtain ⟨rfl, arcs1, al1, on1, tw1, mns1, av1, po1, hKn, hS1, ho⟩ := hp
  obtain ⟨th, wr, oN, oC, lbs, fcs, oS, oL, rw, fr, pi, fo, sm, le, gd, h_o, hbd, h_pS, h_pL, h_sg, h_lb, h_oS, h_oL, h_rw, h_fr, h_pi, h_fo, h_al, h_on, h_tw, h_sm, h_av, h_po, h_le, h_gd, hrg⟩ := id hS1
  have hpS : ∀ j, inI (pS j) := fun j => (hrg j).1
  have hpL : ∀ j, inI (pL j) := fun j => (hrg j).2.1
  have hsg : ∀ j, inI (sg j) := fun j => (hrg j).2.2.1
  have hlb : ∀ j, inI (lb j) := fun j => (hrg j).2.2.2.1
  have hoS : ∀ j, inI (oS j) := fun j => (hrg j).2.2.2.2.1
  have hoL : ∀ j, inI (oL j) := fun j => (hrg j).2.2.2.2.2.1
  have hrw : ∀ j, inI (rw j) := fun j => (hrg j).2.2.2.2.2.2.1
  have hfo : ∀ j, inI (fo j) := fun j => (hrg j).2.2.2.2.2.2.2.1
  have hal : ∀ j, inI (al1 j) := fun j => (hrg j).2.2.2.2.2.2.2.2
  have hfr : ∀ q, q ≠ o → (∀ i, i < 18 → q ≠ bd i) → M1 q = M q := fun q g0 g1 => (ho q g0 g1).trans (hfr q g0 g1)
  obtain ⟨c0, N1, hAl1, har1, hAz1, hN1, hFi1, hMn1, hPp1, hQ1, hIn1, hPi1⟩ := id hKn
  have hM3 := hmath c0 al1 N1 on1 tw1 hAl1 hN1 hFi1
  have hge := hM3.1
  have hle := hM3.2.1
  have hmnb := zMn_b hMn1 hnn
  refine W.eq (g2 := F0 m 4 ls []) rfl ?_
  refine lv_iload_n hx hb d_MM_many_4 rfl (lv_at hl 1 rfl) ?_
  rcases (show x = 0 ∨ x = 1 ∨ x = 2 ∨ x = 3 ∨ x = 4 ∨ x = 5 ∨ x = 6 ∨ (x < 0 ∨ 6 < x) by omega) with rfl | rfl | rfl | rfl | rfl | rfl | rfl | hx9
  · refine lv_tableIn (tgt := 48) hx hb d_MM_many_5 (by decide) (by decide) rfl (by decide) ?_
    refine lv_aload_n hx hb d_MM_many_48 rfl (lv_at hl 0 rfl) ?_
    refine zq_get hx hb hts i_MM hown hK hw h_o rfl 5 (by decide) (hts _ tw_591) rfl d_MM_many_49 ?_
    refine zq_i2l hx hb ⟨by omega, by omega⟩ d_MM_many_52 ?_
    exact zq_lret hx hb hr hlocks hZ hw ⟨_, rfl, arcs1, al1, on1, tw1, mns1, av1, po1, hKn, hS1, hfr, Or.inl ⟨rfl, rfl⟩⟩ d_MM_many_53
  · refine lv_tableIn (tgt := 54) hx hb d_MM_many_5 (by decide) (by decide) rfl (by decide) ?_
    refine lv_aload_n hx hb d_MM_many_54 rfl (lv_at hl 0 rfl) ?_
    refine zq_get hx hb hts i_MM hown hK hw h_o rfl 6 (by decide) (hts _ tw_592) rfl d_MM_many_55 ?_
    refine zq_i2l hx hb ⟨by omega, by omega⟩ d_MM_many_58 ?_
    exact zq_lret hx hb hr hlocks hZ hw ⟨_, rfl, arcs1, al1, on1, tw1, mns1, av1, po1, hKn, hS1, hfr, Or.inr (Or.inl ⟨rfl, rfl⟩)⟩ d_MM_many_59
  · refine lv_tableIn (tgt := 60) hx hb d_MM_many_5 (by decide) (by decide) rfl (by decide) ?_
    refine lv_aload_n hx hb d_MM_many_60 rfl (lv_at hl 0 rfl) ?_
    refine zq_get hx hb hts i_MM hown hK hw h_o rfl 19 (by decide) (hts _ tw_605) rfl d_MM_many_61 ?_
    refine zq_i2l hx hb (by have := hAl1.2.2; exact ⟨by omega, by omega⟩) d_MM_many_64 ?_
    exact zq_lret hx hb hr hlocks hZ hw ⟨_, rfl, arcs1, al1, on1, tw1, mns1, av1, po1, hKn, hS1, hfr, Or.inr (Or.inr (Or.inl ⟨rfl, rfl⟩))⟩ d_MM_many_65
  · refine lv_tableIn (tgt := 66) hx hb d_MM_many_5 (by decide) (by decide) rfl (by decide) ?_
    refine lv_aload_n hx hb d_MM_many_66 rfl (lv_at hl 0 rfl) ?_
    refine zq_callV (As := []) (rest := []) ⟨hx, hb, hml, hown, hts⟩ (c_MM_degree l D K M1 o bd th put wr nn cir oN oC lbs fcs arcs1 mns1 1 po1   h_o hbd h_po hPi1) (cwV 0 hts (zg_V tw_801 tw_803 ts_51 tw_10 tw_804) rfl rfl rfl (by decide +kernel) ⟨Nat.le_of_ble_eq_true rfl, Nat.le_of_ble_eq_true rfl⟩) hZ hw hA h_o rfl rfl rfl rfl hl.1 (Nat.le_of_ble_eq_true rfl) d_MM_many_67 ⟨Nat.le_of_ble_eq_true rfl, Nat.le_of_ble_eq_true rfl⟩ (fun v M2 H locs hp hw => ?_)
    obtain ⟨rdg, rfl, hDg, hMe⟩ := hp
    rw [hMe] at hw
    refine W.eq (g2 := F0 m 70 ls [.int (iI rdg)]) rfl ?_
    refine zq_i2l hx hb ⟨by omega, by omega⟩ d_MM_many_70 ?_
    exact zq_lret hx hb hr hlocks hZ hw ⟨_, rfl, arcs1, al1, on1, tw1, mns1, av1, po1, hKn, hS1, hfr, Or.inr (Or.inr (Or.inr (Or.inl ⟨rfl, hDg⟩)))⟩ d_MM_many_71
  · refine lv_tableIn (tgt := 72) hx hb d_MM_many_5 (by decide) (by decide) rfl (by decide) ?_
    refine lv_aload_n hx hb d_MM_many_72 rfl (lv_at hl 0 rfl) ?_
    refine lv_iconst (v := iI 1) hx hb d_MM_many_73 rfl ?_
    refine zq_callV (As := [.int (iI 1)]) (rest := []) ⟨hx, hb, hml, hown, hts⟩ (c_MM_valueAt l D K M1 o bd th put wr nn cir oN oC lbs fcs arcs1 mns1 1 po1  1 h_o hbd h_po (by decide)) (cwV 1 hts (zg_V tw_805 tw_807 ts_52 tw_10 tw_808) rfl rfl rfl (by decide +kernel) ⟨Nat.le_of_ble_eq_true rfl, Nat.le_of_ble_eq_true rfl⟩) hZ hw hA h_o rfl rfl rfl rfl hl.1 (Nat.le_of_ble_eq_true rfl) d_MM_many_74 ⟨Nat.le_of_ble_eq_true rfl, Nat.le_of_ble_eq_true rfl⟩ (fun v M3 H locs hp hw => ?_)
    obtain ⟨rfl, hMe⟩ := hp
    rw [hMe] at hw
    refine W.eq (g2 := F0 m 77 ls [.long (iL (zvl po1 1 14))]) rfl ?_
    exact zq_lret hx hb hr hlocks hZ hw ⟨_, rfl, arcs1, al1, on1, tw1, mns1, av1, po1, hKn, hS1, hfr, Or.inr (Or.inr (Or.inr (Or.inr (Or.inl ⟨rfl, rfl⟩))))⟩ d_MM_many_77
  · refine lv_tableIn (tgt := 78) hx hb d_MM_many_5 (by decide) (by decide) rfl (by decide) ?_
    refine lv_aload_n hx hb d_MM_many_78 rfl (lv_at hl 0 rfl) ?_
    refine lv_iconst (v := iI (-1)) hx hb d_MM_many_79 rfl ?_
    refine zq_callV (As := [.int (iI (-1))]) (rest := []) ⟨hx, hb, hml, hown, hts⟩ (c_MM_valueAt l D K M1 o bd th put wr nn cir oN oC lbs fcs arcs1 mns1 1 po1  (-1) h_o hbd h_po (by decide)) (cwV 1 hts (zg_V tw_805 tw_807 ts_52 tw_10 tw_808) rfl rfl rfl (by decide +kernel) ⟨Nat.le_of_ble_eq_true rfl, Nat.le_of_ble_eq_true rfl⟩) hZ hw hA h_o rfl rfl rfl rfl hl.1 (Nat.le_of_ble_eq_true rfl) d_MM_many_80 ⟨Nat.le_of_ble_eq_true rfl, Nat.le_of_ble_eq_true rfl⟩ (fun v M4 H locs hp hw => ?_)
    obtain ⟨rfl, hMe⟩ := hp
    rw [hMe] at hw
    refine W.eq (g2 := F0 m 83 ls [.long (iL (zvl po1 (-1) 14))]) rfl ?_
    exact zq_lret hx hb hr hlocks hZ hw ⟨_, rfl, arcs1, al1, on1, tw1, mns1, av1, po1, hKn, hS1, hfr, Or.inr (Or.inr (Or.inr (Or.inr (Or.inr (Or.inl ⟨rfl, rfl⟩)))))⟩ d_MM_many_83
  · refine lv_tableIn (tgt := 84) hx hb d_MM_many_5 (by decide) (by decide) rfl (by decide) ?_
    refine lv_aload_n hx hb d_MM_many_84 rfl (lv_at hl 0 rfl) ?_
    refine zq_get hx hb hts i_MM hown hK hw h_o rfl 1 (by decide) (hts _ tw_587) rfl d_MM_many_85 ?_
    refine zq_i2l hx hb ⟨by omega, by omega⟩ d_MM_many_88 ?_
    exact zq_lret hx hb hr hlocks hZ hw ⟨_, rfl, arcs1, al1, on1, tw1, mns1, av1, po1, hKn, hS1, hfr, Or.inr (Or.inr (Or.inr (Or.inr (Or.inr (Or.inr (Or.inl ⟨rfl, rfl⟩))))))⟩ d_MM_many_89
  · refine lv_tableOut (tgt := 90) hx hb d_MM_many_5 (by rw [iI_toInt hx0]; exact hx9) (by decide) ?_
    refine lv_ldc2 (v := iL (-1000)) hx hb hown (hts _ tw_809) d_MM_many_90 ?_
    exact zq_lret hx hb hr hlocks hZ hw ⟨_, rfl, arcs1, al1, on1, tw1, mns1, av1, po1, hKn, hS1, hfr, Or.inr (Or.inr (Or.inr (Or.inr (Or.inr (Or.inr (Or.inr (⟨hx9, rfl⟩)))))))⟩ d_MM_many_93
abbrev P_MM_arc (K : Nat → ClassId) (M : zq_M) (o : Nat) (bd : Nat → Nat) (put : Int) (pS : Int → Int) (pL : Int → Int) (nn : Int) (cir : Int) (sg : Int → Int) (lb : Int → Int) (kn : Int) (arcs : Int) (al : Int → Int) (on : Int → Int) (tw : Int → Int) (mns : Int) (av : Int → Int) (po : Int → Int) (x : Int) : Option Value → zq_M → Prop := fun v M' => ∃ r, v = some (.int (iI r)) ∧ ∃ arcs1 al1 on1 tw1 mns1 av1 po1, zKn nn cir sg lb arcs1 al1 on1 tw1 mns1 av1 po1 ∧ zMK K M' o bd put pS pL nn cir sg lb 1 arcs1 al1 on1 tw1 mns1 av1 po1 ∧ (∀ q, q ≠ o → (∀ i, i < 18 → q ≠ bd i) → M' q = M q) ∧ ((r = -1 ∧ (x < 1 ∨ ¬ ∃ z, 0 ≤ z ∧ z < 4 * nn ∧ lb z = x)) ∨ ((1 ≤ x ∧ ∃ z, 0 ≤ z ∧ z < 4 * nn ∧ lb z = x) ∧ ∃ m, zAo lb (4 * nn) x m ∧ (0 ≤ r ∧ r < 40) ∧ al1 r = m ∧ ∀ j, 0 ≤ j → j < r → ¬ al1 j = m))
set_option maxHeartbeats 4000000 in
set_option maxRecDepth 100000 in
theorem c_MM_arc (l : Launch) (D : va_G) (K : Nat → ClassId) (M : zq_M) (o : Nat) (bd : Nat → Nat) (put : Int) (pS : Int → Int) (pL : Int → Int) (nn : Int) (cir : Int) (sg : Int → Int) (lb : Int → Int) (kn : Int) (arcs : Int) (al : Int → Int) (on : Int → Int) (tw : Int → Int) (mns : Int) (av : Int → Int) (po : Int → Int) (x : Int) (hS : zMK K M o bd put pS pL nn cir sg lb kn arcs al on tw mns av po) (hkn : kn = 0 ∨ (kn = 1 ∧ zKn nn cir sg lb arcs al on tw mns av po)) (hnn : 0 ≤ nn ∧ nn ≤ 12) (hcir : 0 ≤ cir ∧ cir ≤ 9) (hgd : zGd sg lb (4 * nn)) (hmath : zMth nn cir sg lb) (hx0 : inI x) : zq_Met l y_MM_arc (.code y_MM_arc b_MM_arc 2 (some .int) :: lw_gd) { frames := 7, cells := 0, slots := 0, locals := 165 } D vwCl (zT K) [.ref o, .int (iI x)] M (P_MM_arc K M o bd put pS pL nn cir sg lb kn arcs al on tw mns av po x) 0 0 := by
  refine zq_start (cc := b_MM_arc) (maxL := 2) (ret := (some .int)) (by decide) rfl (Nat.le_of_ble_eq_true rfl) ?_
  intro p e s m below meth co A ls hx hb hr hml hts hown hnm hlocks hA hZ hw hl
  have hts : ∀ w ∈ lw_gd, w.before [.ref o, .int (iI x)].toArray s = true := fun w h => hts w (List.mem_cons_of_mem _ h)
  have hown : s.vm.findClass R_MM = some m.cls := hown
  have hK := hZ.1
  have hl : lv_has ls 2 [(0, .ref o), (1, .int (iI x))] := hl
  have hfr : ∀ q, q ≠ o → (∀ i, i < 18 → q ≠ bd i) → M q = M q := fun q _ _ => rfl
  have hS0 := hS
  obtain ⟨th, wr, oN, oC, lbs, fcs, oS, oL, rw, fr, pi, fo, sm, le, gd, h_o, hbd, h_pS, h_pL, h_sg, h_lb, h_oS, h_oL, h_rw, h_fr, h_pi, h_fo, h_al, h_on, h_tw, h_sm, h_av, h_po, h_le, h_gd, hrg⟩ := hS
  have hpS : ∀ j, inI (pS j) := fun j => (hrg j).1
  have hpL : ∀ j, inI (pL j) := fun j => (hrg j).2.1
  have hsg : ∀ j, inI (sg j) := fun j => (hrg j).2.2.1
  have hlb : ∀ j, inI (lb j) := fun j => (hrg j).2.2.2.1
  have hoS : ∀ j, inI (oS j) := fun j => (hrg j).2.2.2.2.1
  have hoL : ∀ j, inI (oL j) := fun j => (hrg j).2.2.2.2.2.1
  have hrw : ∀ j, inI (rw j) := fun j => (hrg j).2.2.2.2.2.2.1
  have hfo : ∀ j, inI (fo j) := fun j => (hrg j).2.2.2.2.2.2.2.1
  have hal : ∀ j, inI (al j) := fun j => (hrg j).2.2.2.2.2.2.2.2
  refine lv_aload_n hx hb d_MM_arc_0 rfl (lv_at hl 0 rfl) ?_
  refine zq_callV (As := []) (rest := []) ⟨hx, hb, hml, hown, hts⟩ (c_MM_know l D K M o bd put pS pL nn cir sg lb kn arcs al on tw mns av po hS0 hkn hnn hcir hgd hmath) (cwV 0 hts (zg_V tw_741 tw_743 ts_39 tw_10 tw_744) rfl rfl rfl (by decide +kernel) ⟨Nat.le_of_ble_eq_true rfl, Nat.le_of_ble_eq_true rfl⟩) hZ hw hA h_o rfl rfl rfl rfl hl.1 (Nat.le_of_ble_eq_true rfl) d_MM_arc_1 ⟨Nat.le_of_ble_eq_true rfl, Nat.le_of_ble_eq_true rfl⟩ (fun v M1 H locs hp hw => ?_)
  obtain ⟨rfl, arcs1, al1, on1, tw1, mns1, av1, po1, hKn, hS1, ho⟩ := hp
  obtain ⟨th, wr, oN, oC, lbs, fcs, oS, oL, rw, fr, pi, fo, sm, le, gd, h_o, hbd, h_pS, h_pL, h_sg, h_lb, h_oS, h_oL, h_rw, h_fr, h_pi, h_fo, h_al, h_on, h_tw, h_sm, h_av, h_po, h_le, h_gd, hrg⟩ := id hS1
  have hpS : ∀ j, inI (pS j) := fun j => (hrg j).1
  have hpL : ∀ j, inI (pL j) := fun j => (hrg j).2.1
  have hsg : ∀ j, inI (sg j) := fun j => (hrg j).2.2.1
  have hlb : ∀ j, inI (lb j) := fun j => (hrg j).2.2.2.1
  have hoS : ∀ j, inI (oS j) := fun j => (hrg j).2.2.2.2.1
  have hoL : ∀ j, inI (oL j) := fun j => (hrg j).2.2.2.2.2.1
  have hrw : ∀ j, inI (rw j) := fun j => (hrg j).2.2.2.2.2.2.1
  have hfo : ∀ j, inI (fo j) := fun j => (hrg j).2.2.2.2.2.2.2.1
  have hal : ∀ j, inI (al1 j) := fun j => (hrg j).2.2.2.2.2.2.2.2
  have hfr : ∀ q, q ≠ o → (∀ i, i < 18 → q ≠ bd i) → M1 q = M q := fun q g0 g1 => (ho q g0 g1).trans (hfr q g0 g1)
  obtain ⟨c0, N1, hAl1, har1, hAz1, hN1, hFi1, hMn1, hPp1, hQ1, hIn1, hPi1⟩ := id hKn
  have hM3 := hmath c0 al1 N1 on1 tw1 hAl1 hN1 hFi1
  have hge := hM3.1
  have hle := hM3.2.1
  have hmnb := zMn_b hMn1 hnn
  refine W.eq (g2 := F0 m 4 ls []) rfl ?_
  refine lv_iload_n hx hb d_MM_arc_4 rfl (lv_at hl 1 rfl) ?_
  refine lv_iconst (v := iI 1) hx hb d_MM_arc_5 rfl ?_
  refine zq_icmp_lt (tgt := 18) hx hb d_MM_arc_6 (by decide) hx0 (by decide) (fun hc2 => ?_) (fun hc2 => ?_)
  · skip
    refine lv_iconst (v := iI (-1)) hx hb d_MM_arc_18 rfl ?_
    refine lv_goto (tgt := 27) hx hb d_MM_arc_19 (by decide) ?_
    exact zq_iret hx hb hr hlocks hZ hw ⟨_, rfl, arcs1, al1, on1, tw1, mns1, av1, po1, hKn, hS1, hfr, Or.inl ⟨rfl, Or.inl (by omega)⟩⟩ d_MM_arc_27
  · skip
    refine lv_aload_n hx hb d_MM_arc_9 rfl (lv_at hl 0 rfl) ?_
    refine lv_iload_n hx hb d_MM_arc_10 rfl (lv_at hl 1 rfl) ?_
    refine lv_iconst (v := iI 1) hx hb d_MM_arc_11 rfl ?_
    refine zq_callV (As := [.int (iI x), .int (iI 1)]) (rest := []) ⟨hx, hb, hml, hown, hts⟩ (c_MM_placeOf l D K M1 o bd th put wr nn cir oN oC lbs fcs arcs1 mns1 1 sg lb  x 1 h_o hbd h_sg h_lb hsg hlb hnn hx0 (Or.inr rfl)) (cwV 2 hts (zg_V tw_701 tw_703 ts_30 tw_10 tw_704) rfl rfl rfl (by decide +kernel) ⟨Nat.le_of_ble_eq_true rfl, Nat.le_of_ble_eq_true rfl⟩) hZ hw hA h_o rfl rfl rfl rfl hl.1 (Nat.le_of_ble_eq_true rfl) d_MM_arc_12 ⟨Nat.le_of_ble_eq_true rfl, Nat.le_of_ble_eq_true rfl⟩ (fun v M4 H locs hp hw => ?_)
    obtain ⟨rp3, rfl, hPrp3, hMe⟩ := hp
    rw [hMe] at hw
    refine W.eq (g2 := F0 m 15 ls [.int (iI rp3)]) rfl ?_
    have hLrp3 := zPl_lt hPrp3
    refine zq_if_ge (tgt := 22) hx hb d_MM_arc_15 (by decide) ⟨by omega, by have := hLrp3.2; omega⟩ (fun hc5 => ?_) (fun hc5 => ?_)
    · have hyl : ∃ z, 0 ≤ z ∧ z < 4 * nn ∧ lb z = x := ⟨rp3, by omega, (hLrp3.2 (by omega)).1, (hLrp3.2 (by omega)).2.1⟩
      refine lv_aload_n hx hb d_MM_arc_22 rfl (lv_at hl 0 rfl) ?_
      refine lv_iload_n hx hb d_MM_arc_23 rfl (lv_at hl 1 rfl) ?_
      refine zq_callV (As := [.int (iI x)]) (rest := []) ⟨hx, hb, hml, hown, hts⟩ (c_MM_arcNumber l D K M1 o bd th put wr nn cir oN oC lbs fcs arcs1 mns1 1 sg lb al1  x h_o hbd h_sg h_lb h_al hsg hlb hnn hgd hyl hal (fun m9 h9 => by obtain ⟨j, j1, j2, j3⟩ := zAl_ex hAl1 h9; exact ⟨j, j1, by have := hAl1.2.2; omega, j3⟩)) (cwV 1 hts (zg_V tw_767 tw_769 ts_44 tw_10 tw_770) rfl rfl rfl (by decide +kernel) ⟨Nat.le_of_ble_eq_true rfl, Nat.le_of_ble_eq_true rfl⟩) hZ hw hA h_o rfl rfl rfl rfl hl.1 (Nat.le_of_ble_eq_true rfl) d_MM_arc_24 ⟨Nat.le_of_ble_eq_true rfl, Nat.le_of_ble_eq_true rfl⟩ (fun v M7 H locs hp hw => ?_)
      obtain ⟨an6, man6, rfl, hAan6, hRan6, hEan6, hFan6, hMe⟩ := hp
      rw [hMe] at hw
      refine W.eq (g2 := F0 m 27 ls [.int (iI an6)]) rfl ?_
      exact zq_iret hx hb hr hlocks hZ hw ⟨_, rfl, arcs1, al1, on1, tw1, mns1, av1, po1, hKn, hS1, hfr, Or.inr ⟨⟨by omega, hyl⟩, man6, hAan6, hRan6, hEan6, hFan6⟩⟩ d_MM_arc_27
    · refine lv_iconst (v := iI (-1)) hx hb d_MM_arc_18 rfl ?_
      refine lv_goto (tgt := 27) hx hb d_MM_arc_19 (by decide) ?_
      exact zq_iret hx hb hr hlocks hZ hw ⟨_, rfl, arcs1, al1, on1, tw1, mns1, av1, po1, hKn, hS1, hfr, Or.inl ⟨rfl, Or.inr (fun q => by have := zPl_ex hPrp3 (zGd_e hgd q); omega)⟩⟩ d_MM_arc_27
abbrev P_MM_least (K : Nat → ClassId) (M : zq_M) (o : Nat) (bd : Nat → Nat) (put : Int) (pS : Int → Int) (pL : Int → Int) (nn : Int) (cir : Int) (sg : Int → Int) (lb : Int → Int) (kn : Int) (arcs : Int) (al : Int → Int) (on : Int → Int) (tw : Int → Int) (mns : Int) (av : Int → Int) (po : Int → Int) (x : Int) : Option Value → zq_M → Prop := fun v M' => ∃ r, v = some (.int (iI r)) ∧ ∃ arcs1 al1 on1 tw1 mns1 av1 po1, zKn nn cir sg lb arcs1 al1 on1 tw1 mns1 av1 po1 ∧ zMK K M' o bd put pS pL nn cir sg lb 1 arcs1 al1 on1 tw1 mns1 av1 po1 ∧ (∀ q, q ≠ o → (∀ i, i < 18 → q ≠ bd i) → M' q = M q) ∧ (r = if 0 ≤ x ∧ x < arcs1 then al1 x else -1)
set_option maxHeartbeats 4000000 in
set_option maxRecDepth 100000 in
theorem c_MM_least (l : Launch) (D : va_G) (K : Nat → ClassId) (M : zq_M) (o : Nat) (bd : Nat → Nat) (put : Int) (pS : Int → Int) (pL : Int → Int) (nn : Int) (cir : Int) (sg : Int → Int) (lb : Int → Int) (kn : Int) (arcs : Int) (al : Int → Int) (on : Int → Int) (tw : Int → Int) (mns : Int) (av : Int → Int) (po : Int → Int) (x : Int) (hS : zMK K M o bd put pS pL nn cir sg lb kn arcs al on tw mns av po) (hkn : kn = 0 ∨ (kn = 1 ∧ zKn nn cir sg lb arcs al on tw mns av po)) (hnn : 0 ≤ nn ∧ nn ≤ 12) (hcir : 0 ≤ cir ∧ cir ≤ 9) (hgd : zGd sg lb (4 * nn)) (hmath : zMth nn cir sg lb) (hx0 : inI x) : zq_Met l y_MM_least (.code y_MM_least b_MM_least 2 (some .int) :: lw_gd) { frames := 7, cells := 0, slots := 0, locals := 165 } D vwCl (zT K) [.ref o, .int (iI x)] M (P_MM_least K M o bd put pS pL nn cir sg lb kn arcs al on tw mns av po x) 0 0 := by
  refine zq_start (cc := b_MM_least) (maxL := 2) (ret := (some .int)) (by decide) rfl (Nat.le_of_ble_eq_true rfl) ?_
  intro p e s m below meth co A ls hx hb hr hml hts hown hnm hlocks hA hZ hw hl
  have hts : ∀ w ∈ lw_gd, w.before [.ref o, .int (iI x)].toArray s = true := fun w h => hts w (List.mem_cons_of_mem _ h)
  have hown : s.vm.findClass R_MM = some m.cls := hown
  have hK := hZ.1
  have hl : lv_has ls 2 [(0, .ref o), (1, .int (iI x))] := hl
  have hfr : ∀ q, q ≠ o → (∀ i, i < 18 → q ≠ bd i) → M q = M q := fun q _ _ => rfl
  have hS0 := hS
  obtain ⟨th, wr, oN, oC, lbs, fcs, oS, oL, rw, fr, pi, fo, sm, le, gd, h_o, hbd, h_pS, h_pL, h_sg, h_lb, h_oS, h_oL, h_rw, h_fr, h_pi, h_fo, h_al, h_on, h_tw, h_sm, h_av, h_po, h_le, h_gd, hrg⟩ := hS
  have hpS : ∀ j, inI (pS j) := fun j => (hrg j).1
  have hpL : ∀ j, inI (pL j) := fun j => (hrg j).2.1
  have hsg : ∀ j, inI (sg j) := fun j => (hrg j).2.2.1
  have hlb : ∀ j, inI (lb j) := fun j => (hrg j).2.2.2.1
  have hoS : ∀ j, inI (oS j) := fun j => (hrg j).2.2.2.2.1
  have hoL : ∀ j, inI (oL j) := fun j => (hrg j).2.2.2.2.2.1
  have hrw : ∀ j, inI (rw j) := fun j => (hrg j).2.2.2.2.2.2.1
  have hfo : ∀ j, inI (fo j) := fun j => (hrg j).2.2.2.2.2.2.2.1
  have hal : ∀ j, inI (al j) := fun j => (hrg j).2.2.2.2.2.2.2.2
  refine lv_aload_n hx hb d_MM_least_0 rfl (lv_at hl 0 rfl) ?_
  refine zq_callV (As := []) (rest := []) ⟨hx, hb, hml, hown, hts⟩ (c_MM_know l D K M o bd put pS pL nn cir sg lb kn arcs al on tw mns av po hS0 hkn hnn hcir hgd hmath) (cwV 0 hts (zg_V tw_741 tw_743 ts_39 tw_10 tw_744) rfl rfl rfl (by decide +kernel) ⟨Nat.le_of_ble_eq_true rfl, Nat.le_of_ble_eq_true rfl⟩) hZ hw hA h_o rfl rfl rfl rfl hl.1 (Nat.le_of_ble_eq_true rfl) d_MM_least_1 ⟨Nat.le_of_ble_eq_true rfl, Nat.le_of_ble_eq_true rfl⟩ (fun v M1 H locs hp hw => ?_)
  obtain ⟨rfl, arcs1, al1, on1, tw1, mns1, av1, po1, hKn, hS1, ho⟩ := hp
  obtain ⟨th, wr, oN, oC, lbs, fcs, oS, oL, rw, fr, pi, fo, sm, le, gd, h_o, hbd, h_pS, h_pL, h_sg, h_lb, h_oS, h_oL, h_rw, h_fr, h_pi, h_fo, h_al, h_on, h_tw, h_sm, h_av, h_po, h_le, h_gd, hrg⟩ := id hS1
  have hpS : ∀ j, inI (pS j) := fun j => (hrg j).1
  have hpL : ∀ j, inI (pL j) := fun j => (hrg j).2.1
  have hsg : ∀ j, inI (sg j) := fun j => (hrg j).2.2.1
  have hlb : ∀ j, inI (lb j) := fun j => (hrg j).2.2.2.1
  have hoS : ∀ j, inI (oS j) := fun j => (hrg j).2.2.2.2.1
  have hoL : ∀ j, inI (oL j) := fun j => (hrg j).2.2.2.2.2.1
  have hrw : ∀ j, inI (rw j) := fun j => (hrg j).2.2.2.2.2.2.1
  have hfo : ∀ j, inI (fo j) := fun j => (hrg j).2.2.2.2.2.2.2.1
  have hal : ∀ j, inI (al1 j) := fun j => (hrg j).2.2.2.2.2.2.2.2
  have hfr : ∀ q, q ≠ o → (∀ i, i < 18 → q ≠ bd i) → M1 q = M q := fun q g0 g1 => (ho q g0 g1).trans (hfr q g0 g1)
  obtain ⟨c0, N1, hAl1, har1, hAz1, hN1, hFi1, hMn1, hPp1, hQ1, hIn1, hPi1⟩ := id hKn
  have hM3 := hmath c0 al1 N1 on1 tw1 hAl1 hN1 hFi1
  have hge := hM3.1
  have hle := hM3.2.1
  have hmnb := zMn_b hMn1 hnn
  refine W.eq (g2 := F0 m 4 ls []) rfl ?_
  have hA24 := hAl1.2.2
  refine lv_iload_n hx hb d_MM_least_4 rfl (lv_at hl 1 rfl) ?_
  refine zq_if_lt (tgt := 16) hx hb d_MM_least_5 (by decide) hx0 (fun hc2 => ?_) (fun hc2 => ?_)
  · refine lv_iconst (v := iI (-1)) hx hb d_MM_least_16 rfl ?_
    refine lv_goto (tgt := 26) hx hb d_MM_least_17 (by decide) ?_
    exact zq_iret hx hb hr hlocks hZ hw ⟨_, rfl, arcs1, al1, on1, tw1, mns1, av1, po1, hKn, hS1, hfr, (if_neg (by omega)).symm⟩ d_MM_least_26
  · refine lv_iload_n hx hb d_MM_least_8 rfl (lv_at hl 1 rfl) ?_
    refine lv_aload_n hx hb d_MM_least_9 rfl (lv_at hl 0 rfl) ?_
    refine zq_get hx hb hts i_MM hown hK hw h_o rfl 19 (by decide) (hts _ tw_605) rfl d_MM_least_10 ?_
    refine zq_icmp_lt (tgt := 20) hx hb d_MM_least_13 (by decide) hx0 (by have := hAl1.2.2; exact ⟨by omega, by omega⟩) (fun hc3 => ?_) (fun hc3 => ?_)
    · refine lv_aload_n hx hb d_MM_least_20 rfl (lv_at hl 0 rfl) ?_
      refine zq_get hx hb hts i_MM hown hK hw h_o rfl 20 (by decide) (hts _ tw_606) rfl d_MM_least_21 ?_
      refine lv_iload_n hx hb d_MM_least_24 rfl (lv_at hl 1 rfl) ?_
      refine zq_iald hx hb hK hw 0 h_al rfl (by omega) (by omega) (by decide) d_MM_least_25 ?_
      exact zq_iret hx hb hr hlocks hZ hw ⟨_, rfl, arcs1, al1, on1, tw1, mns1, av1, po1, hKn, hS1, hfr, (if_pos (by omega)).symm⟩ d_MM_least_26
    · refine lv_iconst (v := iI (-1)) hx hb d_MM_least_16 rfl ?_
      refine lv_goto (tgt := 26) hx hb d_MM_least_17 (by decide) ?_
      exact zq_iret hx hb hr hlocks hZ hw ⟨_, rfl, arcs1, al1, on1, tw1, mns1, av1, po1, hKn, hS1, hfr, (if_neg (by omega)).symm⟩ d_MM_least_26
abbrev P_MM_entry (K : Nat → ClassId) (M : zq_M) (o : Nat) (bd : Nat → Nat) (put : Int) (pS : Int → Int) (pL : Int → Int) (nn : Int) (cir : Int) (sg : Int → Int) (lb : Int → Int) (kn : Int) (arcs : Int) (al : Int → Int) (on : Int → Int) (tw : Int → Int) (mns : Int) (av : Int → Int) (po : Int → Int) (k : Int) (a : Int) (e0 : Int) : Option Value → zq_M → Prop := fun v M' => ∃ r, v = some (.int (iI r)) ∧ ∃ arcs1 al1 on1 tw1 mns1 av1 po1, zKn nn cir sg lb arcs1 al1 on1 tw1 mns1 av1 po1 ∧ zMK K M' o bd put pS pL nn cir sg lb 1 arcs1 al1 on1 tw1 mns1 av1 po1 ∧ (∀ q, q ≠ o → (∀ i, i < 18 → q ≠ bd i) → M' q = M q) ∧ (r = if (0 ≤ k ∧ k < nn) ∧ 0 ≤ a ∧ a < arcs1 then (if e0 = 0 then on1 (32 * k + a) else if e0 = 1 then tw1 (32 * k + a) else 0) else 0)
set_option maxHeartbeats 4000000 in
set_option maxRecDepth 100000 in
theorem c_MM_entry (l : Launch) (D : va_G) (K : Nat → ClassId) (M : zq_M) (o : Nat) (bd : Nat → Nat) (put : Int) (pS : Int → Int) (pL : Int → Int) (nn : Int) (cir : Int) (sg : Int → Int) (lb : Int → Int) (kn : Int) (arcs : Int) (al : Int → Int) (on : Int → Int) (tw : Int → Int) (mns : Int) (av : Int → Int) (po : Int → Int) (k : Int) (a : Int) (e0 : Int) (hS : zMK K M o bd put pS pL nn cir sg lb kn arcs al on tw mns av po) (hkn : kn = 0 ∨ (kn = 1 ∧ zKn nn cir sg lb arcs al on tw mns av po)) (hnn : 0 ≤ nn ∧ nn ≤ 12) (hcir : 0 ≤ cir ∧ cir ≤ 9) (hgd : zGd sg lb (4 * nn)) (hmath : zMth nn cir sg lb) (hk0 : inI k) (ha0 : inI a) (he0 : inI e0) : zq_Met l y_MM_entry (.code y_MM_entry b_MM_entry 4 (some .int) :: lw_gd) { frames := 7, cells := 0, slots := 0, locals := 165 } D vwCl (zT K) [.ref o, .int (iI k), .int (iI a), .int (iI e0)] M (P_MM_entry K M o bd put pS pL nn cir sg lb kn arcs al on tw mns av po k a e0) 0 0 := by
  refine zq_start (cc := b_MM_entry) (maxL := 4) (ret := (some .int)) (by decide) rfl (Nat.le_of_ble_eq_true rfl) ?_
  intro p e s m below meth co A ls hx hb hr hml hts hown hnm hlocks hA hZ hw hl
  have hts : ∀ w ∈ lw_gd, w.before [.ref o, .int (iI k), .int (iI a), .int (iI e0)].toArray s = true := fun w h => hts w (List.mem_cons_of_mem _ h)
  have hown : s.vm.findClass R_MM = some m.cls := hown
  have hK := hZ.1
  have hl : lv_has ls 4 [(0, .ref o), (1, .int (iI k)), (2, .int (iI a)), (3, .int (iI e0))] := hl
  have hfr : ∀ q, q ≠ o → (∀ i, i < 18 → q ≠ bd i) → M q = M q := fun q _ _ => rfl
  have hS0 := hS
  obtain ⟨th, wr, oN, oC, lbs, fcs, oS, oL, rw, fr, pi, fo, sm, le, gd, h_o, hbd, h_pS, h_pL, h_sg, h_lb, h_oS, h_oL, h_rw, h_fr, h_pi, h_fo, h_al, h_on, h_tw, h_sm, h_av, h_po, h_le, h_gd, hrg⟩ := hS
  have hpS : ∀ j, inI (pS j) := fun j => (hrg j).1
  have hpL : ∀ j, inI (pL j) := fun j => (hrg j).2.1
  have hsg : ∀ j, inI (sg j) := fun j => (hrg j).2.2.1
  have hlb : ∀ j, inI (lb j) := fun j => (hrg j).2.2.2.1
  have hoS : ∀ j, inI (oS j) := fun j => (hrg j).2.2.2.2.1
  have hoL : ∀ j, inI (oL j) := fun j => (hrg j).2.2.2.2.2.1
  have hrw : ∀ j, inI (rw j) := fun j => (hrg j).2.2.2.2.2.2.1
  have hfo : ∀ j, inI (fo j) := fun j => (hrg j).2.2.2.2.2.2.2.1
  have hal : ∀ j, inI (al j) := fun j => (hrg j).2.2.2.2.2.2.2.2
  refine lv_aload_n hx hb d_MM_entry_0 rfl (lv_at hl 0 rfl) ?_
  refine zq_callV (As := []) (rest := []) ⟨hx, hb, hml, hown, hts⟩ (c_MM_know l D K M o bd put pS pL nn cir sg lb kn arcs al on tw mns av po hS0 hkn hnn hcir hgd hmath) (cwV 0 hts (zg_V tw_741 tw_743 ts_39 tw_10 tw_744) rfl rfl rfl (by decide +kernel) ⟨Nat.le_of_ble_eq_true rfl, Nat.le_of_ble_eq_true rfl⟩) hZ hw hA h_o rfl rfl rfl rfl hl.1 (Nat.le_of_ble_eq_true rfl) d_MM_entry_1 ⟨Nat.le_of_ble_eq_true rfl, Nat.le_of_ble_eq_true rfl⟩ (fun v M1 H locs hp hw => ?_)
  obtain ⟨rfl, arcs1, al1, on1, tw1, mns1, av1, po1, hKn, hS1, ho⟩ := hp
  obtain ⟨th, wr, oN, oC, lbs, fcs, oS, oL, rw, fr, pi, fo, sm, le, gd, h_o, hbd, h_pS, h_pL, h_sg, h_lb, h_oS, h_oL, h_rw, h_fr, h_pi, h_fo, h_al, h_on, h_tw, h_sm, h_av, h_po, h_le, h_gd, hrg⟩ := id hS1
  have hpS : ∀ j, inI (pS j) := fun j => (hrg j).1
  have hpL : ∀ j, inI (pL j) := fun j => (hrg j).2.1
  have hsg : ∀ j, inI (sg j) := fun j => (hrg j).2.2.1
  have hlb : ∀ j, inI (lb j) := fun j => (hrg j).2.2.2.1
  have hoS : ∀ j, inI (oS j) := fun j => (hrg j).2.2.2.2.1
  have hoL : ∀ j, inI (oL j) := fun j => (hrg j).2.2.2.2.2.1
  have hrw : ∀ j, inI (rw j) := fun j => (hrg j).2.2.2.2.2.2.1
  have hfo : ∀ j, inI (fo j) := fun j => (hrg j).2.2.2.2.2.2.2.1
  have hal : ∀ j, inI (al1 j) := fun j => (hrg j).2.2.2.2.2.2.2.2
  have hfr : ∀ q, q ≠ o → (∀ i, i < 18 → q ≠ bd i) → M1 q = M q := fun q g0 g1 => (ho q g0 g1).trans (hfr q g0 g1)
  obtain ⟨c0, N1, hAl1, har1, hAz1, hN1, hFi1, hMn1, hPp1, hQ1, hIn1, hPi1⟩ := id hKn
  have hM3 := hmath c0 al1 N1 on1 tw1 hAl1 hN1 hFi1
  have hge := hM3.1
  have hle := hM3.2.1
  have hmnb := zMn_b hMn1 hnn
  refine W.eq (g2 := F0 m 4 ls []) rfl ?_
  have hA24 := hAl1.2.2
  refine lv_iload_n hx hb d_MM_entry_4 rfl (lv_at hl 1 rfl) ?_
  refine zq_if_lt (tgt := 28) hx hb d_MM_entry_5 (by decide) hk0 (fun hc2 => ?_) (fun hc2 => ?_)
  · refine lv_iconst (v := iI 0) hx hb d_MM_entry_28 rfl ?_
    exact zq_iret hx hb hr hlocks hZ hw ⟨_, rfl, arcs1, al1, on1, tw1, mns1, av1, po1, hKn, hS1, hfr, (if_neg (by omega)).symm⟩ d_MM_entry_29
  · refine lv_iload_n hx hb d_MM_entry_8 rfl (lv_at hl 1 rfl) ?_
    refine lv_aload_n hx hb d_MM_entry_9 rfl (lv_at hl 0 rfl) ?_
    refine zq_get hx hb hts i_MM hown hK hw h_o rfl 5 (by decide) (hts _ tw_591) rfl d_MM_entry_10 ?_
    refine zq_icmp_ge (tgt := 28) hx hb d_MM_entry_13 (by decide) hk0 ⟨by omega, by omega⟩ (fun hc3 => ?_) (fun hc3 => ?_)
    · refine lv_iconst (v := iI 0) hx hb d_MM_entry_28 rfl ?_
      exact zq_iret hx hb hr hlocks hZ hw ⟨_, rfl, arcs1, al1, on1, tw1, mns1, av1, po1, hKn, hS1, hfr, (if_neg (by omega)).symm⟩ d_MM_entry_29
    · refine lv_iload_n hx hb d_MM_entry_16 rfl (lv_at hl 2 rfl) ?_
      refine zq_if_lt (tgt := 28) hx hb d_MM_entry_17 (by decide) ha0 (fun hc4 => ?_) (fun hc4 => ?_)
      · refine lv_iconst (v := iI 0) hx hb d_MM_entry_28 rfl ?_
        exact zq_iret hx hb hr hlocks hZ hw ⟨_, rfl, arcs1, al1, on1, tw1, mns1, av1, po1, hKn, hS1, hfr, (if_neg (by omega)).symm⟩ d_MM_entry_29
      · refine lv_iload_n hx hb d_MM_entry_20 rfl (lv_at hl 2 rfl) ?_
        refine lv_aload_n hx hb d_MM_entry_21 rfl (lv_at hl 0 rfl) ?_
        refine zq_get hx hb hts i_MM hown hK hw h_o rfl 19 (by decide) (hts _ tw_605) rfl d_MM_entry_22 ?_
        refine zq_icmp_lt (tgt := 30) hx hb d_MM_entry_25 (by decide) ha0 ⟨by omega, by omega⟩ (fun hc5 => ?_) (fun hc5 => ?_)
        · refine lv_iload_n hx hb d_MM_entry_30 rfl (lv_at hl 3 rfl) ?_
          refine zq_if_ne (tgt := 48) hx hb d_MM_entry_31 (by decide) he0 (fun hc6 => ?_) (fun hc6 => ?_)
          · refine lv_iload_n hx hb d_MM_entry_48 rfl (lv_at hl 3 rfl) ?_
            refine lv_iconst (v := iI 1) hx hb d_MM_entry_49 rfl ?_
            refine zq_icmp_ne (tgt := 67) hx hb d_MM_entry_50 (by decide) he0 (by decide) (fun hc7 => ?_) (fun hc7 => ?_)
            · refine lv_iconst (v := iI 0) hx hb d_MM_entry_67 rfl ?_
              exact zq_iret hx hb hr hlocks hZ hw ⟨_, rfl, arcs1, al1, on1, tw1, mns1, av1, po1, hKn, hS1, hfr, (by rw [if_pos ⟨⟨by omega, by omega⟩, by omega, by omega⟩, if_neg (by omega), if_neg (by omega)])⟩ d_MM_entry_68
            · refine lv_aload_n hx hb d_MM_entry_53 rfl (lv_at hl 0 rfl) ?_
              refine zq_get hx hb hts i_MM hown hK hw h_o rfl 22 (by decide) (hts _ tw_608) rfl d_MM_entry_54 ?_
              refine lv_bipush (v := iI 32) hx hb d_MM_entry_57 (by decide) ?_
              refine lv_iload_n hx hb d_MM_entry_59 rfl (lv_at hl 1 rfl) ?_
              refine zq_imul hx hb d_MM_entry_60 ?_
              refine lv_iload_n hx hb d_MM_entry_61 rfl (lv_at hl 2 rfl) ?_
              refine zq_iadd hx hb d_MM_entry_62 ?_
              refine zq_iald hx hb hK hw 0 h_tw rfl (by omega) (by omega) (by decide) d_MM_entry_63 ?_
              refine lv_goto (tgt := 68) hx hb d_MM_entry_64 (by decide) ?_
              exact zq_iret hx hb hr hlocks hZ hw ⟨_, rfl, arcs1, al1, on1, tw1, mns1, av1, po1, hKn, hS1, hfr, (by rw [if_pos ⟨⟨by omega, by omega⟩, by omega, by omega⟩, if_neg (by omega), if_pos (by omega)])⟩ d_MM_entry_68
          · refine lv_aload_n hx hb d_MM_entry_34 rfl (lv_at hl 0 rfl) ?_
            refine zq_get hx hb hts i_MM hown hK hw h_o rfl 21 (by decide) (hts _ tw_607) rfl d_MM_entry_35 ?_
            refine lv_bipush (v := iI 32) hx hb d_MM_entry_38 (by decide) ?_
            refine lv_iload_n hx hb d_MM_entry_40 rfl (lv_at hl 1 rfl) ?_
            refine zq_imul hx hb d_MM_entry_41 ?_
            refine lv_iload_n hx hb d_MM_entry_42 rfl (lv_at hl 2 rfl) ?_
            refine zq_iadd hx hb d_MM_entry_43 ?_
            refine zq_iald hx hb hK hw 0 h_on rfl (by omega) (by omega) (by decide) d_MM_entry_44 ?_
            refine lv_goto (tgt := 68) hx hb d_MM_entry_45 (by decide) ?_
            exact zq_iret hx hb hr hlocks hZ hw ⟨_, rfl, arcs1, al1, on1, tw1, mns1, av1, po1, hKn, hS1, hfr, (by rw [if_pos ⟨⟨by omega, by omega⟩, by omega, by omega⟩, if_pos (by omega)])⟩ d_MM_entry_68
        · refine lv_iconst (v := iI 0) hx hb d_MM_entry_28 rfl ?_
          exact zq_iret hx hb hr hlocks hZ hw ⟨_, rfl, arcs1, al1, on1, tw1, mns1, av1, po1, hKn, hS1, hfr, (if_neg (by omega)).symm⟩ d_MM_entry_29
abbrev P_MM_minor (K : Nat → ClassId) (M : zq_M) (o : Nat) (bd : Nat → Nat) (put : Int) (pS : Int → Int) (pL : Int → Int) (nn : Int) (cir : Int) (sg : Int → Int) (lb : Int → Int) (kn : Int) (arcs : Int) (al : Int → Int) (on : Int → Int) (tw : Int → Int) (mns : Int) (av : Int → Int) (po : Int → Int) (k : Int) (a : Int) (e0 : Int) : Option Value → zq_M → Prop := fun v M' => ∃ r, v = some (.long (iL r)) ∧ ∃ arcs1 al1 on1 tw1 mns1 av1 po1, zKn nn cir sg lb arcs1 al1 on1 tw1 mns1 av1 po1 ∧ zMK K M' o bd put pS pL nn cir sg lb 1 arcs1 al1 on1 tw1 mns1 av1 po1 ∧ (∀ q, q ≠ o → (∀ i, i < 18 → q ≠ bd i) → M' q = M q) ∧ ((¬ ((0 ≤ a ∧ a < arcs1) ∧ (0 ≤ e0 ∧ e0 < 14) ∧ (-1 ≤ k ∧ k < nn) ∧ ¬ mns1 = 0 ∧ (arcs1 = nn + 1 ↔ k = -1)) ∧ r = 0) ∨ (((0 ≤ a ∧ a < arcs1) ∧ (0 ≤ e0 ∧ e0 < 14) ∧ (-1 ≤ k ∧ k < nn) ∧ ¬ mns1 = 0 ∧ (arcs1 = nn + 1 ↔ k = -1)) ∧ r = av1 (14 * (if arcs1 = nn + 1 then a else arcs1 * k + a) + e0)))
set_option maxHeartbeats 4000000 in
set_option maxRecDepth 100000 in
theorem c_MM_minor (l : Launch) (D : va_G) (K : Nat → ClassId) (M : zq_M) (o : Nat) (bd : Nat → Nat) (put : Int) (pS : Int → Int) (pL : Int → Int) (nn : Int) (cir : Int) (sg : Int → Int) (lb : Int → Int) (kn : Int) (arcs : Int) (al : Int → Int) (on : Int → Int) (tw : Int → Int) (mns : Int) (av : Int → Int) (po : Int → Int) (k : Int) (a : Int) (e0 : Int) (hS : zMK K M o bd put pS pL nn cir sg lb kn arcs al on tw mns av po) (hkn : kn = 0 ∨ (kn = 1 ∧ zKn nn cir sg lb arcs al on tw mns av po)) (hnn : 0 ≤ nn ∧ nn ≤ 12) (hcir : 0 ≤ cir ∧ cir ≤ 9) (hgd : zGd sg lb (4 * nn)) (hmath : zMth nn cir sg lb) (hk0 : inI k) (ha0 : inI a) (he0 : inI e0) : zq_Met l y_MM_minor (.code y_MM_minor b_MM_minor 5 (some .long) :: lw_gd) { frames := 7, cells := 0, slots := 0, locals := 165 } D vwCl (zT K) [.ref o, .int (iI k), .int (iI a), .int (iI e0)] M (P_MM_minor K M o bd put pS pL nn cir sg lb kn arcs al on tw mns av po k a e0) 0 0 := by
  refine zq_start (cc := b_MM_minor) (maxL := 5) (ret := (some .long)) (by decide) rfl (Nat.le_of_ble_eq_true rfl) ?_
  intro p e s m below meth co A ls hx hb hr hml hts hown hnm hlocks hA hZ hw hl
  have hts : ∀ w ∈ lw_gd, w.before [.ref o, .int (iI k), .int (iI a), .int (iI e0)].toArray s = true := fun w h => hts w (List.mem_cons_of_mem _ h)
  have hown : s.vm.findClass R_MM = some m.cls := hown
  have hK := hZ.1
  have hl : lv_has ls 5 [(0, .ref o), (1, .int (iI k)), (2, .int (iI a)), (3, .int (iI e0))] := hl
  have hfr : ∀ q, q ≠ o → (∀ i, i < 18 → q ≠ bd i) → M q = M q := fun q _ _ => rfl
  have hS0 := hS
  obtain ⟨th, wr, oN, oC, lbs, fcs, oS, oL, rw, fr, pi, fo, sm, le, gd, h_o, hbd, h_pS, h_pL, h_sg, h_lb, h_oS, h_oL, h_rw, h_fr, h_pi, h_fo, h_al, h_on, h_tw, h_sm, h_av, h_po, h_le, h_gd, hrg⟩ := hS
  have hpS : ∀ j, inI (pS j) := fun j => (hrg j).1
  have hpL : ∀ j, inI (pL j) := fun j => (hrg j).2.1
  have hsg : ∀ j, inI (sg j) := fun j => (hrg j).2.2.1
  have hlb : ∀ j, inI (lb j) := fun j => (hrg j).2.2.2.1
  have hoS : ∀ j, inI (oS j) := fun j => (hrg j).2.2.2.2.1
  have hoL : ∀ j, inI (oL j) := fun j => (hrg j).2.2.2.2.2.1
  have hrw : ∀ j, inI (rw j) := fun j => (hrg j).2.2.2.2.2.2.1
  have hfo : ∀ j, inI (fo j) := fun j => (hrg j).2.2.2.2.2.2.2.1
  have hal : ∀ j, inI (al j) := fun j => (hrg j).2.2.2.2.2.2.2.2
  refine lv_aload_n hx hb d_MM_minor_0 rfl (lv_at hl 0 rfl) ?_
  refine zq_callV (As := []) (rest := []) ⟨hx, hb, hml, hown, hts⟩ (c_MM_know l D K M o bd put pS pL nn cir sg lb kn arcs al on tw mns av po hS0 hkn hnn hcir hgd hmath) (cwV 0 hts (zg_V tw_741 tw_743 ts_39 tw_10 tw_744) rfl rfl rfl (by decide +kernel) ⟨Nat.le_of_ble_eq_true rfl, Nat.le_of_ble_eq_true rfl⟩) hZ hw hA h_o rfl rfl rfl rfl hl.1 (Nat.le_of_ble_eq_true rfl) d_MM_minor_1 ⟨Nat.le_of_ble_eq_true rfl, Nat.le_of_ble_eq_true rfl⟩ (fun v M1 H locs hp hw => ?_)
  obtain ⟨rfl, arcs1, al1, on1, tw1, mns1, av1, po1, hKn, hS1, ho⟩ := hp
  obtain ⟨th, wr, oN, oC, lbs, fcs, oS, oL, rw, fr, pi, fo, sm, le, gd, h_o, hbd, h_pS, h_pL, h_sg, h_lb, h_oS, h_oL, h_rw, h_fr, h_pi, h_fo, h_al, h_on, h_tw, h_sm, h_av, h_po, h_le, h_gd, hrg⟩ := id hS1
  have hpS : ∀ j, inI (pS j) := fun j => (hrg j).1
  have hpL : ∀ j, inI (pL j) := fun j => (hrg j).2.1
  have hsg : ∀ j, inI (sg j) := fun j => (hrg j).2.2.1
  have hlb : ∀ j, inI (lb j) := fun j => (hrg j).2.2.2.1
  have hoS : ∀ j, inI (oS j) := fun j => (hrg j).2.2.2.2.1
  have hoL : ∀ j, inI (oL j) := fun j => (hrg j).2.2.2.2.2.1
  have hrw : ∀ j, inI (rw j) := fun j => (hrg j).2.2.2.2.2.2.1
  have hfo : ∀ j, inI (fo j) := fun j => (hrg j).2.2.2.2.2.2.2.1
  have hal : ∀ j, inI (al1 j) := fun j => (hrg j).2.2.2.2.2.2.2.2
  have hfr : ∀ q, q ≠ o → (∀ i, i < 18 → q ≠ bd i) → M1 q = M q := fun q g0 g1 => (ho q g0 g1).trans (hfr q g0 g1)
  obtain ⟨c0, N1, hAl1, har1, hAz1, hN1, hFi1, hMn1, hPp1, hQ1, hIn1, hPi1⟩ := id hKn
  have hM3 := hmath c0 al1 N1 on1 tw1 hAl1 hN1 hFi1
  have hge := hM3.1
  have hle := hM3.2.1
  have hmnb := zMn_b hMn1 hnn
  refine W.eq (g2 := F0 m 4 ls []) rfl ?_
  have hA24 := hAl1.2.2
  refine lv_iload_n hx hb d_MM_minor_4 rfl (lv_at hl 2 rfl) ?_
  refine zq_if_lt (tgt := 46) hx hb d_MM_minor_5 (by decide) ha0 (fun hc2 => ?_) (fun hc2 => ?_)
  · refine lv_lconst (v := iL 0) hx hb d_MM_minor_46 (by decide) ?_
    exact zq_lret hx hb hr hlocks hZ hw ⟨_, rfl, arcs1, al1, on1, tw1, mns1, av1, po1, hKn, hS1, hfr, Or.inl ⟨fun q => by omega, rfl⟩⟩ d_MM_minor_47
  · refine lv_iload_n hx hb d_MM_minor_8 rfl (lv_at hl 2 rfl) ?_
    refine lv_aload_n hx hb d_MM_minor_9 rfl (lv_at hl 0 rfl) ?_
    refine zq_get hx hb hts i_MM hown hK hw h_o rfl 19 (by decide) (hts _ tw_605) rfl d_MM_minor_10 ?_
    refine zq_icmp_ge (tgt := 46) hx hb d_MM_minor_13 (by decide) ha0 ⟨by omega, by omega⟩ (fun hc3 => ?_) (fun hc3 => ?_)
    · refine lv_lconst (v := iL 0) hx hb d_MM_minor_46 (by decide) ?_
      exact zq_lret hx hb hr hlocks hZ hw ⟨_, rfl, arcs1, al1, on1, tw1, mns1, av1, po1, hKn, hS1, hfr, Or.inl ⟨fun q => by omega, rfl⟩⟩ d_MM_minor_47
    · refine lv_iload_n hx hb d_MM_minor_16 rfl (lv_at hl 3 rfl) ?_
      refine zq_if_lt (tgt := 46) hx hb d_MM_minor_17 (by decide) he0 (fun hc4 => ?_) (fun hc4 => ?_)
      · refine lv_lconst (v := iL 0) hx hb d_MM_minor_46 (by decide) ?_
        exact zq_lret hx hb hr hlocks hZ hw ⟨_, rfl, arcs1, al1, on1, tw1, mns1, av1, po1, hKn, hS1, hfr, Or.inl ⟨fun q => by omega, rfl⟩⟩ d_MM_minor_47
      · refine lv_iload_n hx hb d_MM_minor_20 rfl (lv_at hl 3 rfl) ?_
        refine lv_bipush (v := iI 14) hx hb d_MM_minor_21 (by decide) ?_
        refine zq_icmp_ge (tgt := 46) hx hb d_MM_minor_23 (by decide) he0 (by decide) (fun hc5 => ?_) (fun hc5 => ?_)
        · refine lv_lconst (v := iL 0) hx hb d_MM_minor_46 (by decide) ?_
          exact zq_lret hx hb hr hlocks hZ hw ⟨_, rfl, arcs1, al1, on1, tw1, mns1, av1, po1, hKn, hS1, hfr, Or.inl ⟨fun q => by omega, rfl⟩⟩ d_MM_minor_47
        · refine lv_iload_n hx hb d_MM_minor_26 rfl (lv_at hl 1 rfl) ?_
          refine lv_iconst (v := iI (-1)) hx hb d_MM_minor_27 rfl ?_
          refine zq_icmp_lt (tgt := 46) hx hb d_MM_minor_28 (by decide) hk0 (by decide) (fun hc6 => ?_) (fun hc6 => ?_)
          · refine lv_lconst (v := iL 0) hx hb d_MM_minor_46 (by decide) ?_
            exact zq_lret hx hb hr hlocks hZ hw ⟨_, rfl, arcs1, al1, on1, tw1, mns1, av1, po1, hKn, hS1, hfr, Or.inl ⟨fun q => by omega, rfl⟩⟩ d_MM_minor_47
          · refine lv_iload_n hx hb d_MM_minor_31 rfl (lv_at hl 1 rfl) ?_
            refine lv_aload_n hx hb d_MM_minor_32 rfl (lv_at hl 0 rfl) ?_
            refine zq_get hx hb hts i_MM hown hK hw h_o rfl 5 (by decide) (hts _ tw_591) rfl d_MM_minor_33 ?_
            refine zq_icmp_ge (tgt := 46) hx hb d_MM_minor_36 (by decide) hk0 ⟨by omega, by omega⟩ (fun hc7 => ?_) (fun hc7 => ?_)
            · refine lv_lconst (v := iL 0) hx hb d_MM_minor_46 (by decide) ?_
              exact zq_lret hx hb hr hlocks hZ hw ⟨_, rfl, arcs1, al1, on1, tw1, mns1, av1, po1, hKn, hS1, hfr, Or.inl ⟨fun q => by omega, rfl⟩⟩ d_MM_minor_47
            · refine lv_aload_n hx hb d_MM_minor_39 rfl (lv_at hl 0 rfl) ?_
              refine zq_get hx hb hts i_MM hown hK hw h_o rfl 24 (by decide) (hts _ tw_610) rfl d_MM_minor_40 ?_
              refine zq_if_ne (tgt := 48) hx hb d_MM_minor_43 (by decide) ⟨by omega, by omega⟩ (fun hc8 => ?_) (fun hc8 => ?_)
              · refine lv_aload_n hx hb d_MM_minor_48 rfl (lv_at hl 0 rfl) ?_
                refine zq_get hx hb hts i_MM hown hK hw h_o rfl 19 (by decide) (hts _ tw_605) rfl d_MM_minor_49 ?_
                refine lv_aload_n hx hb d_MM_minor_52 rfl (lv_at hl 0 rfl) ?_
                refine zq_get hx hb hts i_MM hown hK hw h_o rfl 5 (by decide) (hts _ tw_591) rfl d_MM_minor_53 ?_
                refine lv_iconst (v := iI 1) hx hb d_MM_minor_56 rfl ?_
                refine zq_iadd hx hb d_MM_minor_57 ?_
                refine zq_icmp_ne (tgt := 65) hx hb d_MM_minor_58 (by decide) ⟨by omega, by omega⟩ ⟨by omega, by omega⟩ (fun hc9 => ?_) (fun hc9 => ?_)
                · refine lv_iconst (v := iI 0) hx hb d_MM_minor_65 rfl ?_
                  refine lv_istore (lv' := [(4, .int (iI 0)), (0, .ref o), (1, .int (iI k)), (2, .int (iI a)), (3, .int (iI e0))]) hx hb d_MM_minor_66 hl (by decide) rfl (fun ls hl => ?_)
                  refine lv_iload hx hb d_MM_minor_68 (lv_at hl 0 rfl) ?_
                  refine lv_iload_n hx hb d_MM_minor_70 rfl (lv_at hl 2 rfl) ?_
                  refine lv_iconst (v := iI (-1)) hx hb d_MM_minor_71 rfl ?_
                  refine zq_icmp_ne (tgt := 79) hx hb d_MM_minor_72 (by decide) hk0 (by decide) (fun hc10 => ?_) (fun hc10 => ?_)
                  · refine lv_iconst (v := iI 0) hx hb d_MM_minor_79 rfl ?_
                    refine zq_icmp_eq (tgt := 85) hx hb d_MM_minor_80 (by decide) (by decide) (by decide) (fun hc11 => ?_) (fun hc11 => ?_)
                    · refine lv_aload_n hx hb d_MM_minor_85 rfl (lv_at hl 1 rfl) ?_
                      refine zq_get hx hb hts i_MM hown hK hw h_o rfl 25 (by decide) (hts _ tw_611) rfl d_MM_minor_86 ?_
                      refine lv_bipush (v := iI 14) hx hb d_MM_minor_89 (by decide) ?_
                      refine lv_iload hx hb d_MM_minor_91 (lv_at hl 0 rfl) ?_
                      refine zq_if_eq (tgt := 100) hx hb d_MM_minor_93 (by decide) (by decide) (fun hc12 => ?_) (fun hc12 => ?_)
                      · refine lv_aload_n hx hb d_MM_minor_100 rfl (lv_at hl 1 rfl) ?_
                        refine zq_get hx hb hts i_MM hown hK hw h_o rfl 19 (by decide) (hts _ tw_605) rfl d_MM_minor_101 ?_
                        refine lv_iload_n hx hb d_MM_minor_104 rfl (lv_at hl 2 rfl) ?_
                        refine zq_imul hx hb d_MM_minor_105 ?_
                        refine lv_iload_n hx hb d_MM_minor_106 rfl (lv_at hl 3 rfl) ?_
                        refine zq_iadd hx hb d_MM_minor_107 ?_
                        refine zq_imul hx hb d_MM_minor_108 ?_
                        refine lv_iload_n hx hb d_MM_minor_109 rfl (lv_at hl 4 rfl) ?_
                        refine zq_iadd hx hb d_MM_minor_110 ?_
                        refine zq_lald hx hb hK hw 1 h_av rfl (by rcases hMn1 with q | q | q; omega; omega; have h9 := zmnb (ar := arcs1) (x := k) (by omega) (by omega); omega) (by rcases hMn1 with q | q | q; omega; omega; have h9 := zmnb (ar := arcs1) (x := k) (by omega) (by omega); omega) (by decide) d_MM_minor_111 ?_
                        exact zq_lret hx hb hr hlocks hZ hw ⟨_, rfl, arcs1, al1, on1, tw1, mns1, av1, po1, hKn, hS1, hfr, Or.inr ⟨⟨⟨by omega, by omega⟩, ⟨by omega, by omega⟩, ⟨by omega, by omega⟩, by omega, by omega⟩, (by rw [if_neg (by omega)])⟩⟩ d_MM_minor_112
                      · exact absurd hc12 (by decide)
                    · refine lv_lconst (v := iL 0) hx hb d_MM_minor_83 (by decide) ?_
                      exact zq_lret hx hb hr hlocks hZ hw ⟨_, rfl, arcs1, al1, on1, tw1, mns1, av1, po1, hKn, hS1, hfr, Or.inl ⟨fun q => by omega, rfl⟩⟩ d_MM_minor_84
                  · refine lv_iconst (v := iI 1) hx hb d_MM_minor_75 rfl ?_
                    refine lv_goto (tgt := 80) hx hb d_MM_minor_76 (by decide) ?_
                    refine zq_icmp_eq (tgt := 85) hx hb d_MM_minor_80 (by decide) (by decide) (by decide) (fun hc13 => ?_) (fun hc13 => ?_)
                    · refine lv_aload_n hx hb d_MM_minor_85 rfl (lv_at hl 1 rfl) ?_
                      refine zq_get hx hb hts i_MM hown hK hw h_o rfl 25 (by decide) (hts _ tw_611) rfl d_MM_minor_86 ?_
                      refine lv_bipush (v := iI 14) hx hb d_MM_minor_89 (by decide) ?_
                      refine lv_iload hx hb d_MM_minor_91 (lv_at hl 0 rfl) ?_
                      refine zq_if_eq (tgt := 100) hx hb d_MM_minor_93 (by decide) (by decide) (fun hc14 => ?_) (fun hc14 => ?_)
                      · refine lv_aload_n hx hb d_MM_minor_100 rfl (lv_at hl 1 rfl) ?_
                        refine zq_get hx hb hts i_MM hown hK hw h_o rfl 19 (by decide) (hts _ tw_605) rfl d_MM_minor_101 ?_
                        refine lv_iload_n hx hb d_MM_minor_104 rfl (lv_at hl 2 rfl) ?_
                        refine zq_imul hx hb d_MM_minor_105 ?_
                        refine lv_iload_n hx hb d_MM_minor_106 rfl (lv_at hl 3 rfl) ?_
                        refine zq_iadd hx hb d_MM_minor_107 ?_
                        refine zq_imul hx hb d_MM_minor_108 ?_
                        refine lv_iload_n hx hb d_MM_minor_109 rfl (lv_at hl 4 rfl) ?_
                        refine zq_iadd hx hb d_MM_minor_110 ?_
                        refine zq_lald hx hb hK hw 1 h_av rfl (by rcases hMn1 with q | q | q; omega; omega; have h9 := zmnb (ar := arcs1) (x := k) (by omega) (by omega); omega) (by rcases hMn1 with q | q | q; omega; omega; have h9 := zmnb (ar := arcs1) (x := k) (by omega) (by omega); omega) (by decide) d_MM_minor_111 ?_
                        exact zq_lret hx hb hr hlocks hZ hw ⟨_, rfl, arcs1, al1, on1, tw1, mns1, av1, po1, hKn, hS1, hfr, Or.inr ⟨⟨⟨by omega, by omega⟩, ⟨by omega, by omega⟩, ⟨by omega, by omega⟩, by omega, by omega⟩, (by rw [if_neg (by omega)])⟩⟩ d_MM_minor_112
                      · exact absurd hc14 (by decide)
                    · refine lv_lconst (v := iL 0) hx hb d_MM_minor_83 (by decide) ?_
                      exact zq_lret hx hb hr hlocks hZ hw ⟨_, rfl, arcs1, al1, on1, tw1, mns1, av1, po1, hKn, hS1, hfr, Or.inl ⟨fun q => by omega, rfl⟩⟩ d_MM_minor_84
                · refine lv_iconst (v := iI 1) hx hb d_MM_minor_61 rfl ?_
                  refine lv_goto (tgt := 66) hx hb d_MM_minor_62 (by decide) ?_
                  refine lv_istore (lv' := [(4, .int (iI 1)), (0, .ref o), (1, .int (iI k)), (2, .int (iI a)), (3, .int (iI e0))]) hx hb d_MM_minor_66 hl (by decide) rfl (fun ls hl => ?_)
                  refine lv_iload hx hb d_MM_minor_68 (lv_at hl 0 rfl) ?_
                  refine lv_iload_n hx hb d_MM_minor_70 rfl (lv_at hl 2 rfl) ?_
                  refine lv_iconst (v := iI (-1)) hx hb d_MM_minor_71 rfl ?_
                  refine zq_icmp_ne (tgt := 79) hx hb d_MM_minor_72 (by decide) hk0 (by decide) (fun hc15 => ?_) (fun hc15 => ?_)
                  · refine lv_iconst (v := iI 0) hx hb d_MM_minor_79 rfl ?_
                    refine zq_icmp_eq (tgt := 85) hx hb d_MM_minor_80 (by decide) (by decide) (by decide) (fun hc16 => ?_) (fun hc16 => ?_)
                    · refine lv_aload_n hx hb d_MM_minor_85 rfl (lv_at hl 1 rfl) ?_
                      refine zq_get hx hb hts i_MM hown hK hw h_o rfl 25 (by decide) (hts _ tw_611) rfl d_MM_minor_86 ?_
                      refine lv_bipush (v := iI 14) hx hb d_MM_minor_89 (by decide) ?_
                      refine lv_iload hx hb d_MM_minor_91 (lv_at hl 0 rfl) ?_
                      refine zq_if_eq (tgt := 100) hx hb d_MM_minor_93 (by decide) (by decide) (fun hc17 => ?_) (fun hc17 => ?_)
                      · exact absurd hc17 (by decide)
                      · refine lv_iload_n hx hb d_MM_minor_96 rfl (lv_at hl 3 rfl) ?_
                        refine lv_goto (tgt := 108) hx hb d_MM_minor_97 (by decide) ?_
                        refine zq_imul hx hb d_MM_minor_108 ?_
                        refine lv_iload_n hx hb d_MM_minor_109 rfl (lv_at hl 4 rfl) ?_
                        refine zq_iadd hx hb d_MM_minor_110 ?_
                        refine zq_lald hx hb hK hw 1 h_av rfl (by rcases hMn1 with q | q | q; omega; omega; have h9 := zmnb (ar := arcs1) (x := k) (by omega) (by omega); omega) (by rcases hMn1 with q | q | q; omega; omega; have h9 := zmnb (ar := arcs1) (x := k) (by omega) (by omega); omega) (by decide) d_MM_minor_111 ?_
                        exact zq_lret hx hb hr hlocks hZ hw ⟨_, rfl, arcs1, al1, on1, tw1, mns1, av1, po1, hKn, hS1, hfr, Or.inr ⟨⟨⟨by omega, by omega⟩, ⟨by omega, by omega⟩, ⟨by omega, by omega⟩, by omega, by omega⟩, (by rw [if_pos (by omega)])⟩⟩ d_MM_minor_112
                    · refine lv_lconst (v := iL 0) hx hb d_MM_minor_83 (by decide) ?_
                      exact zq_lret hx hb hr hlocks hZ hw ⟨_, rfl, arcs1, al1, on1, tw1, mns1, av1, po1, hKn, hS1, hfr, Or.inl ⟨fun q => by omega, rfl⟩⟩ d_MM_minor_84
                  · refine lv_iconst (v := iI 1) hx hb d_MM_minor_75 rfl ?_
                    refine lv_goto (tgt := 80) hx hb d_MM_minor_76 (by decide) ?_
                    refine zq_icmp_eq (tgt := 85) hx hb d_MM_minor_80 (by decide) (by decide) (by decide) (fun hc18 => ?_) (fun hc18 => ?_)
                    · refine lv_aload_n hx hb d_MM_minor_85 rfl (lv_at hl 1 rfl) ?_
                      refine zq_get hx hb hts i_MM hown hK hw h_o rfl 25 (by decide) (hts _ tw_611) rfl d_MM_minor_86 ?_
                      refine lv_bipush (v := iI 14) hx hb d_MM_minor_89 (by decide) ?_
                      refine lv_iload hx hb d_MM_minor_91 (lv_at hl 0 rfl) ?_
                      refine zq_if_eq (tgt := 100) hx hb d_MM_minor_93 (by decide) (by decide) (fun hc19 => ?_) (fun hc19 => ?_)
                      · exact absurd hc19 (by decide)
                      · refine lv_iload_n hx hb d_MM_minor_96 rfl (lv_at hl 3 rfl) ?_
                        refine lv_goto (tgt := 108) hx hb d_MM_minor_97 (by decide) ?_
                        refine zq_imul hx hb d_MM_minor_108 ?_
                        refine lv_iload_n hx hb d_MM_minor_109 rfl (lv_at hl 4 rfl) ?_
                        refine zq_iadd hx hb d_MM_minor_110 ?_
                        refine zq_lald hx hb hK hw 1 h_av rfl (by rcases hMn1 with q | q | q; omega; omega; have h9 := zmnb (ar := arcs1) (x := k) (by omega) (by omega); omega) (by rcases hMn1 with q | q | q; omega; omega; have h9 := zmnb (ar := arcs1) (x := k) (by omega) (by omega); omega) (by decide) d_MM_minor_111 ?_
                        exact zq_lret hx hb hr hlocks hZ hw ⟨_, rfl, arcs1, al1, on1, tw1, mns1, av1, po1, hKn, hS1, hfr, Or.inr ⟨⟨⟨by omega, by omega⟩, ⟨by omega, by omega⟩, ⟨by omega, by omega⟩, by omega, by omega⟩, (by rw [if_pos (by omega)])⟩⟩ d_MM_minor_112
                    · refine lv_lconst (v := iL 0) hx hb d_MM_minor_83 (by decide) ?_
                      exact zq_lret hx hb hr hlocks hZ hw ⟨_, rfl, arcs1, al1, on1, tw1, mns1, av1, po1, hKn, hS1, hfr, Or.inl ⟨fun q => by omega, rfl⟩⟩ d_MM_minor_84
              · refine lv_lconst (v := iL 0) hx hb d_MM_minor_46 (by decide) ?_
                exact zq_lret hx hb hr hlocks hZ hw ⟨_, rfl, arcs1, al1, on1, tw1, mns1, av1, po1, hKn, hS1, hfr, Or.inl ⟨fun q => by omega, rfl⟩⟩ d_MM_minor_47
abbrev P_MM_alexander (K : Nat → ClassId) (M : zq_M) (o : Nat) (bd : Nat → Nat) (put : Int) (pS : Int → Int) (pL : Int → Int) (nn : Int) (cir : Int) (sg : Int → Int) (lb : Int → Int) (kn : Int) (arcs : Int) (al : Int → Int) (on : Int → Int) (tw : Int → Int) (mns : Int) (av : Int → Int) (po : Int → Int) (e0 : Int) : Option Value → zq_M → Prop := fun v M' => ∃ r, v = some (.long (iL r)) ∧ ∃ arcs1 al1 on1 tw1 mns1 av1 po1, zKn nn cir sg lb arcs1 al1 on1 tw1 mns1 av1 po1 ∧ zMK K M' o bd put pS pL nn cir sg lb 1 arcs1 al1 on1 tw1 mns1 av1 po1 ∧ (∀ q, q ≠ o → (∀ i, i < 18 → q ≠ bd i) → M' q = M q) ∧ (r = if 0 ≤ e0 ∧ e0 < 14 then po1 e0 else 0)
set_option maxHeartbeats 4000000 in
set_option maxRecDepth 100000 in
theorem c_MM_alexander (l : Launch) (D : va_G) (K : Nat → ClassId) (M : zq_M) (o : Nat) (bd : Nat → Nat) (put : Int) (pS : Int → Int) (pL : Int → Int) (nn : Int) (cir : Int) (sg : Int → Int) (lb : Int → Int) (kn : Int) (arcs : Int) (al : Int → Int) (on : Int → Int) (tw : Int → Int) (mns : Int) (av : Int → Int) (po : Int → Int) (e0 : Int) (hS : zMK K M o bd put pS pL nn cir sg lb kn arcs al on tw mns av po) (hkn : kn = 0 ∨ (kn = 1 ∧ zKn nn cir sg lb arcs al on tw mns av po)) (hnn : 0 ≤ nn ∧ nn ≤ 12) (hcir : 0 ≤ cir ∧ cir ≤ 9) (hgd : zGd sg lb (4 * nn)) (hmath : zMth nn cir sg lb) (he0 : inI e0) : zq_Met l y_MM_alexander (.code y_MM_alexander b_MM_alexander 2 (some .long) :: lw_gd) { frames := 7, cells := 0, slots := 0, locals := 165 } D vwCl (zT K) [.ref o, .int (iI e0)] M (P_MM_alexander K M o bd put pS pL nn cir sg lb kn arcs al on tw mns av po e0) 0 0 := by
  refine zq_start (cc := b_MM_alexander) (maxL := 2) (ret := (some .long)) (by decide) rfl (Nat.le_of_ble_eq_true rfl) ?_
  intro p e s m below meth co A ls hx hb hr hml hts hown hnm hlocks hA hZ hw hl
  have hts : ∀ w ∈ lw_gd, w.before [.ref o, .int (iI e0)].toArray s = true := fun w h => hts w (List.mem_cons_of_mem _ h)
  have hown : s.vm.findClass R_MM = some m.cls := hown
  have hK := hZ.1
  have hl : lv_has ls 2 [(0, .ref o), (1, .int (iI e0))] := hl
  have hfr : ∀ q, q ≠ o → (∀ i, i < 18 → q ≠ bd i) → M q = M q := fun q _ _ => rfl
  have hS0 := hS
  obtain ⟨th, wr, oN, oC, lbs, fcs, oS, oL, rw, fr, pi, fo, sm, le, gd, h_o, hbd, h_pS, h_pL, h_sg, h_lb, h_oS, h_oL, h_rw, h_fr, h_pi, h_fo, h_al, h_on, h_tw, h_sm, h_av, h_po, h_le, h_gd, hrg⟩ := hS
  have hpS : ∀ j, inI (pS j) := fun j => (hrg j).1
  have hpL : ∀ j, inI (pL j) := fun j => (hrg j).2.1
  have hsg : ∀ j, inI (sg j) := fun j => (hrg j).2.2.1
  have hlb : ∀ j, inI (lb j) := fun j => (hrg j).2.2.2.1
  have hoS : ∀ j, inI (oS j) := fun j => (hrg j).2.2.2.2.1
  have hoL : ∀ j, inI (oL j) := fun j => (hrg j).2.2.2.2.2.1
  have hrw : ∀ j, inI (rw j) := fun j => (hrg j).2.2.2.2.2.2.1
  have hfo : ∀ j, inI (fo j) := fun j => (hrg j).2.2.2.2.2.2.2.1
  have hal : ∀ j, inI (al j) := fun j => (hrg j).2.2.2.2.2.2.2.2
  refine lv_aload_n hx hb d_MM_alexander_0 rfl (lv_at hl 0 rfl) ?_
  refine zq_callV (As := []) (rest := []) ⟨hx, hb, hml, hown, hts⟩ (c_MM_know l D K M o bd put pS pL nn cir sg lb kn arcs al on tw mns av po hS0 hkn hnn hcir hgd hmath) (cwV 0 hts (zg_V tw_741 tw_743 ts_39 tw_10 tw_744) rfl rfl rfl (by decide +kernel) ⟨Nat.le_of_ble_eq_true rfl, Nat.le_of_ble_eq_true rfl⟩) hZ hw hA h_o rfl rfl rfl rfl hl.1 (Nat.le_of_ble_eq_true rfl) d_MM_alexander_1 ⟨Nat.le_of_ble_eq_true rfl, Nat.le_of_ble_eq_true rfl⟩ (fun v M1 H locs hp hw => ?_)
  obtain ⟨rfl, arcs1, al1, on1, tw1, mns1, av1, po1, hKn, hS1, ho⟩ := hp
  obtain ⟨th, wr, oN, oC, lbs, fcs, oS, oL, rw, fr, pi, fo, sm, le, gd, h_o, hbd, h_pS, h_pL, h_sg, h_lb, h_oS, h_oL, h_rw, h_fr, h_pi, h_fo, h_al, h_on, h_tw, h_sm, h_av, h_po, h_le, h_gd, hrg⟩ := id hS1
  have hpS : ∀ j, inI (pS j) := fun j => (hrg j).1
  have hpL : ∀ j, inI (pL j) := fun j => (hrg j).2.1
  have hsg : ∀ j, inI (sg j) := fun j => (hrg j).2.2.1
  have hlb : ∀ j, inI (lb j) := fun j => (hrg j).2.2.2.1
  have hoS : ∀ j, inI (oS j) := fun j => (hrg j).2.2.2.2.1
  have hoL : ∀ j, inI (oL j) := fun j => (hrg j).2.2.2.2.2.1
  have hrw : ∀ j, inI (rw j) := fun j => (hrg j).2.2.2.2.2.2.1
  have hfo : ∀ j, inI (fo j) := fun j => (hrg j).2.2.2.2.2.2.2.1
  have hal : ∀ j, inI (al1 j) := fun j => (hrg j).2.2.2.2.2.2.2.2
  have hfr : ∀ q, q ≠ o → (∀ i, i < 18 → q ≠ bd i) → M1 q = M q := fun q g0 g1 => (ho q g0 g1).trans (hfr q g0 g1)
  obtain ⟨c0, N1, hAl1, har1, hAz1, hN1, hFi1, hMn1, hPp1, hQ1, hIn1, hPi1⟩ := id hKn
  have hM3 := hmath c0 al1 N1 on1 tw1 hAl1 hN1 hFi1
  have hge := hM3.1
  have hle := hM3.2.1
  have hmnb := zMn_b hMn1 hnn
  refine W.eq (g2 := F0 m 4 ls []) rfl ?_
  refine lv_iload_n hx hb d_MM_alexander_4 rfl (lv_at hl 1 rfl) ?_
  refine zq_if_lt (tgt := 14) hx hb d_MM_alexander_5 (by decide) he0 (fun hc2 => ?_) (fun hc2 => ?_)
  · refine lv_lconst (v := iL 0) hx hb d_MM_alexander_14 (by decide) ?_
    refine lv_goto (tgt := 24) hx hb d_MM_alexander_15 (by decide) ?_
    exact zq_lret hx hb hr hlocks hZ hw ⟨_, rfl, arcs1, al1, on1, tw1, mns1, av1, po1, hKn, hS1, hfr, (if_neg (by omega)).symm⟩ d_MM_alexander_24
  · refine lv_iload_n hx hb d_MM_alexander_8 rfl (lv_at hl 1 rfl) ?_
    refine lv_bipush (v := iI 14) hx hb d_MM_alexander_9 (by decide) ?_
    refine zq_icmp_lt (tgt := 18) hx hb d_MM_alexander_11 (by decide) he0 (by decide) (fun hc3 => ?_) (fun hc3 => ?_)
    · refine lv_aload_n hx hb d_MM_alexander_18 rfl (lv_at hl 0 rfl) ?_
      refine zq_get hx hb hts i_MM hown hK hw h_o rfl 26 (by decide) (hts _ tw_612) rfl d_MM_alexander_19 ?_
      refine lv_iload_n hx hb d_MM_alexander_22 rfl (lv_at hl 1 rfl) ?_
      refine zq_lald hx hb hK hw 1 h_po rfl (by omega) (by omega) (by decide) d_MM_alexander_23 ?_
      exact zq_lret hx hb hr hlocks hZ hw ⟨_, rfl, arcs1, al1, on1, tw1, mns1, av1, po1, hKn, hS1, hfr, (if_pos (by omega)).symm⟩ d_MM_alexander_24
    · refine lv_lconst (v := iL 0) hx hb d_MM_alexander_14 (by decide) ?_
      refine lv_goto (tgt := 24) hx hb d_MM_alexander_15 (by decide) ?_
      exact zq_lret hx hb hr hlocks hZ hw ⟨_, rfl, arcs1, al1, on1, tw1, mns1, av1, po1, hKn, hS1, hfr, (if_neg (by omega)).symm⟩ d_MM_alexander_24
