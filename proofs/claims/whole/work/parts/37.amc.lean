abbrev P_AM_crossing (K : Nat → ClassId) (M : zq_M) (own : Nat → Nat) (ad : zAd) (S : zSt) (s0 : Int) (l0 : Int) (l1 : Int) (l2 : Int) (l3 : Int) : Option Value → zq_M → Prop := fun v M' => ∃ r, v = some (.int (iI r)) ∧ ((¬ ((s0 = 1 ∨ s0 = -1) ∧ (1 ≤ l0 ∧ l0 ≤ 9999) ∧ (1 ≤ l1 ∧ l1 ≤ 9999) ∧ (1 ≤ l2 ∧ l2 ≤ 9999) ∧ 1 ≤ l3 ∧ l3 ≤ 9999) ∧ r = -1 ∧ M' = M) ∨ (((s0 = 1 ∨ s0 = -1) ∧ (1 ≤ l0 ∧ l0 ≤ 9999) ∧ (1 ≤ l1 ∧ l1 ≤ 9999) ∧ (1 ≤ l2 ∧ l2 ≤ 9999) ∧ 1 ≤ l3 ∧ l3 ≤ 9999) ∧ 12 ≤ S.pn ∧ r = -1 ∧ M' = M) ∨ (((s0 = 1 ∨ s0 = -1) ∧ (1 ≤ l0 ∧ l0 ≤ 9999) ∧ (1 ≤ l1 ∧ l1 ≤ 9999) ∧ (1 ≤ l2 ∧ l2 ≤ 9999) ∧ 1 ≤ l3 ∧ l3 ≤ 9999) ∧ S.pn < 12 ∧ r = S.pn + 1 ∧ ∃ S', zCS K M' own ad S' ∧ zBs S' (S.pn + 1) (zu S.psg S.pn s0) (zw4 S.plb S.pn l0 l1 l2 l3) S.n S.sg S.lb S.cir ∧ ∀ q, 9 ≤ own q → M' q = M q))
set_option maxHeartbeats 4000000 in
set_option maxRecDepth 100000 in
theorem c_AM_crossing (l : Launch) (D : va_G) (K : Nat → ClassId) (M : zq_M) (own : Nat → Nat) (ad : zAd) (S : zSt) (s0 : Int) (l0 : Int) (l1 : Int) (l2 : Int) (l3 : Int) (hS : zCS K M own ad S) (hs0 : inI s0) (hl0 : inI l0) (hl1 : inI l1) (hl2 : inI l2) (hl3 : inI l3) : zq_Met l y_AM_crossing (.code y_AM_crossing b_AM_crossing 6 (some .int) :: lw_gd) { frames := 2, cells := 0, slots := 0, locals := 52 } D vwCl (zT K) [.ref ad.x, .int (iI s0), .int (iI l0), .int (iI l1), .int (iI l2), .int (iI l3)] M (P_AM_crossing K M own ad S s0 l0 l1 l2 l3) 0 0 := by
  refine zq_start (cc := b_AM_crossing) (maxL := 6) (ret := (some .int)) (by decide) rfl (Nat.le_of_ble_eq_true rfl) ?_
  intro p e s m below meth co A ls hx hb hr hml hts hown hnm hlocks hA hZ hw hl
  have hts : ∀ w ∈ lw_gd, w.before [.ref ad.x, .int (iI s0), .int (iI l0), .int (iI l1), .int (iI l2), .int (iI l3)].toArray s = true := fun w h => hts w (List.mem_cons_of_mem _ h)
  have hown : s.vm.findClass R_AM = some m.cls := hown
  have hK := hZ.1
  have hl : lv_has ls 6 [(0, .ref ad.x), (1, .int (iI s0)), (2, .int (iI l0)), (3, .int (iI l1)), (4, .int (iI l2)), (5, .int (iI l3))] := hl
  have hfr : ∀ q, 9 ≤ own q → M q = M q := fun q _ => rfl
  have ox := hS.w.ox
  have h_x := hS.w.hx
  have c1 := hS.w.c1
  have c2 := hS.w.c2
  have c3 := hS.w.c3
  have c4 := hS.c4
  have c5 := hS.c5
  have c6 := hS.w.c6
  have c7 := hS.w.c7
  have c8 := hS.w.c8
  have hci := hS.w.hci
  have hlr := hS.w.hlr
  have hrd := hS.hrd
  refine lv_iload_n hx hb d_AM_crossing_0 rfl (lv_at hl 1 rfl) ?_
  refine lv_iconst (v := iI 1) hx hb d_AM_crossing_1 rfl ?_
  refine zq_icmp_eq (tgt := 12) hx hb d_AM_crossing_2 (by decide) hs0 (by decide) (fun hc1 => ?_) (fun hc1 => ?_)
  · refine lv_iload_n hx hb d_AM_crossing_12 rfl (lv_at hl 2 rfl) ?_
    refine zq_callS (b := 0) (C := "") (As := [.int (iI l0)]) (rest := []) ⟨hx, hb, hml, hown, hts⟩ (c_AM_isLabel l D K M l0 hl0) (va_cwS 1 hts (zg_T tw_217 tw_218 tw_1 tw_219) rfl rfl rfl (by decide +kernel) ⟨Nat.le_of_ble_eq_true rfl, Nat.le_of_ble_eq_true rfl⟩) hZ hw hA rfl rfl hl.1 (Nat.le_of_ble_eq_true rfl) d_AM_crossing_13 ⟨Nat.le_of_ble_eq_true rfl, Nat.le_of_ble_eq_true rfl⟩ (fun v M2 H locs hp hw => ?_)
    obtain ⟨rfl, hMe⟩ := hp
    rw [hMe] at hw
    refine W.eq (g2 := F0 m 16 ls [.int (iI (if 1 ≤ l0 ∧ l0 ≤ 9999 then 1 else 0))]) rfl ?_
    refine zq_if_eq (tgt := 42) hx hb d_AM_crossing_16 (by decide) (by split <;> decide) (fun hc3 => ?_) (fun hc3 => ?_)
    · have hB : ¬ (1 ≤ l0 ∧ l0 ≤ 9999) := fun z => by rw [if_pos z] at hc3; exact absurd hc3 (by decide)
      refine lv_iconst (v := iI (-1)) hx hb d_AM_crossing_42 rfl ?_
      exact zq_iret hx hb hr hlocks hZ hw ⟨-1, rfl, Or.inl ⟨fun z => by omega, rfl, rfl⟩⟩ d_AM_crossing_43
    · have hGl0 : 1 ≤ l0 ∧ l0 ≤ 9999 := Decidable.byContradiction fun z => hc3 (if_neg z)
      refine lv_iload_n hx hb d_AM_crossing_19 rfl (lv_at hl 3 rfl) ?_
      refine zq_callS (b := 0) (C := "") (As := [.int (iI l1)]) (rest := []) ⟨hx, hb, hml, hown, hts⟩ (c_AM_isLabel l D K M l1 hl1) (va_cwS 1 hts (zg_T tw_217 tw_218 tw_1 tw_219) rfl rfl rfl (by decide +kernel) ⟨Nat.le_of_ble_eq_true rfl, Nat.le_of_ble_eq_true rfl⟩) hZ hw hA rfl rfl hl.1 (Nat.le_of_ble_eq_true rfl) d_AM_crossing_20 ⟨Nat.le_of_ble_eq_true rfl, Nat.le_of_ble_eq_true rfl⟩ (fun v M4 H locs hp hw => ?_)
      obtain ⟨rfl, hMe⟩ := hp
      rw [hMe] at hw
      refine W.eq (g2 := F0 m 23 ls [.int (iI (if 1 ≤ l1 ∧ l1 ≤ 9999 then 1 else 0))]) rfl ?_
      refine zq_if_eq (tgt := 42) hx hb d_AM_crossing_23 (by decide) (by split <;> decide) (fun hc5 => ?_) (fun hc5 => ?_)
      · have hB : ¬ (1 ≤ l1 ∧ l1 ≤ 9999) := fun z => by rw [if_pos z] at hc5; exact absurd hc5 (by decide)
        refine lv_iconst (v := iI (-1)) hx hb d_AM_crossing_42 rfl ?_
        exact zq_iret hx hb hr hlocks hZ hw ⟨-1, rfl, Or.inl ⟨fun z => by omega, rfl, rfl⟩⟩ d_AM_crossing_43
      · have hGl1 : 1 ≤ l1 ∧ l1 ≤ 9999 := Decidable.byContradiction fun z => hc5 (if_neg z)
        refine lv_iload hx hb d_AM_crossing_26 (lv_at hl 4 rfl) ?_
        refine zq_callS (b := 0) (C := "") (As := [.int (iI l2)]) (rest := []) ⟨hx, hb, hml, hown, hts⟩ (c_AM_isLabel l D K M l2 hl2) (va_cwS 1 hts (zg_T tw_217 tw_218 tw_1 tw_219) rfl rfl rfl (by decide +kernel) ⟨Nat.le_of_ble_eq_true rfl, Nat.le_of_ble_eq_true rfl⟩) hZ hw hA rfl rfl hl.1 (Nat.le_of_ble_eq_true rfl) d_AM_crossing_28 ⟨Nat.le_of_ble_eq_true rfl, Nat.le_of_ble_eq_true rfl⟩ (fun v M6 H locs hp hw => ?_)
        obtain ⟨rfl, hMe⟩ := hp
        rw [hMe] at hw
        refine W.eq (g2 := F0 m 31 ls [.int (iI (if 1 ≤ l2 ∧ l2 ≤ 9999 then 1 else 0))]) rfl ?_
        refine zq_if_eq (tgt := 42) hx hb d_AM_crossing_31 (by decide) (by split <;> decide) (fun hc7 => ?_) (fun hc7 => ?_)
        · have hB : ¬ (1 ≤ l2 ∧ l2 ≤ 9999) := fun z => by rw [if_pos z] at hc7; exact absurd hc7 (by decide)
          refine lv_iconst (v := iI (-1)) hx hb d_AM_crossing_42 rfl ?_
          exact zq_iret hx hb hr hlocks hZ hw ⟨-1, rfl, Or.inl ⟨fun z => by omega, rfl, rfl⟩⟩ d_AM_crossing_43
        · have hGl2 : 1 ≤ l2 ∧ l2 ≤ 9999 := Decidable.byContradiction fun z => hc7 (if_neg z)
          refine lv_iload hx hb d_AM_crossing_34 (lv_at hl 5 rfl) ?_
          refine zq_callS (b := 0) (C := "") (As := [.int (iI l3)]) (rest := []) ⟨hx, hb, hml, hown, hts⟩ (c_AM_isLabel l D K M l3 hl3) (va_cwS 1 hts (zg_T tw_217 tw_218 tw_1 tw_219) rfl rfl rfl (by decide +kernel) ⟨Nat.le_of_ble_eq_true rfl, Nat.le_of_ble_eq_true rfl⟩) hZ hw hA rfl rfl hl.1 (Nat.le_of_ble_eq_true rfl) d_AM_crossing_36 ⟨Nat.le_of_ble_eq_true rfl, Nat.le_of_ble_eq_true rfl⟩ (fun v M8 H locs hp hw => ?_)
          obtain ⟨rfl, hMe⟩ := hp
          rw [hMe] at hw
          refine W.eq (g2 := F0 m 39 ls [.int (iI (if 1 ≤ l3 ∧ l3 ≤ 9999 then 1 else 0))]) rfl ?_
          refine zq_if_ne (tgt := 44) hx hb d_AM_crossing_39 (by decide) (by split <;> decide) (fun hc9 => ?_) (fun hc9 => ?_)
          · have hGl3 : 1 ≤ l3 ∧ l3 ≤ 9999 := Decidable.byContradiction fun z => hc9 (if_neg z)
            refine lv_aload_n hx hb d_AM_crossing_44 rfl (lv_at hl 0 rfl) ?_
            refine zq_get hx hb hts i_AM hown hK hw h_x rfl 0 (by decide) (hts _ tw_182) rfl d_AM_crossing_45 ?_
            refine lv_iload_n hx hb d_AM_crossing_48 rfl (lv_at hl 1 rfl) ?_
            refine lv_iload_n hx hb d_AM_crossing_49 rfl (lv_at hl 2 rfl) ?_
            refine lv_iload_n hx hb d_AM_crossing_50 rfl (lv_at hl 3 rfl) ?_
            refine lv_iload hx hb d_AM_crossing_51 (lv_at hl 4 rfl) ?_
            refine lv_iload hx hb d_AM_crossing_53 (lv_at hl 5 rfl) ?_
            refine zq_callV (As := [.int (iI s0), .int (iI l0), .int (iI l1), .int (iI l2), .int (iI l3)]) (rest := []) ⟨hx, hb, hml, hown, hts⟩ (c_CR_append l D K M ad.pi ad.pis ad.pil S.pn S.psg S.plb s0 l0 l1 l2 l3 c1.ho c1.hs c1.hl c1.hC) (cwV 5 hts (zg_V tw_220 tw_221 tw_222 tw_2 tw_223) rfl rfl rfl (by decide +kernel) ⟨Nat.le_of_ble_eq_true rfl, Nat.le_of_ble_eq_true rfl⟩) hZ hw hA c1.ho rfl rfl rfl rfl hl.1 (Nat.le_of_ble_eq_true rfl) d_AM_crossing_55 ⟨Nat.le_of_ble_eq_true rfl, Nat.le_of_ble_eq_true rfl⟩ (fun v M10 H locs hp hw => ?_)
            rcases hp with ⟨hp1, rfl, hMe⟩ | ⟨hp1, rfl, hs1, hs2, hs3, ho⟩
            · rw [hMe] at hw
              refine W.eq (g2 := F0 m 58 ls [.int (iI (-1))]) rfl ?_
              exact zq_iret hx hb hr hlocks hZ hw ⟨-1, rfl, Or.inr (Or.inl ⟨⟨by omega, by omega, by omega, by omega, by omega⟩, hp1, rfl, rfl⟩)⟩ d_AM_crossing_58
            · have hoK : ∀ q, own q ≠ 1 → M10 q = M q := fun q hq => ho q (fun z => hq (by rw [z]; exact c1.oo)) (fun z => hq (by rw [z]; exact c1.os)) (fun z => hq (by rw [z]; exact c1.ol))
              have h_x : M10 ad.x = some (.inr (0, [.ref ad.pi, .ref ad.di, .ref ad.ru, .ref ad.al, .ref ad.et, .ref ad.mt, .ref ad.mr, .ref ad.no, .int (iI S.cir), .int (iI S.nk)])) := (hoK _ (by rw [ox]; decide)).trans h_x
              have c2 := c2.keep (fun q hq => hoK q (by rw [hq]; decide))
              have c3 := c3.keep (fun q hq => hoK q (by rw [hq]; decide))
              have c4 := c4.keep (fun q hq => hoK q (by rw [hq]; decide))
              have c5 := c5.keep (fun q hq => hoK q (by rw [hq]; decide))
              have c6 := c6.keep (fun q hq => hoK q (by rw [hq]; decide))
              have c7 := c7.keep (fun q hq => hoK q (by rw [hq]; decide))
              have c8 := c8.keep (fun q hq => hoK q (by rw [hq]; decide))
              have c1 : zc1 K M10 own 1 ad.pi ad.pis ad.pil (S.pn + 1) (zu S.psg S.pn s0) (zw4 S.plb S.pn l0 l1 l2 l3) := ⟨c1.oo, c1.os, c1.ol, hs1, hs2, hs3, zC_append c1.hC hp1 hs0 hl0 hl1 hl2 hl3⟩
              have hfr : ∀ q, 9 ≤ own q → M10 q = M q := fun q g0 => (hoK q (by omega)).trans (hfr q g0)
              refine W.eq (g2 := F0 m 58 ls [.int (iI (S.pn + 1))]) rfl ?_
              exact zq_iret hx hb hr hlocks hZ hw ⟨S.pn + 1, rfl, Or.inr (Or.inr ⟨⟨by omega, by omega, by omega, by omega, by omega⟩, hp1, rfl, ((S.pn + 1, zu S.psg S.pn s0, zw4 S.plb S.pn l0 l1 l2 l3, S.n, S.sg, S.lb, S.cir, S.cN, S.lN, S.al0, S.at0, S.ls0, S.N, S.F, S.G, S.lr, S.lc, S.kn, S.dl, S.fl, S.nk, S.dn, S.fn) : zSt), ⟨⟨ox, h_x, c1, c2, c3, ⟨_, _, c4⟩, ⟨_, _, c5⟩, c6, c7, c8, hci, hlr⟩, c4, c5, hS.hrd, hS.hk0, hS.hkn, hS.hn0, hS.hnf⟩, ⟨rfl, rfl, rfl, rfl, rfl, rfl, rfl⟩, hfr⟩)⟩ d_AM_crossing_58
          · have hB : ¬ (1 ≤ l3 ∧ l3 ≤ 9999) := fun z => by rw [if_pos z] at hc9; exact absurd hc9 (by decide)
            refine lv_iconst (v := iI (-1)) hx hb d_AM_crossing_42 rfl ?_
            exact zq_iret hx hb hr hlocks hZ hw ⟨-1, rfl, Or.inl ⟨fun z => by omega, rfl, rfl⟩⟩ d_AM_crossing_43
  · refine lv_iload_n hx hb d_AM_crossing_5 rfl (lv_at hl 1 rfl) ?_
    refine lv_iconst (v := iI (-1)) hx hb d_AM_crossing_6 rfl ?_
    refine zq_icmp_eq (tgt := 12) hx hb d_AM_crossing_7 (by decide) hs0 (by decide) (fun hc11 => ?_) (fun hc11 => ?_)
    · refine lv_iload_n hx hb d_AM_crossing_12 rfl (lv_at hl 2 rfl) ?_
      refine zq_callS (b := 0) (C := "") (As := [.int (iI l0)]) (rest := []) ⟨hx, hb, hml, hown, hts⟩ (c_AM_isLabel l D K M l0 hl0) (va_cwS 1 hts (zg_T tw_217 tw_218 tw_1 tw_219) rfl rfl rfl (by decide +kernel) ⟨Nat.le_of_ble_eq_true rfl, Nat.le_of_ble_eq_true rfl⟩) hZ hw hA rfl rfl hl.1 (Nat.le_of_ble_eq_true rfl) d_AM_crossing_13 ⟨Nat.le_of_ble_eq_true rfl, Nat.le_of_ble_eq_true rfl⟩ (fun v M12 H locs hp hw => ?_)
      obtain ⟨rfl, hMe⟩ := hp
      rw [hMe] at hw
      refine W.eq (g2 := F0 m 16 ls [.int (iI (if 1 ≤ l0 ∧ l0 ≤ 9999 then 1 else 0))]) rfl ?_
      refine zq_if_eq (tgt := 42) hx hb d_AM_crossing_16 (by decide) (by split <;> decide) (fun hc13 => ?_) (fun hc13 => ?_)
      · have hB : ¬ (1 ≤ l0 ∧ l0 ≤ 9999) := fun z => by rw [if_pos z] at hc13; exact absurd hc13 (by decide)
        refine lv_iconst (v := iI (-1)) hx hb d_AM_crossing_42 rfl ?_
        exact zq_iret hx hb hr hlocks hZ hw ⟨-1, rfl, Or.inl ⟨fun z => by omega, rfl, rfl⟩⟩ d_AM_crossing_43
      · have hGl0 : 1 ≤ l0 ∧ l0 ≤ 9999 := Decidable.byContradiction fun z => hc13 (if_neg z)
        refine lv_iload_n hx hb d_AM_crossing_19 rfl (lv_at hl 3 rfl) ?_
        refine zq_callS (b := 0) (C := "") (As := [.int (iI l1)]) (rest := []) ⟨hx, hb, hml, hown, hts⟩ (c_AM_isLabel l D K M l1 hl1) (va_cwS 1 hts (zg_T tw_217 tw_218 tw_1 tw_219) rfl rfl rfl (by decide +kernel) ⟨Nat.le_of_ble_eq_true rfl, Nat.le_of_ble_eq_true rfl⟩) hZ hw hA rfl rfl hl.1 (Nat.le_of_ble_eq_true rfl) d_AM_crossing_20 ⟨Nat.le_of_ble_eq_true rfl, Nat.le_of_ble_eq_true rfl⟩ (fun v M14 H locs hp hw => ?_)
        obtain ⟨rfl, hMe⟩ := hp
        rw [hMe] at hw
        refine W.eq (g2 := F0 m 23 ls [.int (iI (if 1 ≤ l1 ∧ l1 ≤ 9999 then 1 else 0))]) rfl ?_
        refine zq_if_eq (tgt := 42) hx hb d_AM_crossing_23 (by decide) (by split <;> decide) (fun hc15 => ?_) (fun hc15 => ?_)
        · have hB : ¬ (1 ≤ l1 ∧ l1 ≤ 9999) := fun z => by rw [if_pos z] at hc15; exact absurd hc15 (by decide)
          refine lv_iconst (v := iI (-1)) hx hb d_AM_crossing_42 rfl ?_
          exact zq_iret hx hb hr hlocks hZ hw ⟨-1, rfl, Or.inl ⟨fun z => by omega, rfl, rfl⟩⟩ d_AM_crossing_43
        · have hGl1 : 1 ≤ l1 ∧ l1 ≤ 9999 := Decidable.byContradiction fun z => hc15 (if_neg z)
          refine lv_iload hx hb d_AM_crossing_26 (lv_at hl 4 rfl) ?_
          refine zq_callS (b := 0) (C := "") (As := [.int (iI l2)]) (rest := []) ⟨hx, hb, hml, hown, hts⟩ (c_AM_isLabel l D K M l2 hl2) (va_cwS 1 hts (zg_T tw_217 tw_218 tw_1 tw_219) rfl rfl rfl (by decide +kernel) ⟨Nat.le_of_ble_eq_true rfl, Nat.le_of_ble_eq_true rfl⟩) hZ hw hA rfl rfl hl.1 (Nat.le_of_ble_eq_true rfl) d_AM_crossing_28 ⟨Nat.le_of_ble_eq_true rfl, Nat.le_of_ble_eq_true rfl⟩ (fun v M16 H locs hp hw => ?_)
          obtain ⟨rfl, hMe⟩ := hp
          rw [hMe] at hw
          refine W.eq (g2 := F0 m 31 ls [.int (iI (if 1 ≤ l2 ∧ l2 ≤ 9999 then 1 else 0))]) rfl ?_
          refine zq_if_eq (tgt := 42) hx hb d_AM_crossing_31 (by decide) (by split <;> decide) (fun hc17 => ?_) (fun hc17 => ?_)
          · have hB : ¬ (1 ≤ l2 ∧ l2 ≤ 9999) := fun z => by rw [if_pos z] at hc17; exact absurd hc17 (by decide)
            refine lv_iconst (v := iI (-1)) hx hb d_AM_crossing_42 rfl ?_
            exact zq_iret hx hb hr hlocks hZ hw ⟨-1, rfl, Or.inl ⟨fun z => by omega, rfl, rfl⟩⟩ d_AM_crossing_43
          · have hGl2 : 1 ≤ l2 ∧ l2 ≤ 9999 := Decidable.byContradiction fun z => hc17 (if_neg z)
            refine lv_iload hx hb d_AM_crossing_34 (lv_at hl 5 rfl) ?_
            refine zq_callS (b := 0) (C := "") (As := [.int (iI l3)]) (rest := []) ⟨hx, hb, hml, hown, hts⟩ (c_AM_isLabel l D K M l3 hl3) (va_cwS 1 hts (zg_T tw_217 tw_218 tw_1 tw_219) rfl rfl rfl (by decide +kernel) ⟨Nat.le_of_ble_eq_true rfl, Nat.le_of_ble_eq_true rfl⟩) hZ hw hA rfl rfl hl.1 (Nat.le_of_ble_eq_true rfl) d_AM_crossing_36 ⟨Nat.le_of_ble_eq_true rfl, Nat.le_of_ble_eq_true rfl⟩ (fun v M18 H locs hp hw => ?_)
            obtain ⟨rfl, hMe⟩ := hp
            rw [hMe] at hw
            refine W.eq (g2 := F0 m 39 ls [.int (iI (if 1 ≤ l3 ∧ l3 ≤ 9999 then 1 else 0))]) rfl ?_
            refine zq_if_ne (tgt := 44) hx hb d_AM_crossing_39 (by decide) (by split <;> decide) (fun hc19 => ?_) (fun hc19 => ?_)
            · have hGl3 : 1 ≤ l3 ∧ l3 ≤ 9999 := Decidable.byContradiction fun z => hc19 (if_neg z)
              refine lv_aload_n hx hb d_AM_crossing_44 rfl (lv_at hl 0 rfl) ?_
              refine zq_get hx hb hts i_AM hown hK hw h_x rfl 0 (by decide) (hts _ tw_182) rfl d_AM_crossing_45 ?_
              refine lv_iload_n hx hb d_AM_crossing_48 rfl (lv_at hl 1 rfl) ?_
              refine lv_iload_n hx hb d_AM_crossing_49 rfl (lv_at hl 2 rfl) ?_
              refine lv_iload_n hx hb d_AM_crossing_50 rfl (lv_at hl 3 rfl) ?_
              refine lv_iload hx hb d_AM_crossing_51 (lv_at hl 4 rfl) ?_
              refine lv_iload hx hb d_AM_crossing_53 (lv_at hl 5 rfl) ?_
              refine zq_callV (As := [.int (iI s0), .int (iI l0), .int (iI l1), .int (iI l2), .int (iI l3)]) (rest := []) ⟨hx, hb, hml, hown, hts⟩ (c_CR_append l D K M ad.pi ad.pis ad.pil S.pn S.psg S.plb s0 l0 l1 l2 l3 c1.ho c1.hs c1.hl c1.hC) (cwV 5 hts (zg_V tw_220 tw_221 tw_222 tw_2 tw_223) rfl rfl rfl (by decide +kernel) ⟨Nat.le_of_ble_eq_true rfl, Nat.le_of_ble_eq_true rfl⟩) hZ hw hA c1.ho rfl rfl rfl rfl hl.1 (Nat.le_of_ble_eq_true rfl) d_AM_crossing_55 ⟨Nat.le_of_ble_eq_true rfl, Nat.le_of_ble_eq_true rfl⟩ (fun v M20 H locs hp hw => ?_)
              rcases hp with ⟨hp1, rfl, hMe⟩ | ⟨hp1, rfl, hs1, hs2, hs3, ho⟩
              · rw [hMe] at hw
                refine W.eq (g2 := F0 m 58 ls [.int (iI (-1))]) rfl ?_
                exact zq_iret hx hb hr hlocks hZ hw ⟨-1, rfl, Or.inr (Or.inl ⟨⟨by omega, by omega, by omega, by omega, by omega⟩, hp1, rfl, rfl⟩)⟩ d_AM_crossing_58
              · have hoK : ∀ q, own q ≠ 1 → M20 q = M q := fun q hq => ho q (fun z => hq (by rw [z]; exact c1.oo)) (fun z => hq (by rw [z]; exact c1.os)) (fun z => hq (by rw [z]; exact c1.ol))
                have h_x : M20 ad.x = some (.inr (0, [.ref ad.pi, .ref ad.di, .ref ad.ru, .ref ad.al, .ref ad.et, .ref ad.mt, .ref ad.mr, .ref ad.no, .int (iI S.cir), .int (iI S.nk)])) := (hoK _ (by rw [ox]; decide)).trans h_x
                have c2 := c2.keep (fun q hq => hoK q (by rw [hq]; decide))
                have c3 := c3.keep (fun q hq => hoK q (by rw [hq]; decide))
                have c4 := c4.keep (fun q hq => hoK q (by rw [hq]; decide))
                have c5 := c5.keep (fun q hq => hoK q (by rw [hq]; decide))
                have c6 := c6.keep (fun q hq => hoK q (by rw [hq]; decide))
                have c7 := c7.keep (fun q hq => hoK q (by rw [hq]; decide))
                have c8 := c8.keep (fun q hq => hoK q (by rw [hq]; decide))
                have c1 : zc1 K M20 own 1 ad.pi ad.pis ad.pil (S.pn + 1) (zu S.psg S.pn s0) (zw4 S.plb S.pn l0 l1 l2 l3) := ⟨c1.oo, c1.os, c1.ol, hs1, hs2, hs3, zC_append c1.hC hp1 hs0 hl0 hl1 hl2 hl3⟩
                have hfr : ∀ q, 9 ≤ own q → M20 q = M q := fun q g0 => (hoK q (by omega)).trans (hfr q g0)
                refine W.eq (g2 := F0 m 58 ls [.int (iI (S.pn + 1))]) rfl ?_
                exact zq_iret hx hb hr hlocks hZ hw ⟨S.pn + 1, rfl, Or.inr (Or.inr ⟨⟨by omega, by omega, by omega, by omega, by omega⟩, hp1, rfl, ((S.pn + 1, zu S.psg S.pn s0, zw4 S.plb S.pn l0 l1 l2 l3, S.n, S.sg, S.lb, S.cir, S.cN, S.lN, S.al0, S.at0, S.ls0, S.N, S.F, S.G, S.lr, S.lc, S.kn, S.dl, S.fl, S.nk, S.dn, S.fn) : zSt), ⟨⟨ox, h_x, c1, c2, c3, ⟨_, _, c4⟩, ⟨_, _, c5⟩, c6, c7, c8, hci, hlr⟩, c4, c5, hS.hrd, hS.hk0, hS.hkn, hS.hn0, hS.hnf⟩, ⟨rfl, rfl, rfl, rfl, rfl, rfl, rfl⟩, hfr⟩)⟩ d_AM_crossing_58
            · have hB : ¬ (1 ≤ l3 ∧ l3 ≤ 9999) := fun z => by rw [if_pos z] at hc19; exact absurd hc19 (by decide)
              refine lv_iconst (v := iI (-1)) hx hb d_AM_crossing_42 rfl ?_
              exact zq_iret hx hb hr hlocks hZ hw ⟨-1, rfl, Or.inl ⟨fun z => by omega, rfl, rfl⟩⟩ d_AM_crossing_43
    · refine lv_iconst (v := iI (-1)) hx hb d_AM_crossing_10 rfl ?_
      exact zq_iret hx hb hr hlocks hZ hw ⟨-1, rfl, Or.inl ⟨fun z => by have := z.1; omega, rfl, rfl⟩⟩ d_AM_crossing_11
abbrev P_AM_arc (K : Nat → ClassId) (M : zq_M) (own : Nat → Nat) (ad : zAd) (S : zSt) (x : Int) : Option Value → zq_M → Prop := fun v M' => ∃ r, v = some (.int (iI r)) ∧ ((∃ y, 0 ≤ y ∧ y < 4 * S.n ∧ S.al0 y = x ∧ zNum S.ls0 (S.cN + S.cir) (S.at0 y) r) ∨ (r = -1 ∧ ∀ y, 0 ≤ y → y < 4 * S.n → ¬ S.al0 y = x)) ∧ M' = M
set_option maxHeartbeats 4000000 in
set_option maxRecDepth 100000 in
theorem c_AM_arc (l : Launch) (D : va_G) (K : Nat → ClassId) (M : zq_M) (own : Nat → Nat) (ad : zAd) (S : zSt) (x : Int) (hS : zCS K M own ad S) (hx0 : inI x) : zq_Met l y_AM_arc (.code y_AM_arc b_AM_arc 2 (some .int) :: lw_gd) { frames := 2, cells := 0, slots := 0, locals := 44 } D vwCl (zT K) [.ref ad.x, .int (iI x)] M (P_AM_arc K M own ad S x) 0 0 := by
  refine zq_start (cc := b_AM_arc) (maxL := 2) (ret := (some .int)) (by decide) rfl (Nat.le_of_ble_eq_true rfl) ?_
  intro p e s m below meth co A ls hx hb hr hml hts hown hnm hlocks hA hZ hw hl
  have hts : ∀ w ∈ lw_gd, w.before [.ref ad.x, .int (iI x)].toArray s = true := fun w h => hts w (List.mem_cons_of_mem _ h)
  have hown : s.vm.findClass R_AM = some m.cls := hown
  have hK := hZ.1
  have hl : lv_has ls 2 [(0, .ref ad.x), (1, .int (iI x))] := hl
  have ox := hS.w.ox
  have h_x := hS.w.hx
  have c1 := hS.w.c1
  have c2 := hS.w.c2
  have c3 := hS.w.c3
  have c4 := hS.c4
  have c5 := hS.c5
  have c6 := hS.w.c6
  have c7 := hS.w.c7
  have c8 := hS.w.c8
  have hci := hS.w.hci
  have hlr := hS.w.hlr
  have hrd := hS.hrd
  refine lv_aload_n hx hb d_AM_arc_0 rfl (lv_at hl 0 rfl) ?_
  refine zq_get hx hb hts i_AM hown hK hw h_x rfl 3 (by decide) (hts _ tw_185) rfl d_AM_arc_1 ?_
  refine lv_iload_n hx hb d_AM_arc_4 rfl (lv_at hl 1 rfl) ?_
  refine zq_callV (As := [.int (iI x)]) (rest := []) ⟨hx, hb, hml, hown, hts⟩ (c_AL_numberOfLabel l D K M ad.al ad.a1 ad.a2 ad.a3 (4 * S.n) (S.cN + S.cir) S.al0 S.at0 S.ls0 x c4.ho c4.ha c4.hb c4.hc c4.hab c4.hA hx0) (cwV 1 hts (zg_V tw_487 tw_488 tw_489 tw_4 tw_490) rfl rfl rfl (by decide +kernel) ⟨Nat.le_of_ble_eq_true rfl, Nat.le_of_ble_eq_true rfl⟩) hZ hw hA c4.ho rfl rfl rfl rfl hl.1 (Nat.le_of_ble_eq_true rfl) d_AM_arc_5 ⟨Nat.le_of_ble_eq_true rfl, Nat.le_of_ble_eq_true rfl⟩ (fun v M1 H locs hp hw => ?_)
  obtain ⟨rr, rfl, hR, hMe⟩ := hp
  rw [hMe] at hw
  refine W.eq (g2 := F0 m 8 ls [.int (iI rr)]) rfl ?_
  exact zq_iret hx hb hr hlocks hZ hw ⟨rr, rfl, hR, rfl⟩ d_AM_arc_8
abbrev P_AM_least (K : Nat → ClassId) (M : zq_M) (own : Nat → Nat) (ad : zAd) (S : zSt) (x : Int) : Option Value → zq_M → Prop := fun v M' => v = some (.int (iI (if 0 ≤ x ∧ x < S.cN + S.cir then S.ls0 x else -1))) ∧ M' = M
set_option maxHeartbeats 4000000 in
set_option maxRecDepth 100000 in
theorem c_AM_least (l : Launch) (D : va_G) (K : Nat → ClassId) (M : zq_M) (own : Nat → Nat) (ad : zAd) (S : zSt) (x : Int) (hS : zCS K M own ad S) (hx0 : inI x) : zq_Met l y_AM_least (.code y_AM_least b_AM_least 2 (some .int) :: lw_gd) { frames := 1, cells := 0, slots := 0, locals := 21 } D vwCl (zT K) [.ref ad.x, .int (iI x)] M (P_AM_least K M own ad S x) 0 0 := by
  refine zq_start (cc := b_AM_least) (maxL := 2) (ret := (some .int)) (by decide) rfl (Nat.le_of_ble_eq_true rfl) ?_
  intro p e s m below meth co A ls hx hb hr hml hts hown hnm hlocks hA hZ hw hl
  have hts : ∀ w ∈ lw_gd, w.before [.ref ad.x, .int (iI x)].toArray s = true := fun w h => hts w (List.mem_cons_of_mem _ h)
  have hown : s.vm.findClass R_AM = some m.cls := hown
  have hK := hZ.1
  have hl : lv_has ls 2 [(0, .ref ad.x), (1, .int (iI x))] := hl
  have ox := hS.w.ox
  have h_x := hS.w.hx
  have c1 := hS.w.c1
  have c2 := hS.w.c2
  have c3 := hS.w.c3
  have c4 := hS.c4
  have c5 := hS.c5
  have c6 := hS.w.c6
  have c7 := hS.w.c7
  have c8 := hS.w.c8
  have hci := hS.w.hci
  have hlr := hS.w.hlr
  have hrd := hS.hrd
  refine lv_aload_n hx hb d_AM_least_0 rfl (lv_at hl 0 rfl) ?_
  refine zq_get hx hb hts i_AM hown hK hw h_x rfl 3 (by decide) (hts _ tw_185) rfl d_AM_least_1 ?_
  refine lv_iload_n hx hb d_AM_least_4 rfl (lv_at hl 1 rfl) ?_
  refine zq_callV (As := [.int (iI x)]) (rest := []) ⟨hx, hb, hml, hown, hts⟩ (c_AL_leastLabel l D K M ad.al ad.a1 ad.a2 ad.a3 (4 * S.n) (S.cN + S.cir) S.al0 S.at0 S.ls0 x c4.ho c4.ha c4.hb c4.hc c4.hab c4.hA hx0) (cwV 1 hts (zg_V tw_496 tw_497 tw_498 tw_4 tw_499) rfl rfl rfl (by decide +kernel) ⟨Nat.le_of_ble_eq_true rfl, Nat.le_of_ble_eq_true rfl⟩) hZ hw hA c4.ho rfl rfl rfl rfl hl.1 (Nat.le_of_ble_eq_true rfl) d_AM_least_5 ⟨Nat.le_of_ble_eq_true rfl, Nat.le_of_ble_eq_true rfl⟩ (fun v M1 H locs hp hw => ?_)
  obtain ⟨rfl, hMe⟩ := hp
  rw [hMe] at hw
  refine W.eq (g2 := F0 m 8 ls [.int (iI (if 0 ≤ x ∧ x < S.cN + S.cir then S.ls0 x else -1))]) rfl ?_
  exact zq_iret hx hb hr hlocks hZ hw ⟨rfl, rfl⟩ d_AM_least_8
abbrev P_AM_entry (K : Nat → ClassId) (M : zq_M) (own : Nat → Nat) (ad : zAd) (S : zSt) (xr : Int) (xc : Int) (e0 : Int) : Option Value → zq_M → Prop := fun v M' => v = some (.int (iI (if e0 = 0 then zat S.F S.n (S.cN + S.cir) xr xc else if e0 = 1 then zat S.G S.n (S.cN + S.cir) xr xc else 0))) ∧ M' = M
set_option maxHeartbeats 4000000 in
set_option maxRecDepth 100000 in
theorem c_AM_entry (l : Launch) (D : va_G) (K : Nat → ClassId) (M : zq_M) (own : Nat → Nat) (ad : zAd) (S : zSt) (xr : Int) (xc : Int) (e0 : Int) (hS : zCS K M own ad S) (hxr : inI xr) (hxc : inI xc) (he0 : inI e0) : zq_Met l y_AM_entry (.code y_AM_entry b_AM_entry 4 (some .int) :: lw_gd) { frames := 2, cells := 0, slots := 0, locals := 44 } D vwCl (zT K) [.ref ad.x, .int (iI xr), .int (iI xc), .int (iI e0)] M (P_AM_entry K M own ad S xr xc e0) 0 0 := by
  refine zq_start (cc := b_AM_entry) (maxL := 4) (ret := (some .int)) (by decide) rfl (Nat.le_of_ble_eq_true rfl) ?_
  intro p e s m below meth co A ls hx hb hr hml hts hown hnm hlocks hA hZ hw hl
  have hts : ∀ w ∈ lw_gd, w.before [.ref ad.x, .int (iI xr), .int (iI xc), .int (iI e0)].toArray s = true := fun w h => hts w (List.mem_cons_of_mem _ h)
  have hown : s.vm.findClass R_AM = some m.cls := hown
  have hK := hZ.1
  have hl : lv_has ls 4 [(0, .ref ad.x), (1, .int (iI xr)), (2, .int (iI xc)), (3, .int (iI e0))] := hl
  have ox := hS.w.ox
  have h_x := hS.w.hx
  have c1 := hS.w.c1
  have c2 := hS.w.c2
  have c3 := hS.w.c3
  have c4 := hS.c4
  have c5 := hS.c5
  have c6 := hS.w.c6
  have c7 := hS.w.c7
  have c8 := hS.w.c8
  have hci := hS.w.hci
  have hlr := hS.w.hlr
  have hrd := hS.hrd
  refine lv_iload_n hx hb d_AM_entry_0 rfl (lv_at hl 3 rfl) ?_
  refine zq_if_ne (tgt := 14) hx hb d_AM_entry_1 (by decide) he0 (fun hc1 => ?_) (fun hc1 => ?_)
  · refine lv_iload_n hx hb d_AM_entry_14 rfl (lv_at hl 3 rfl) ?_
    refine lv_iconst (v := iI 1) hx hb d_AM_entry_15 rfl ?_
    refine zq_icmp_ne (tgt := 31) hx hb d_AM_entry_16 (by decide) he0 (by decide) (fun hc2 => ?_) (fun hc2 => ?_)
    · refine lv_iconst (v := iI 0) hx hb d_AM_entry_31 rfl ?_
      exact zq_iret hx hb hr hlocks hZ hw ⟨zq_ri (by rw [if_neg (by assumption), if_neg (by assumption)]), rfl⟩ d_AM_entry_32
    · refine lv_aload_n hx hb d_AM_entry_19 rfl (lv_at hl 0 rfl) ?_
      refine zq_get hx hb hts i_AM hown hK hw h_x rfl 4 (by decide) (hts _ tw_186) rfl d_AM_entry_20 ?_
      refine lv_iload_n hx hb d_AM_entry_23 rfl (lv_at hl 1 rfl) ?_
      refine lv_iload_n hx hb d_AM_entry_24 rfl (lv_at hl 2 rfl) ?_
      refine zq_callV (As := [.int (iI xr), .int (iI xc)]) (rest := []) ⟨hx, hb, hml, hown, hts⟩ (c_ET_slopeAt l D K M ad.et ad.e1 ad.e2 ad.ea ad.eb S.n (S.cN + S.cir) S.F S.G xr xc c5.ho c5.hG1 c5.hG2 c5.hE hxr hxc) (cwV 2 hts (zg_V tw_505 tw_413 tw_414 tw_5 tw_415) rfl rfl rfl (by decide +kernel) ⟨Nat.le_of_ble_eq_true rfl, Nat.le_of_ble_eq_true rfl⟩) hZ hw hA c5.ho rfl rfl rfl rfl hl.1 (Nat.le_of_ble_eq_true rfl) d_AM_entry_25 ⟨Nat.le_of_ble_eq_true rfl, Nat.le_of_ble_eq_true rfl⟩ (fun v M3 H locs hp hw => ?_)
      obtain ⟨rfl, hMe⟩ := hp
      rw [hMe] at hw
      refine W.eq (g2 := F0 m 28 ls [.int (iI (zat S.G S.n (S.cN + S.cir) xr xc))]) rfl ?_
      refine lv_goto (tgt := 32) hx hb d_AM_entry_28 (by decide) ?_
      exact zq_iret hx hb hr hlocks hZ hw ⟨zq_ri (by rw [if_neg (by assumption), if_pos (by omega)]), rfl⟩ d_AM_entry_32
  · refine lv_aload_n hx hb d_AM_entry_4 rfl (lv_at hl 0 rfl) ?_
    refine zq_get hx hb hts i_AM hown hK hw h_x rfl 4 (by decide) (hts _ tw_186) rfl d_AM_entry_5 ?_
    refine lv_iload_n hx hb d_AM_entry_8 rfl (lv_at hl 1 rfl) ?_
    refine lv_iload_n hx hb d_AM_entry_9 rfl (lv_at hl 2 rfl) ?_
    refine zq_callV (As := [.int (iI xr), .int (iI xc)]) (rest := []) ⟨hx, hb, hml, hown, hts⟩ (c_ET_constantAt l D K M ad.et ad.e1 ad.e2 ad.ea ad.eb S.n (S.cN + S.cir) S.F S.G xr xc c5.ho c5.hG1 c5.hG2 c5.hE hxr hxc) (cwV 2 hts (zg_V tw_504 tw_409 tw_410 tw_5 tw_411) rfl rfl rfl (by decide +kernel) ⟨Nat.le_of_ble_eq_true rfl, Nat.le_of_ble_eq_true rfl⟩) hZ hw hA c5.ho rfl rfl rfl rfl hl.1 (Nat.le_of_ble_eq_true rfl) d_AM_entry_10 ⟨Nat.le_of_ble_eq_true rfl, Nat.le_of_ble_eq_true rfl⟩ (fun v M4 H locs hp hw => ?_)
    obtain ⟨rfl, hMe⟩ := hp
    rw [hMe] at hw
    refine W.eq (g2 := F0 m 13 ls [.int (iI (zat S.F S.n (S.cN + S.cir) xr xc))]) rfl ?_
    exact zq_iret hx hb hr hlocks hZ hw ⟨zq_ri (by rw [if_pos (by assumption)]), rfl⟩ d_AM_entry_13
abbrev P_AM_change (K : Nat → ClassId) (M : zq_M) (own : Nat → Nat) (ad : zAd) (S : zSt) (k : Int) : Option Value → zq_M → Prop := fun v M' => ∃ r, v = some (.int (iI r)) ∧ ((¬ (0 ≤ k ∧ k < S.n) ∧ r = 0 ∧ M' = M) ∨ ((0 ≤ k ∧ k < S.n) ∧ r = 1 ∧ ∃ S', zCS K M' own ad S' ∧ zBs S' S.pn S.psg S.plb S.n (zu S.sg k (-S.sg k)) (zsw S.sg S.lb k) S.cir ∧ ∀ q, 9 ≤ own q → M' q = M q))
set_option maxHeartbeats 4000000 in
set_option maxRecDepth 100000 in
theorem c_AM_change (l : Launch) (D : va_G) (K : Nat → ClassId) (M : zq_M) (own : Nat → Nat) (ad : zAd) (S : zSt) (k : Int) (hS : zCS K M own ad S) (hk9 : inI k) (hsk : 0 ≤ k ∧ k < S.n → S.sg k = 1 ∨ S.sg k = -1) (hOk : 0 ≤ k ∧ k < S.n → zOkD S.n (zu S.sg k (-S.sg k)) (zsw S.sg S.lb k)) : zq_Met l y_AM_change (.code y_AM_change b_AM_change 2 (some .boolean) :: lw_gd) { frames := 5, cells := 0, slots := 0, locals := 109 } D vwCl (zT K) [.ref ad.x, .int (iI k)] M (P_AM_change K M own ad S k) 0 0 := by
  refine zq_start (cc := b_AM_change) (maxL := 2) (ret := (some .boolean)) (by decide) rfl (Nat.le_of_ble_eq_true rfl) ?_
  intro p e s m below meth co A ls hx hb hr hml hts hown hnm hlocks hA hZ hw hl
  have hts : ∀ w ∈ lw_gd, w.before [.ref ad.x, .int (iI k)].toArray s = true := fun w h => hts w (List.mem_cons_of_mem _ h)
  have hown : s.vm.findClass R_AM = some m.cls := hown
  have hK := hZ.1
  have hl : lv_has ls 2 [(0, .ref ad.x), (1, .int (iI k))] := hl
  have hfr : ∀ q, 9 ≤ own q → M q = M q := fun q _ => rfl
  have ox := hS.w.ox
  have h_x := hS.w.hx
  have c1 := hS.w.c1
  have c2 := hS.w.c2
  have c3 := hS.w.c3
  have c4 := hS.c4
  have c5 := hS.c5
  have c6 := hS.w.c6
  have c7 := hS.w.c7
  have c8 := hS.w.c8
  have hci := hS.w.hci
  have hlr := hS.w.hlr
  have hrd := hS.hrd
  refine lv_aload_n hx hb d_AM_change_0 rfl (lv_at hl 0 rfl) ?_
  refine zq_get hx hb hts i_AM hown hK hw h_x rfl 1 (by decide) (hts _ tw_183) rfl d_AM_change_1 ?_
  refine lv_iload_n hx hb d_AM_change_4 rfl (lv_at hl 1 rfl) ?_
  refine zq_callV (As := [.int (iI k)]) (rest := []) ⟨hx, hb, hml, hown, hts⟩ (c_CR_has l D K M ad.di ad.dis ad.dil S.n S.sg S.lb k c2.ho c2.hs c2.hl c2.hC hk9) (cwV 1 hts (zg_V tw_550 tw_273 tw_274 tw_2 tw_275) rfl rfl rfl (by decide +kernel) ⟨Nat.le_of_ble_eq_true rfl, Nat.le_of_ble_eq_true rfl⟩) hZ hw hA c2.ho rfl rfl rfl rfl hl.1 (Nat.le_of_ble_eq_true rfl) d_AM_change_5 ⟨Nat.le_of_ble_eq_true rfl, Nat.le_of_ble_eq_true rfl⟩ (fun v M1 H locs hp hw => ?_)
  obtain ⟨rfl, hMe⟩ := hp
  rw [hMe] at hw
  refine W.eq (g2 := F0 m 8 ls [.int (iI (if 0 ≤ k ∧ k < S.n then 1 else 0))]) rfl ?_
  refine zq_if_ne (tgt := 13) hx hb d_AM_change_8 (by decide) (by split <;> decide) (fun hc2 => ?_) (fun hc2 => ?_)
  · have hkk : 0 ≤ k ∧ k < S.n := Decidable.byContradiction fun z => hc2 (if_neg z)
    refine lv_aload_n hx hb d_AM_change_13 rfl (lv_at hl 0 rfl) ?_
    refine zq_get hx hb hts i_AM hown hK hw h_x rfl 1 (by decide) (hts _ tw_183) rfl d_AM_change_14 ?_
    refine lv_iload_n hx hb d_AM_change_17 rfl (lv_at hl 1 rfl) ?_
    have hCn := zC_swap hkk c2.hC (hsk hkk)
    refine zq_callV (As := [.int (iI k)]) (rest := []) ⟨hx, hb, hml, hown, hts⟩ (c_CR_swapStrands l D K M ad.di ad.dis ad.dil S.n S.sg S.lb k c2.ho c2.hs c2.hl c2.hC ⟨hkk.1, hkk.2⟩) (cwV 1 hts (zg_V tw_551 tw_552 tw_553 tw_2 tw_554) rfl rfl rfl (by decide +kernel) ⟨Nat.le_of_ble_eq_true rfl, Nat.le_of_ble_eq_true rfl⟩) hZ hw hA c2.ho rfl rfl rfl rfl hl.1 (Nat.le_of_ble_eq_true rfl) d_AM_change_18 ⟨Nat.le_of_ble_eq_true rfl, Nat.le_of_ble_eq_true rfl⟩ (fun v M3 H locs hp hw => ?_)
    obtain ⟨rfl, hs1, hs2, ho⟩ := hp
    have hoo : M3 ad.di = some (.inr (2, [.ref ad.dis, .ref ad.dil, .int (iI S.n)])) := (ho _ (zq_ne c2.ho c2.hs (by simp)) (zq_ne c2.ho c2.hl (by simp))).trans c2.ho
    have hoK : ∀ q, own q ≠ 2 → M3 q = M q := fun q hq => ho q (fun z => hq (by rw [z]; exact c2.os)) (fun z => hq (by rw [z]; exact c2.ol))
    have h_x : M3 ad.x = some (.inr (0, [.ref ad.pi, .ref ad.di, .ref ad.ru, .ref ad.al, .ref ad.et, .ref ad.mt, .ref ad.mr, .ref ad.no, .int (iI S.cir), .int (iI S.nk)])) := (hoK _ (by rw [ox]; decide)).trans h_x
    have c1 := c1.keep (fun q hq => hoK q (by rw [hq]; decide))
    have c3 := c3.keep (fun q hq => hoK q (by rw [hq]; decide))
    have c4 := c4.keep (fun q hq => hoK q (by rw [hq]; decide))
    have c5 := c5.keep (fun q hq => hoK q (by rw [hq]; decide))
    have c6 := c6.keep (fun q hq => hoK q (by rw [hq]; decide))
    have c7 := c7.keep (fun q hq => hoK q (by rw [hq]; decide))
    have c8 := c8.keep (fun q hq => hoK q (by rw [hq]; decide))
    have c2 : zc1 K M3 own 2 ad.di ad.dis ad.dil S.n (zu S.sg k (-S.sg k)) (zsw S.sg S.lb k) := ⟨c2.oo, c2.os, c2.ol, hoo, hs1, hs2, hCn⟩
    have hfr : ∀ q, 9 ≤ own q → M3 q = M q := fun q g0 => (hoK q (by omega)).trans (hfr q g0)
    refine W.eq (g2 := F0 m 21 ls []) rfl ?_
    obtain ⟨S1, hS1⟩ : ∃ z : zSt, z = ((S.pn, S.psg, S.plb, S.n, (zu S.sg k (-S.sg k)), (zsw S.sg S.lb k), S.cir, S.cN, S.lN, S.al0, S.at0, S.ls0, S.N, S.F, S.G, S.lr, S.lc, S.kn, S.dl, S.fl, S.nk, S.dn, S.fn) : zSt) := ⟨_, rfl⟩
    have hW1 : zCW K M3 own ad S1 := by rw [hS1]; exact ⟨ox, h_x, c1, c2, c3, ⟨_, _, c4⟩, ⟨_, _, c5⟩, c6, c7, c8, hci, hlr⟩
    have hOk1 : zOkD S1.n S1.sg S1.lb := by rw [hS1]; exact hOk hkk
    refine lv_aload_n hx hb d_AM_change_21 rfl (lv_at hl 0 rfl) ?_
    refine zq_callV (As := []) (rest := []) ⟨hx, hb, hml, hown, hts⟩ (c_AM_readDiagram l D K M3 own ad S1 hW1 hOk1) (cwV 0 hts (zg_V tw_310 tw_312 ts_10 tw_1 tw_313) rfl rfl rfl (by decide +kernel) ⟨Nat.le_of_ble_eq_true rfl, Nat.le_of_ble_eq_true rfl⟩) hZ hw hA h_x rfl rfl rfl rfl hl.1 (Nat.le_of_ble_eq_true rfl) d_AM_change_22 ⟨Nat.le_of_ble_eq_true rfl, Nat.le_of_ble_eq_true rfl⟩ (fun v M4 H locs hp hw => ?_)
    obtain ⟨rfl, cN, lN, N, hSn, ho⟩ := hp
    have hfr : ∀ q, 9 ≤ own q → M4 q = M q := fun q g0 => (ho q (by omega) (by omega) (by omega) (by omega)).trans (hfr q g0)
    refine W.eq (g2 := F0 m 25 ls []) rfl ?_
    refine lv_iconst (v := iI 1) hx hb d_AM_change_25 rfl ?_
    exact zq_zret hx hb hr rfl hlocks hZ hw ⟨1, rfl, Or.inr ⟨hkk, rfl, _, hSn, (by rw [hS1]; exact ⟨rfl, rfl, rfl, rfl, rfl, rfl, rfl⟩), hfr⟩⟩ d_AM_change_26
  · have hkn : ¬ (0 ≤ k ∧ k < S.n) := fun z => by rw [if_pos z] at hc2; exact absurd hc2 (by decide)
    refine lv_iconst (v := iI 0) hx hb d_AM_change_11 rfl ?_
    exact zq_zret hx hb hr rfl hlocks hZ hw ⟨0, rfl, Or.inl ⟨hkn, rfl, rfl⟩⟩ d_AM_change_12
abbrev P_AM_smooth (K : Nat → ClassId) (M : zq_M) (own : Nat → Nat) (ad : zAd) (S : zSt) (k : Int) : Option Value → zq_M → Prop := fun v M' => ∃ r, v = some (.int (iI r)) ∧ ((¬ ((0 ≤ k ∧ k < S.n) ∧ S.cir + zcl S.sg S.lb k ≤ 9) ∧ r = 0 ∧ M' = M) ∨ (((0 ≤ k ∧ k < S.n) ∧ S.cir + zcl S.sg S.lb k ≤ 9) ∧ r = 1 ∧ ∃ S', zCS K M' own ad S' ∧ zBs S' S.pn S.psg S.plb (S.n - 1) (zrs S.sg S.n k) (zjs S.sg S.lb S.n k) (S.cir + zcl S.sg S.lb k) ∧ ∀ q, 9 ≤ own q → M' q = M q))
set_option maxHeartbeats 4000000 in
set_option maxRecDepth 100000 in
theorem c_AM_smooth (l : Launch) (D : va_G) (K : Nat → ClassId) (M : zq_M) (own : Nat → Nat) (ad : zAd) (S : zSt) (k : Int) (hS : zCS K M own ad S) (hk9 : inI k) (hOk : 0 ≤ k ∧ k < S.n → zOkD (S.n - 1) (zrs S.sg S.n k) (zjs S.sg S.lb S.n k)) : zq_Met l y_AM_smooth (.code y_AM_smooth b_AM_smooth 3 (some .boolean) :: lw_gd) { frames := 5, cells := 0, slots := 0, locals := 109 } D vwCl (zT K) [.ref ad.x, .int (iI k)] M (P_AM_smooth K M own ad S k) 0 0 := by
  refine zq_start (cc := b_AM_smooth) (maxL := 3) (ret := (some .boolean)) (by decide) rfl (Nat.le_of_ble_eq_true rfl) ?_
  intro p e s m below meth co A ls hx hb hr hml hts hown hnm hlocks hA hZ hw hl
  have hts : ∀ w ∈ lw_gd, w.before [.ref ad.x, .int (iI k)].toArray s = true := fun w h => hts w (List.mem_cons_of_mem _ h)
  have hown : s.vm.findClass R_AM = some m.cls := hown
  have hK := hZ.1
  have hl : lv_has ls 3 [(0, .ref ad.x), (1, .int (iI k))] := hl
  have hfr : ∀ q, 9 ≤ own q → M q = M q := fun q _ => rfl
  have ox := hS.w.ox
  have h_x := hS.w.hx
  have c1 := hS.w.c1
  have c2 := hS.w.c2
  have c3 := hS.w.c3
  have c4 := hS.c4
  have c5 := hS.c5
  have c6 := hS.w.c6
  have c7 := hS.w.c7
  have c8 := hS.w.c8
  have hci := hS.w.hci
  have hlr := hS.w.hlr
  have hrd := hS.hrd
  have hz9 := zcl_in S.sg S.lb k
  refine lv_aload_n hx hb d_AM_smooth_0 rfl (lv_at hl 0 rfl) ?_
  refine zq_get hx hb hts i_AM hown hK hw h_x rfl 1 (by decide) (hts _ tw_183) rfl d_AM_smooth_1 ?_
  refine lv_iload_n hx hb d_AM_smooth_4 rfl (lv_at hl 1 rfl) ?_
  refine zq_callV (As := [.int (iI k)]) (rest := []) ⟨hx, hb, hml, hown, hts⟩ (c_CR_has l D K M ad.di ad.dis ad.dil S.n S.sg S.lb k c2.ho c2.hs c2.hl c2.hC hk9) (cwV 1 hts (zg_V tw_550 tw_273 tw_274 tw_2 tw_275) rfl rfl rfl (by decide +kernel) ⟨Nat.le_of_ble_eq_true rfl, Nat.le_of_ble_eq_true rfl⟩) hZ hw hA c2.ho rfl rfl rfl rfl hl.1 (Nat.le_of_ble_eq_true rfl) d_AM_smooth_5 ⟨Nat.le_of_ble_eq_true rfl, Nat.le_of_ble_eq_true rfl⟩ (fun v M1 H locs hp hw => ?_)
  obtain ⟨rfl, hMe⟩ := hp
  rw [hMe] at hw
  refine W.eq (g2 := F0 m 8 ls [.int (iI (if 0 ≤ k ∧ k < S.n then 1 else 0))]) rfl ?_
  refine zq_if_ne (tgt := 13) hx hb d_AM_smooth_8 (by decide) (by split <;> decide) (fun hc2 => ?_) (fun hc2 => ?_)
  · have hkk : 0 ≤ k ∧ k < S.n := Decidable.byContradiction fun z => hc2 (if_neg z)
    refine lv_aload_n hx hb d_AM_smooth_13 rfl (lv_at hl 0 rfl) ?_
    refine zq_get hx hb hts i_AM hown hK hw h_x rfl 8 (by decide) (hts _ tw_190) rfl d_AM_smooth_14 ?_
    refine lv_aload_n hx hb d_AM_smooth_17 rfl (lv_at hl 0 rfl) ?_
    refine zq_get hx hb hts i_AM hown hK hw h_x rfl 1 (by decide) (hts _ tw_183) rfl d_AM_smooth_18 ?_
    refine lv_iload_n hx hb d_AM_smooth_21 rfl (lv_at hl 1 rfl) ?_
    refine zq_callV (As := [.int (iI k)]) (rest := [.int (iI S.cir)]) ⟨hx, hb, hml, hown, hts⟩ (c_CR_closingsAt l D K M ad.di ad.dis ad.dil S.n S.sg S.lb k c2.ho c2.hs c2.hl c2.hC ⟨hkk.1, hkk.2⟩) (cwV 1 hts (zg_V tw_560 tw_561 tw_562 tw_2 tw_563) rfl rfl rfl (by decide +kernel) ⟨Nat.le_of_ble_eq_true rfl, Nat.le_of_ble_eq_true rfl⟩) hZ hw hA c2.ho rfl rfl rfl rfl hl.1 (Nat.le_of_ble_eq_true rfl) d_AM_smooth_22 ⟨Nat.le_of_ble_eq_true rfl, Nat.le_of_ble_eq_true rfl⟩ (fun v M3 H locs hp hw => ?_)
    obtain ⟨rfl, hMe⟩ := hp
    rw [hMe] at hw
    refine W.eq (g2 := F0 m 25 ls [.int (iI (zcl S.sg S.lb k)), .int (iI S.cir)]) rfl ?_
    refine zq_iadd hx hb d_AM_smooth_25 ?_
    refine lv_istore_n (lv' := [(2, .int (iI (S.cir + (zcl S.sg S.lb k)))), (0, .ref ad.x), (1, .int (iI k))]) hx hb d_AM_smooth_26 rfl hl (by decide) rfl (fun ls hl => ?_)
    refine lv_iload_n hx hb d_AM_smooth_27 rfl (lv_at hl 0 rfl) ?_
    refine lv_bipush (v := iI 9) hx hb d_AM_smooth_28 (by decide) ?_
    refine zq_icmp_le (tgt := 35) hx hb d_AM_smooth_30 (by decide) ⟨by omega, by omega⟩ (by decide) (fun hc4 => ?_) (fun hc4 => ?_)
    · have hci2 : 0 ≤ S.cir + zcl S.sg S.lb k ∧ S.cir + zcl S.sg S.lb k ≤ 9 := ⟨by omega, by omega⟩
      refine lv_aload_n hx hb d_AM_smooth_35 rfl (lv_at hl 1 rfl) ?_
      refine zq_get hx hb hts i_AM hown hK hw h_x rfl 1 (by decide) (hts _ tw_183) rfl d_AM_smooth_36 ?_
      refine lv_iload_n hx hb d_AM_smooth_39 rfl (lv_at hl 2 rfl) ?_
      have hCn := zC_join hkk c2.hC
      refine zq_callV (As := [.int (iI k)]) (rest := []) ⟨hx, hb, hml, hown, hts⟩ (c_CR_joinStrands l D K M ad.di ad.dis ad.dil S.n S.sg S.lb k c2.ho c2.hs c2.hl c2.hC ⟨hkk.1, hkk.2⟩) (cwV 1 hts (zg_V tw_566 tw_567 tw_568 tw_2 tw_569) rfl rfl rfl (by decide +kernel) ⟨Nat.le_of_ble_eq_true rfl, Nat.le_of_ble_eq_true rfl⟩) hZ hw hA c2.ho rfl rfl rfl rfl hl.1 (Nat.le_of_ble_eq_true rfl) d_AM_smooth_40 ⟨Nat.le_of_ble_eq_true rfl, Nat.le_of_ble_eq_true rfl⟩ (fun v M5 H locs hp hw => ?_)
      obtain ⟨rfl, hs0, hs1, hs2, ho⟩ := hp
      have hoK : ∀ q, own q ≠ 2 → M5 q = M q := fun q hq => ho q (fun z => hq (by rw [z]; exact c2.oo)) (fun z => hq (by rw [z]; exact c2.os)) (fun z => hq (by rw [z]; exact c2.ol))
      have h_x : M5 ad.x = some (.inr (0, [.ref ad.pi, .ref ad.di, .ref ad.ru, .ref ad.al, .ref ad.et, .ref ad.mt, .ref ad.mr, .ref ad.no, .int (iI S.cir), .int (iI S.nk)])) := (hoK _ (by rw [ox]; decide)).trans h_x
      have c1 := c1.keep (fun q hq => hoK q (by rw [hq]; decide))
      have c3 := c3.keep (fun q hq => hoK q (by rw [hq]; decide))
      have c4 := c4.keep (fun q hq => hoK q (by rw [hq]; decide))
      have c5 := c5.keep (fun q hq => hoK q (by rw [hq]; decide))
      have c6 := c6.keep (fun q hq => hoK q (by rw [hq]; decide))
      have c7 := c7.keep (fun q hq => hoK q (by rw [hq]; decide))
      have c8 := c8.keep (fun q hq => hoK q (by rw [hq]; decide))
      have c2 : zc1 K M5 own 2 ad.di ad.dis ad.dil (S.n - 1) (zrs S.sg S.n k) (zjs S.sg S.lb S.n k) := ⟨c2.oo, c2.os, c2.ol, hs0, hs1, hs2, hCn⟩
      have hfr : ∀ q, 9 ≤ own q → M5 q = M q := fun q g0 => (hoK q (by omega)).trans (hfr q g0)
      refine W.eq (g2 := F0 m 43 ls []) rfl ?_
      refine lv_aload_n hx hb d_AM_smooth_43 rfl (lv_at hl 1 rfl) ?_
      refine lv_iload_n hx hb d_AM_smooth_44 rfl (lv_at hl 0 rfl) ?_
      refine zq_put (ci := 0) (v := .int (iI (S.cir + (zcl S.sg S.lb k)))) (ty := .int) hx hb hts i_AM t_AM t_AM_ok n_AM hown hK hw h_x rfl 8 (by decide) (hts _ tw_190) rfl (by decide +kernel) rfl rfl (Nat.le_of_ble_eq_true rfl) d_AM_smooth_45 (fun M6 H locs hs ho hw => ?_)
      have h_x : M6 ad.x = some (.inr (0, [.ref ad.pi, .ref ad.di, .ref ad.ru, .ref ad.al, .ref ad.et, .ref ad.mt, .ref ad.mr, .ref ad.no, .int (iI (S.cir + (zcl S.sg S.lb k))), .int (iI S.nk)])) := hs
      have hfr : ∀ q, 9 ≤ own q → M6 q = M q := fun q g0 => (ho q (fun z => by rw [z, ox] at g0; omega)).trans (hfr q g0)
      have c1 := c1.keep (fun q hq => ho q (fun z => by rw [z, ox] at hq; exact absurd hq (by decide)))
      have c2 := c2.keep (fun q hq => ho q (fun z => by rw [z, ox] at hq; exact absurd hq (by decide)))
      have c3 := c3.keep (fun q hq => ho q (fun z => by rw [z, ox] at hq; exact absurd hq (by decide)))
      have c4 := c4.keep (fun q hq => ho q (fun z => by rw [z, ox] at hq; exact absurd hq (by decide)))
      have c5 := c5.keep (fun q hq => ho q (fun z => by rw [z, ox] at hq; exact absurd hq (by decide)))
      have c6 := c6.keep (fun q hq => ho q (fun z => by rw [z, ox] at hq; exact absurd hq (by decide)))
      have c7 := c7.keep (fun q hq => ho q (fun z => by rw [z, ox] at hq; exact absurd hq (by decide)))
      have c8 := c8.keep (fun q hq => ho q (fun z => by rw [z, ox] at hq; exact absurd hq (by decide)))
      have hci := hci2
      obtain ⟨S1, hS1⟩ : ∃ z : zSt, z = ((S.pn, S.psg, S.plb, (S.n - 1), (zrs S.sg S.n k), (zjs S.sg S.lb S.n k), (S.cir + zcl S.sg S.lb k), S.cN, S.lN, S.al0, S.at0, S.ls0, S.N, S.F, S.G, S.lr, S.lc, S.kn, S.dl, S.fl, S.nk, S.dn, S.fn) : zSt) := ⟨_, rfl⟩
      have hW1 : zCW K M6 own ad S1 := by rw [hS1]; exact ⟨ox, h_x, c1, c2, c3, ⟨_, _, c4⟩, ⟨_, _, c5⟩, c6, c7, c8, hci, hlr⟩
      have hOk1 : zOkD S1.n S1.sg S1.lb := by rw [hS1]; exact hOk hkk
      refine lv_aload_n hx hb d_AM_smooth_48 rfl (lv_at hl 1 rfl) ?_
      refine zq_callV (As := []) (rest := []) ⟨hx, hb, hml, hown, hts⟩ (c_AM_readDiagram l D K M6 own ad S1 hW1 hOk1) (cwV 0 hts (zg_V tw_310 tw_312 ts_10 tw_1 tw_313) rfl rfl rfl (by decide +kernel) ⟨Nat.le_of_ble_eq_true rfl, Nat.le_of_ble_eq_true rfl⟩) hZ hw hA h_x rfl rfl rfl rfl hl.1 (Nat.le_of_ble_eq_true rfl) d_AM_smooth_49 ⟨Nat.le_of_ble_eq_true rfl, Nat.le_of_ble_eq_true rfl⟩ (fun v M7 H locs hp hw => ?_)
      obtain ⟨rfl, cN, lN, N, hSn, ho⟩ := hp
      have hfr : ∀ q, 9 ≤ own q → M7 q = M q := fun q g0 => (ho q (by omega) (by omega) (by omega) (by omega)).trans (hfr q g0)
      refine W.eq (g2 := F0 m 52 ls []) rfl ?_
      refine lv_iconst (v := iI 1) hx hb d_AM_smooth_52 rfl ?_
      exact zq_zret hx hb hr rfl hlocks hZ hw ⟨1, rfl, Or.inr ⟨⟨hkk, by omega⟩, rfl, _, hSn, (by rw [hS1]; exact ⟨rfl, rfl, rfl, rfl, rfl, rfl, rfl⟩), hfr⟩⟩ d_AM_smooth_53
    · refine lv_iconst (v := iI 0) hx hb d_AM_smooth_33 rfl ?_
      exact zq_zret hx hb hr rfl hlocks hZ hw ⟨0, rfl, Or.inl ⟨fun z => by omega, rfl, rfl⟩⟩ d_AM_smooth_34
  · have hkn : ¬ (0 ≤ k ∧ k < S.n) := fun z => by rw [if_pos z] at hc2; exact absurd hc2 (by decide)
    refine lv_iconst (v := iI 0) hx hb d_AM_smooth_11 rfl ?_
    exact zq_zret hx hb hr rfl hlocks hZ hw ⟨0, rfl, Or.inl ⟨fun z => hkn z.1, rfl, rfl⟩⟩ d_AM_smooth_12
