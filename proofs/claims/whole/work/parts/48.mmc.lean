abbrev P_MM_take (K : Nat → ClassId) (M : zq_M) (o : Nat) (bd : Nat → Nat) (th : Int) (put : Int) (wr : Int) (nn : Int) (cir : Int) (oN : Int) (oC : Int) (lbs : Int) (fcs : Int) (arcs : Int) (mns : Int) (kn : Int) (pS : Int → Int) (pL : Int → Int) (sg : Int → Int) (lb : Int → Int) (oS : Int → Int) (oL : Int → Int) : Option Value → zq_M → Prop := fun v M' => v = none ∧ M' o = some (.inr (9, [.int (iI th), .int (iI 0), .int (iI wr), .ref (bd 0), .ref (bd 1), .int (iI put), .int (iI cir), .int (iI nn), .int (iI cir), .ref (bd 2), .ref (bd 3), .ref (bd 4), .ref (bd 5), .int (iI lbs), .ref (bd 6), .ref (bd 7), .ref (bd 8), .int (iI fcs), .ref (bd 9), .int (iI arcs), .ref (bd 10), .ref (bd 11), .ref (bd 12), .ref (bd 13), .int (iI mns), .ref (bd 14), .ref (bd 15), .ref (bd 16), .int (iI kn), .ref (bd 17)])) ∧ M' (bd 4) = some (cI (K 0) 12 (zcp sg oS 12)) ∧ M' (bd 5) = some (cI (K 0) 48 (zcp lb oL 48)) ∧ M' (bd 2) = some (cI (K 0) 12 (zcp pS sg put)) ∧ M' (bd 3) = some (cI (K 0) 48 (zcp pL lb (4 * put))) ∧ ∀ q, q ≠ o → q ≠ (bd 4) → q ≠ (bd 5) → q ≠ (bd 2) → q ≠ (bd 3) → M' q = M q
set_option maxHeartbeats 4000000 in
set_option maxRecDepth 100000 in
theorem c_MM_take (l : Launch) (D : va_G) (K : Nat → ClassId) (M : zq_M) (o : Nat) (bd : Nat → Nat) (th : Int) (put : Int) (wr : Int) (nn : Int) (cir : Int) (oN : Int) (oC : Int) (lbs : Int) (fcs : Int) (arcs : Int) (mns : Int) (kn : Int) (pS : Int → Int) (pL : Int → Int) (sg : Int → Int) (lb : Int → Int) (oS : Int → Int) (oL : Int → Int) (h_o : M o = some (.inr (9, [.int (iI th), .int (iI put), .int (iI wr), .ref (bd 0), .ref (bd 1), .int (iI nn), .int (iI cir), .int (iI oN), .int (iI oC), .ref (bd 2), .ref (bd 3), .ref (bd 4), .ref (bd 5), .int (iI lbs), .ref (bd 6), .ref (bd 7), .ref (bd 8), .int (iI fcs), .ref (bd 9), .int (iI arcs), .ref (bd 10), .ref (bd 11), .ref (bd 12), .ref (bd 13), .int (iI mns), .ref (bd 14), .ref (bd 15), .ref (bd 16), .int (iI kn), .ref (bd 17)]))) (hbd : ∀ i j, i < 18 → j < 18 → bd i = bd j → i = j) (h_pS : M (bd 0) = some (cI (K 0) 12 pS)) (h_pL : M (bd 1) = some (cI (K 0) 48 pL)) (h_sg : M (bd 2) = some (cI (K 0) 12 sg)) (h_lb : M (bd 3) = some (cI (K 0) 48 lb)) (h_oS : M (bd 4) = some (cI (K 0) 12 oS)) (h_oL : M (bd 5) = some (cI (K 0) 48 oL)) (hput : 0 ≤ put ∧ put ≤ 12) : zq_Met l y_MM_take (.code y_MM_take b_MM_take 2 none :: lw_gd) { frames := 0, cells := 0, slots := 0, locals := 0 } D vwCl (zT K) [.ref o] M (P_MM_take K M o bd th put wr nn cir oN oC lbs fcs arcs mns kn pS pL sg lb oS oL) 0 0 := by
  refine zq_start (cc := b_MM_take) (maxL := 2) (ret := none) (by decide) rfl (Nat.le_of_ble_eq_true rfl) ?_
  intro p e s m below meth co A ls hx hb hr hml hts hown hnm hlocks hA hZ hw hl
  have hts : ∀ w ∈ lw_gd, w.before [.ref o].toArray s = true := fun w h => hts w (List.mem_cons_of_mem _ h)
  have hown : s.vm.findClass R_MM = some m.cls := hown
  have hK := hZ.1
  have hl : lv_has ls 2 [(0, .ref o)] := hl
  have hfr : ∀ q, q ≠ o → q ≠ (bd 4) → q ≠ (bd 5) → q ≠ (bd 2) → q ≠ (bd 3) → M q = M q := fun q _ _ _ _ _ => rfl
  have hL4 : ∀ (n : Nat) (i : Int) (g : Int → Int) (Mq : zq_M) (H : Heap) (locs : List Loc) (ls : Array Slot), (0 ≤ i ∧ i ≤ 4 * put) → (∀ z, g z = if 0 ≤ z ∧ z < i then pL z else lb z) → (4 * put - i).toNat < n → (∀ q, q ≠ o → q ≠ (bd 4) → q ≠ (bd 5) → q ≠ (bd 2) → q ≠ (bd 3) → Mq q = M q) → Mq o = some (.inr (9, [.int (iI th), .int (iI put), .int (iI wr), .ref (bd 0), .ref (bd 1), .int (iI put), .int (iI cir), .int (iI nn), .int (iI cir), .ref (bd 2), .ref (bd 3), .ref (bd 4), .ref (bd 5), .int (iI lbs), .ref (bd 6), .ref (bd 7), .ref (bd 8), .int (iI fcs), .ref (bd 9), .int (iI arcs), .ref (bd 10), .ref (bd 11), .ref (bd 12), .ref (bd 13), .int (iI mns), .ref (bd 14), .ref (bd 15), .ref (bd 16), .int (iI kn), .ref (bd 17)])) → Mq (bd 0) = some (cI (K 0) 12 pS) → Mq (bd 1) = some (cI (K 0) 48 pL) → Mq (bd 2) = some (cI (K 0) 12 (zcp pS sg put)) → Mq (bd 3) = some (cI (K 0) 48 g) → Mq (bd 4) = some (cI (K 0) 12 (zcp sg oS 12)) → Mq (bd 5) = some (cI (K 0) 48 (zcp lb oL 48)) → zq_W D vwCl A s.heap Mq H locs → lv_has ls 2 [(0, .ref o), (1, .int (iI i))] → W p l e ({ frames := 0, cells := 0, slots := 0, locals := 0 } : Room) s m [.ref o].toArray below meth co H locs 0 0 (MQ below (zq_Q D vwCl (zT K) (P_MM_take K M o bd th put wr nn cir oN oC lbs fcs arcs mns kn pS pL sg lb oS oL) A) [.ref o].toArray s 0 0 A) (F0 m 106 ls []) := by
    intro n
    induction n with
    | zero =>
      intro i g Mq H locs ls hi hg hms hfr h_o h_pS h_pL h_sg h_lb h_oS h_oL hw hl
      exact absurd hms (Nat.not_lt_zero _)
    | succ n ih_hL4 =>
      intro i g Mq H locs ls hi hg hms hfr h_o h_pS h_pL h_sg h_lb h_oS h_oL hw hl
      refine lv_iload_n hx hb d_MM_take_106 rfl (lv_at hl 1 rfl) ?_
      refine lv_iconst (v := iI 4) hx hb d_MM_take_107 rfl ?_
      refine lv_aload_n hx hb d_MM_take_108 rfl (lv_at hl 0 rfl) ?_
      refine zq_get hx hb hts i_MM hown hK hw h_o rfl 5 (by decide) (hts _ tw_591) rfl d_MM_take_109 ?_
      refine zq_imul hx hb d_MM_take_112 ?_
      refine zq_icmp_ge (tgt := 134) hx hb d_MM_take_113 (by decide) ⟨by omega, by omega⟩ ⟨by omega, by omega⟩ (fun hc1 => ?_) (fun hc1 => ?_)
      · have eg : g = zcp pL lb (4 * put) := funext fun z => by rw [hg z, show i = 4 * put by omega]; rfl
        subst eg
        refine lv_aload_n hx hb d_MM_take_134 rfl (lv_at hl 0 rfl) ?_
        refine lv_iconst (v := iI 0) hx hb d_MM_take_135 rfl ?_
        refine zq_put (ci := 9) (v := .int (iI 0)) (ty := .int) hx hb hts i_MM t_MM t_MM_ok n_MM hown hK hw h_o rfl 1 (by decide) (hts _ tw_587) rfl (by decide +kernel) rfl rfl (Nat.le_of_ble_eq_true rfl) d_MM_take_136 (fun M2 H locs hs ho hw => ?_)
        have h_pS : M2 (bd 0) = some (cI (K 0) 12 pS) := (ho _ (zq_ne h_pS h_o (by simp))).trans h_pS
        have h_pL : M2 (bd 1) = some (cI (K 0) 48 pL) := (ho _ (zq_ne h_pL h_o (by simp))).trans h_pL
        have h_sg : M2 (bd 2) = some (cI (K 0) 12 (zcp pS sg put)) := (ho _ (zq_ne h_sg h_o (by simp))).trans h_sg
        have h_lb : M2 (bd 3) = some (cI (K 0) 48 (zcp pL lb (4 * put))) := (ho _ (zq_ne h_lb h_o (by simp))).trans h_lb
        have h_oS : M2 (bd 4) = some (cI (K 0) 12 (zcp sg oS 12)) := (ho _ (zq_ne h_oS h_o (by simp))).trans h_oS
        have h_oL : M2 (bd 5) = some (cI (K 0) 48 (zcp lb oL 48)) := (ho _ (zq_ne h_oL h_o (by simp))).trans h_oL
        have h_o : M2 o = some (.inr (9, [.int (iI th), .int (iI 0), .int (iI wr), .ref (bd 0), .ref (bd 1), .int (iI put), .int (iI cir), .int (iI nn), .int (iI cir), .ref (bd 2), .ref (bd 3), .ref (bd 4), .ref (bd 5), .int (iI lbs), .ref (bd 6), .ref (bd 7), .ref (bd 8), .int (iI fcs), .ref (bd 9), .int (iI arcs), .ref (bd 10), .ref (bd 11), .ref (bd 12), .ref (bd 13), .int (iI mns), .ref (bd 14), .ref (bd 15), .ref (bd 16), .int (iI kn), .ref (bd 17)])) := hs
        have hfr : ∀ q, q ≠ o → q ≠ (bd 4) → q ≠ (bd 5) → q ≠ (bd 2) → q ≠ (bd 3) → M2 q = M q := fun q g0 g1 g2 g3 g4 => (ho q g0).trans (hfr q g0 g1 g2 g3 g4)
        exact zq_vret hx hb hr hlocks hZ hw ⟨rfl, h_o, h_oS, h_oL, h_sg, h_lb, hfr⟩ d_MM_take_139
      · refine lv_aload_n hx hb d_MM_take_116 rfl (lv_at hl 0 rfl) ?_
        refine zq_get hx hb hts i_MM hown hK hw h_o rfl 10 (by decide) (hts _ tw_596) rfl d_MM_take_117 ?_
        refine lv_iload_n hx hb d_MM_take_120 rfl (lv_at hl 1 rfl) ?_
        refine lv_aload_n hx hb d_MM_take_121 rfl (lv_at hl 0 rfl) ?_
        refine zq_get hx hb hts i_MM hown hK hw h_o rfl 4 (by decide) (hts _ tw_590) rfl d_MM_take_122 ?_
        refine lv_iload_n hx hb d_MM_take_125 rfl (lv_at hl 1 rfl) ?_
        refine zq_iald hx hb hK hw 0 h_pL rfl (by omega) (by omega) (by decide) d_MM_take_126 ?_
        refine zq_iast hx hb hK hw 0 h_lb rfl (by omega) (by omega) (by decide) d_MM_take_127 (fun M3 H locs hs ho hw => ?_)
        have h_o : M3 o = some (.inr (9, [.int (iI th), .int (iI put), .int (iI wr), .ref (bd 0), .ref (bd 1), .int (iI put), .int (iI cir), .int (iI nn), .int (iI cir), .ref (bd 2), .ref (bd 3), .ref (bd 4), .ref (bd 5), .int (iI lbs), .ref (bd 6), .ref (bd 7), .ref (bd 8), .int (iI fcs), .ref (bd 9), .int (iI arcs), .ref (bd 10), .ref (bd 11), .ref (bd 12), .ref (bd 13), .int (iI mns), .ref (bd 14), .ref (bd 15), .ref (bd 16), .int (iI kn), .ref (bd 17)])) := (ho _ (zq_ne h_o h_lb (by simp))).trans h_o
        have h_pS : M3 (bd 0) = some (cI (K 0) 12 pS) := (ho _ (zbd hbd 0 3)).trans h_pS
        have h_pL : M3 (bd 1) = some (cI (K 0) 48 pL) := (ho _ (zbd hbd 1 3)).trans h_pL
        have h_sg : M3 (bd 2) = some (cI (K 0) 12 (zcp pS sg put)) := (ho _ (zbd hbd 2 3)).trans h_sg
        have h_oS : M3 (bd 4) = some (cI (K 0) 12 (zcp sg oS 12)) := (ho _ (Ne.symm (zbd hbd 3 4))).trans h_oS
        have h_oL : M3 (bd 5) = some (cI (K 0) 48 (zcp lb oL 48)) := (ho _ (Ne.symm (zbd hbd 3 5))).trans h_oL
        have h_lb : M3 (bd 3) = some (cI (K 0) 48 (zu g i (pL i))) := hs
        have hfr : ∀ q, q ≠ o → q ≠ (bd 4) → q ≠ (bd 5) → q ≠ (bd 2) → q ≠ (bd 3) → M3 q = M q := fun q g0 g1 g2 g3 g4 => (ho q g4).trans (hfr q g0 g1 g2 g3 g4)
        refine lv_iinc (v := iI (i + 1)) (lv' := [(1, .int (iI (i + 1))), (0, .ref o)]) hx hb d_MM_take_128 hl (k := 1) rfl (iI_add _ _) (by decide) rfl (fun ls hl => ?_)
        refine lv_goto (tgt := 106) hx hb d_MM_take_131 (by decide) ?_
        exact ih_hL4 (i + 1) (zu g i (pL i)) M3 _ _ _ (by omega) (zcp_step hg hi.1) (by omega) hfr h_o h_pS h_pL h_sg h_lb h_oS h_oL hw (lv_sub hl [1, 0] rfl)
  have hL3 : ∀ (n : Nat) (i : Int) (g : Int → Int) (Mq : zq_M) (H : Heap) (locs : List Loc) (ls : Array Slot), (0 ≤ i ∧ i ≤ put) → (∀ z, g z = if 0 ≤ z ∧ z < i then pS z else sg z) → (put - i).toNat < n → (∀ q, q ≠ o → q ≠ (bd 4) → q ≠ (bd 5) → q ≠ (bd 2) → q ≠ (bd 3) → Mq q = M q) → Mq o = some (.inr (9, [.int (iI th), .int (iI put), .int (iI wr), .ref (bd 0), .ref (bd 1), .int (iI put), .int (iI cir), .int (iI nn), .int (iI cir), .ref (bd 2), .ref (bd 3), .ref (bd 4), .ref (bd 5), .int (iI lbs), .ref (bd 6), .ref (bd 7), .ref (bd 8), .int (iI fcs), .ref (bd 9), .int (iI arcs), .ref (bd 10), .ref (bd 11), .ref (bd 12), .ref (bd 13), .int (iI mns), .ref (bd 14), .ref (bd 15), .ref (bd 16), .int (iI kn), .ref (bd 17)])) → Mq (bd 0) = some (cI (K 0) 12 pS) → Mq (bd 1) = some (cI (K 0) 48 pL) → Mq (bd 2) = some (cI (K 0) 12 g) → Mq (bd 3) = some (cI (K 0) 48 lb) → Mq (bd 4) = some (cI (K 0) 12 (zcp sg oS 12)) → Mq (bd 5) = some (cI (K 0) 48 (zcp lb oL 48)) → zq_W D vwCl A s.heap Mq H locs → lv_has ls 2 [(0, .ref o), (1, .int (iI i))] → W p l e ({ frames := 0, cells := 0, slots := 0, locals := 0 } : Room) s m [.ref o].toArray below meth co H locs 0 0 (MQ below (zq_Q D vwCl (zT K) (P_MM_take K M o bd th put wr nn cir oN oC lbs fcs arcs mns kn pS pL sg lb oS oL) A) [.ref o].toArray s 0 0 A) (F0 m 78 ls []) := by
    intro n
    induction n with
    | zero =>
      intro i g Mq H locs ls hi hg hms hfr h_o h_pS h_pL h_sg h_lb h_oS h_oL hw hl
      exact absurd hms (Nat.not_lt_zero _)
    | succ n ih_hL3 =>
      intro i g Mq H locs ls hi hg hms hfr h_o h_pS h_pL h_sg h_lb h_oS h_oL hw hl
      refine lv_iload_n hx hb d_MM_take_78 rfl (lv_at hl 1 rfl) ?_
      refine lv_aload_n hx hb d_MM_take_79 rfl (lv_at hl 0 rfl) ?_
      refine zq_get hx hb hts i_MM hown hK hw h_o rfl 5 (by decide) (hts _ tw_591) rfl d_MM_take_80 ?_
      refine zq_icmp_ge (tgt := 104) hx hb d_MM_take_83 (by decide) ⟨by omega, by omega⟩ ⟨by omega, by omega⟩ (fun hc4 => ?_) (fun hc4 => ?_)
      · have eg : g = zcp pS sg put := funext fun z => by rw [hg z, show i = put by omega]; rfl
        subst eg
        refine lv_iconst (v := iI 0) hx hb d_MM_take_104 rfl ?_
        refine lv_istore_n (lv' := [(1, .int (iI 0)), (0, .ref o)]) hx hb d_MM_take_105 rfl hl (by decide) rfl (fun ls hl => ?_)
        exact hL4 _ 0 lb Mq _ _ _ ⟨by omega, by omega⟩ (fun z => (if_neg (by omega)).symm) (Nat.lt_succ_self _) hfr h_o h_pS h_pL h_sg h_lb h_oS h_oL hw (lv_sub hl [1, 0] rfl)
      · refine lv_aload_n hx hb d_MM_take_86 rfl (lv_at hl 0 rfl) ?_
        refine zq_get hx hb hts i_MM hown hK hw h_o rfl 9 (by decide) (hts _ tw_595) rfl d_MM_take_87 ?_
        refine lv_iload_n hx hb d_MM_take_90 rfl (lv_at hl 1 rfl) ?_
        refine lv_aload_n hx hb d_MM_take_91 rfl (lv_at hl 0 rfl) ?_
        refine zq_get hx hb hts i_MM hown hK hw h_o rfl 3 (by decide) (hts _ tw_589) rfl d_MM_take_92 ?_
        refine lv_iload_n hx hb d_MM_take_95 rfl (lv_at hl 1 rfl) ?_
        refine zq_iald hx hb hK hw 0 h_pS rfl (by omega) (by omega) (by decide) d_MM_take_96 ?_
        refine zq_iast hx hb hK hw 0 h_sg rfl (by omega) (by omega) (by decide) d_MM_take_97 (fun M5 H locs hs ho hw => ?_)
        have h_o : M5 o = some (.inr (9, [.int (iI th), .int (iI put), .int (iI wr), .ref (bd 0), .ref (bd 1), .int (iI put), .int (iI cir), .int (iI nn), .int (iI cir), .ref (bd 2), .ref (bd 3), .ref (bd 4), .ref (bd 5), .int (iI lbs), .ref (bd 6), .ref (bd 7), .ref (bd 8), .int (iI fcs), .ref (bd 9), .int (iI arcs), .ref (bd 10), .ref (bd 11), .ref (bd 12), .ref (bd 13), .int (iI mns), .ref (bd 14), .ref (bd 15), .ref (bd 16), .int (iI kn), .ref (bd 17)])) := (ho _ (zq_ne h_o h_sg (by simp))).trans h_o
        have h_pS : M5 (bd 0) = some (cI (K 0) 12 pS) := (ho _ (zbd hbd 0 2)).trans h_pS
        have h_pL : M5 (bd 1) = some (cI (K 0) 48 pL) := (ho _ (zbd hbd 1 2)).trans h_pL
        have h_lb : M5 (bd 3) = some (cI (K 0) 48 lb) := (ho _ (Ne.symm (zbd hbd 2 3))).trans h_lb
        have h_oS : M5 (bd 4) = some (cI (K 0) 12 (zcp sg oS 12)) := (ho _ (Ne.symm (zbd hbd 2 4))).trans h_oS
        have h_oL : M5 (bd 5) = some (cI (K 0) 48 (zcp lb oL 48)) := (ho _ (Ne.symm (zbd hbd 2 5))).trans h_oL
        have h_sg : M5 (bd 2) = some (cI (K 0) 12 (zu g i (pS i))) := hs
        have hfr : ∀ q, q ≠ o → q ≠ (bd 4) → q ≠ (bd 5) → q ≠ (bd 2) → q ≠ (bd 3) → M5 q = M q := fun q g0 g1 g2 g3 g4 => (ho q g3).trans (hfr q g0 g1 g2 g3 g4)
        refine lv_iinc (v := iI (i + 1)) (lv' := [(1, .int (iI (i + 1))), (0, .ref o)]) hx hb d_MM_take_98 hl (k := 1) rfl (iI_add _ _) (by decide) rfl (fun ls hl => ?_)
        refine lv_goto (tgt := 78) hx hb d_MM_take_101 (by decide) ?_
        exact ih_hL3 (i + 1) (zu g i (pS i)) M5 _ _ _ (by omega) (zcp_step hg hi.1) (by omega) hfr h_o h_pS h_pL h_sg h_lb h_oS h_oL hw (lv_sub hl [1, 0] rfl)
  have hL2 : ∀ (n : Nat) (i : Int) (g : Int → Int) (Mq : zq_M) (H : Heap) (locs : List Loc) (ls : Array Slot), (0 ≤ i ∧ i ≤ 48) → (∀ z, g z = if 0 ≤ z ∧ z < i then lb z else oL z) → (48 - i).toNat < n → (∀ q, q ≠ o → q ≠ (bd 4) → q ≠ (bd 5) → q ≠ (bd 2) → q ≠ (bd 3) → Mq q = M q) → Mq o = some (.inr (9, [.int (iI th), .int (iI put), .int (iI wr), .ref (bd 0), .ref (bd 1), .int (iI nn), .int (iI cir), .int (iI nn), .int (iI cir), .ref (bd 2), .ref (bd 3), .ref (bd 4), .ref (bd 5), .int (iI lbs), .ref (bd 6), .ref (bd 7), .ref (bd 8), .int (iI fcs), .ref (bd 9), .int (iI arcs), .ref (bd 10), .ref (bd 11), .ref (bd 12), .ref (bd 13), .int (iI mns), .ref (bd 14), .ref (bd 15), .ref (bd 16), .int (iI kn), .ref (bd 17)])) → Mq (bd 0) = some (cI (K 0) 12 pS) → Mq (bd 1) = some (cI (K 0) 48 pL) → Mq (bd 2) = some (cI (K 0) 12 sg) → Mq (bd 3) = some (cI (K 0) 48 lb) → Mq (bd 4) = some (cI (K 0) 12 (zcp sg oS 12)) → Mq (bd 5) = some (cI (K 0) 48 g) → zq_W D vwCl A s.heap Mq H locs → lv_has ls 2 [(0, .ref o), (1, .int (iI i))] → W p l e ({ frames := 0, cells := 0, slots := 0, locals := 0 } : Room) s m [.ref o].toArray below meth co H locs 0 0 (MQ below (zq_Q D vwCl (zT K) (P_MM_take K M o bd th put wr nn cir oN oC lbs fcs arcs mns kn pS pL sg lb oS oL) A) [.ref o].toArray s 0 0 A) (F0 m 44 ls []) := by
    intro n
    induction n with
    | zero =>
      intro i g Mq H locs ls hi hg hms hfr h_o h_pS h_pL h_sg h_lb h_oS h_oL hw hl
      exact absurd hms (Nat.not_lt_zero _)
    | succ n ih_hL2 =>
      intro i g Mq H locs ls hi hg hms hfr h_o h_pS h_pL h_sg h_lb h_oS h_oL hw hl
      refine lv_iload_n hx hb d_MM_take_44 rfl (lv_at hl 1 rfl) ?_
      refine lv_bipush (v := iI 48) hx hb d_MM_take_45 (by decide) ?_
      refine zq_icmp_ge (tgt := 68) hx hb d_MM_take_47 (by decide) ⟨by omega, by omega⟩ (by decide) (fun hc6 => ?_) (fun hc6 => ?_)
      · have eg : g = zcp lb oL 48 := funext fun z => by rw [hg z, show i = 48 by omega]; rfl
        subst eg
        refine lv_aload_n hx hb d_MM_take_68 rfl (lv_at hl 0 rfl) ?_
        refine lv_aload_n hx hb d_MM_take_69 rfl (lv_at hl 0 rfl) ?_
        refine zq_get hx hb hts i_MM hown hK hw h_o rfl 1 (by decide) (hts _ tw_587) rfl d_MM_take_70 ?_
        refine zq_put (ci := 9) (v := .int (iI put)) (ty := .int) hx hb hts i_MM t_MM t_MM_ok n_MM hown hK hw h_o rfl 5 (by decide) (hts _ tw_591) rfl (by decide +kernel) rfl rfl (Nat.le_of_ble_eq_true rfl) d_MM_take_73 (fun M7 H locs hs ho hw => ?_)
        have h_pS : M7 (bd 0) = some (cI (K 0) 12 pS) := (ho _ (zq_ne h_pS h_o (by simp))).trans h_pS
        have h_pL : M7 (bd 1) = some (cI (K 0) 48 pL) := (ho _ (zq_ne h_pL h_o (by simp))).trans h_pL
        have h_sg : M7 (bd 2) = some (cI (K 0) 12 sg) := (ho _ (zq_ne h_sg h_o (by simp))).trans h_sg
        have h_lb : M7 (bd 3) = some (cI (K 0) 48 lb) := (ho _ (zq_ne h_lb h_o (by simp))).trans h_lb
        have h_oS : M7 (bd 4) = some (cI (K 0) 12 (zcp sg oS 12)) := (ho _ (zq_ne h_oS h_o (by simp))).trans h_oS
        have h_oL : M7 (bd 5) = some (cI (K 0) 48 (zcp lb oL 48)) := (ho _ (zq_ne h_oL h_o (by simp))).trans h_oL
        have h_o : M7 o = some (.inr (9, [.int (iI th), .int (iI put), .int (iI wr), .ref (bd 0), .ref (bd 1), .int (iI put), .int (iI cir), .int (iI nn), .int (iI cir), .ref (bd 2), .ref (bd 3), .ref (bd 4), .ref (bd 5), .int (iI lbs), .ref (bd 6), .ref (bd 7), .ref (bd 8), .int (iI fcs), .ref (bd 9), .int (iI arcs), .ref (bd 10), .ref (bd 11), .ref (bd 12), .ref (bd 13), .int (iI mns), .ref (bd 14), .ref (bd 15), .ref (bd 16), .int (iI kn), .ref (bd 17)])) := hs
        have hfr : ∀ q, q ≠ o → q ≠ (bd 4) → q ≠ (bd 5) → q ≠ (bd 2) → q ≠ (bd 3) → M7 q = M q := fun q g0 g1 g2 g3 g4 => (ho q g0).trans (hfr q g0 g1 g2 g3 g4)
        refine lv_iconst (v := iI 0) hx hb d_MM_take_76 rfl ?_
        refine lv_istore_n (lv' := [(1, .int (iI 0)), (0, .ref o)]) hx hb d_MM_take_77 rfl hl (by decide) rfl (fun ls hl => ?_)
        exact hL3 _ 0 sg M7 _ _ _ ⟨by omega, by omega⟩ (fun z => (if_neg (by omega)).symm) (Nat.lt_succ_self _) hfr h_o h_pS h_pL h_sg h_lb h_oS h_oL hw (lv_sub hl [1, 0] rfl)
      · refine lv_aload_n hx hb d_MM_take_50 rfl (lv_at hl 0 rfl) ?_
        refine zq_get hx hb hts i_MM hown hK hw h_o rfl 12 (by decide) (hts _ tw_598) rfl d_MM_take_51 ?_
        refine lv_iload_n hx hb d_MM_take_54 rfl (lv_at hl 1 rfl) ?_
        refine lv_aload_n hx hb d_MM_take_55 rfl (lv_at hl 0 rfl) ?_
        refine zq_get hx hb hts i_MM hown hK hw h_o rfl 10 (by decide) (hts _ tw_596) rfl d_MM_take_56 ?_
        refine lv_iload_n hx hb d_MM_take_59 rfl (lv_at hl 1 rfl) ?_
        refine zq_iald hx hb hK hw 0 h_lb rfl (by omega) (by omega) (by decide) d_MM_take_60 ?_
        refine zq_iast hx hb hK hw 0 h_oL rfl (by omega) (by omega) (by decide) d_MM_take_61 (fun M8 H locs hs ho hw => ?_)
        have h_o : M8 o = some (.inr (9, [.int (iI th), .int (iI put), .int (iI wr), .ref (bd 0), .ref (bd 1), .int (iI nn), .int (iI cir), .int (iI nn), .int (iI cir), .ref (bd 2), .ref (bd 3), .ref (bd 4), .ref (bd 5), .int (iI lbs), .ref (bd 6), .ref (bd 7), .ref (bd 8), .int (iI fcs), .ref (bd 9), .int (iI arcs), .ref (bd 10), .ref (bd 11), .ref (bd 12), .ref (bd 13), .int (iI mns), .ref (bd 14), .ref (bd 15), .ref (bd 16), .int (iI kn), .ref (bd 17)])) := (ho _ (zq_ne h_o h_oL (by simp))).trans h_o
        have h_pS : M8 (bd 0) = some (cI (K 0) 12 pS) := (ho _ (zbd hbd 0 5)).trans h_pS
        have h_pL : M8 (bd 1) = some (cI (K 0) 48 pL) := (ho _ (zbd hbd 1 5)).trans h_pL
        have h_sg : M8 (bd 2) = some (cI (K 0) 12 sg) := (ho _ (zbd hbd 2 5)).trans h_sg
        have h_lb : M8 (bd 3) = some (cI (K 0) 48 lb) := (ho _ (zbd hbd 3 5)).trans h_lb
        have h_oS : M8 (bd 4) = some (cI (K 0) 12 (zcp sg oS 12)) := (ho _ (zbd hbd 4 5)).trans h_oS
        have h_oL : M8 (bd 5) = some (cI (K 0) 48 (zu g i (lb i))) := hs
        have hfr : ∀ q, q ≠ o → q ≠ (bd 4) → q ≠ (bd 5) → q ≠ (bd 2) → q ≠ (bd 3) → M8 q = M q := fun q g0 g1 g2 g3 g4 => (ho q g2).trans (hfr q g0 g1 g2 g3 g4)
        refine lv_iinc (v := iI (i + 1)) (lv' := [(1, .int (iI (i + 1))), (0, .ref o)]) hx hb d_MM_take_62 hl (k := 1) rfl (iI_add _ _) (by decide) rfl (fun ls hl => ?_)
        refine lv_goto (tgt := 44) hx hb d_MM_take_65 (by decide) ?_
        exact ih_hL2 (i + 1) (zu g i (lb i)) M8 _ _ _ (by omega) (zcp_step hg hi.1) (by omega) hfr h_o h_pS h_pL h_sg h_lb h_oS h_oL hw (lv_sub hl [1, 0] rfl)
  have hL1 : ∀ (n : Nat) (i : Int) (g : Int → Int) (Mq : zq_M) (H : Heap) (locs : List Loc) (ls : Array Slot), (0 ≤ i ∧ i ≤ 12) → (∀ z, g z = if 0 ≤ z ∧ z < i then sg z else oS z) → (12 - i).toNat < n → (∀ q, q ≠ o → q ≠ (bd 4) → q ≠ (bd 5) → q ≠ (bd 2) → q ≠ (bd 3) → Mq q = M q) → Mq o = some (.inr (9, [.int (iI th), .int (iI put), .int (iI wr), .ref (bd 0), .ref (bd 1), .int (iI nn), .int (iI cir), .int (iI nn), .int (iI cir), .ref (bd 2), .ref (bd 3), .ref (bd 4), .ref (bd 5), .int (iI lbs), .ref (bd 6), .ref (bd 7), .ref (bd 8), .int (iI fcs), .ref (bd 9), .int (iI arcs), .ref (bd 10), .ref (bd 11), .ref (bd 12), .ref (bd 13), .int (iI mns), .ref (bd 14), .ref (bd 15), .ref (bd 16), .int (iI kn), .ref (bd 17)])) → Mq (bd 0) = some (cI (K 0) 12 pS) → Mq (bd 1) = some (cI (K 0) 48 pL) → Mq (bd 2) = some (cI (K 0) 12 sg) → Mq (bd 3) = some (cI (K 0) 48 lb) → Mq (bd 4) = some (cI (K 0) 12 g) → Mq (bd 5) = some (cI (K 0) 48 oL) → zq_W D vwCl A s.heap Mq H locs → lv_has ls 2 [(0, .ref o), (1, .int (iI i))] → W p l e ({ frames := 0, cells := 0, slots := 0, locals := 0 } : Room) s m [.ref o].toArray below meth co H locs 0 0 (MQ below (zq_Q D vwCl (zT K) (P_MM_take K M o bd th put wr nn cir oN oC lbs fcs arcs mns kn pS pL sg lb oS oL) A) [.ref o].toArray s 0 0 A) (F0 m 18 ls []) := by
    intro n
    induction n with
    | zero =>
      intro i g Mq H locs ls hi hg hms hfr h_o h_pS h_pL h_sg h_lb h_oS h_oL hw hl
      exact absurd hms (Nat.not_lt_zero _)
    | succ n ih_hL1 =>
      intro i g Mq H locs ls hi hg hms hfr h_o h_pS h_pL h_sg h_lb h_oS h_oL hw hl
      refine lv_iload_n hx hb d_MM_take_18 rfl (lv_at hl 1 rfl) ?_
      refine lv_bipush (v := iI 12) hx hb d_MM_take_19 (by decide) ?_
      refine zq_icmp_ge (tgt := 42) hx hb d_MM_take_21 (by decide) ⟨by omega, by omega⟩ (by decide) (fun hc9 => ?_) (fun hc9 => ?_)
      · have eg : g = zcp sg oS 12 := funext fun z => by rw [hg z, show i = 12 by omega]; rfl
        subst eg
        refine lv_iconst (v := iI 0) hx hb d_MM_take_42 rfl ?_
        refine lv_istore_n (lv' := [(1, .int (iI 0)), (0, .ref o)]) hx hb d_MM_take_43 rfl hl (by decide) rfl (fun ls hl => ?_)
        exact hL2 _ 0 oL Mq _ _ _ ⟨by omega, by omega⟩ (fun z => (if_neg (by omega)).symm) (Nat.lt_succ_self _) hfr h_o h_pS h_pL h_sg h_lb h_oS h_oL hw (lv_sub hl [1, 0] rfl)
      · refine lv_aload_n hx hb d_MM_take_24 rfl (lv_at hl 0 rfl) ?_
        refine zq_get hx hb hts i_MM hown hK hw h_o rfl 11 (by decide) (hts _ tw_597) rfl d_MM_take_25 ?_
        refine lv_iload_n hx hb d_MM_take_28 rfl (lv_at hl 1 rfl) ?_
        refine lv_aload_n hx hb d_MM_take_29 rfl (lv_at hl 0 rfl) ?_
        refine zq_get hx hb hts i_MM hown hK hw h_o rfl 9 (by decide) (hts _ tw_595) rfl d_MM_take_30 ?_
        refine lv_iload_n hx hb d_MM_take_33 rfl (lv_at hl 1 rfl) ?_
        refine zq_iald hx hb hK hw 0 h_sg rfl (by omega) (by omega) (by decide) d_MM_take_34 ?_
        refine zq_iast hx hb hK hw 0 h_oS rfl (by omega) (by omega) (by decide) d_MM_take_35 (fun M10 H locs hs ho hw => ?_)
        have h_o : M10 o = some (.inr (9, [.int (iI th), .int (iI put), .int (iI wr), .ref (bd 0), .ref (bd 1), .int (iI nn), .int (iI cir), .int (iI nn), .int (iI cir), .ref (bd 2), .ref (bd 3), .ref (bd 4), .ref (bd 5), .int (iI lbs), .ref (bd 6), .ref (bd 7), .ref (bd 8), .int (iI fcs), .ref (bd 9), .int (iI arcs), .ref (bd 10), .ref (bd 11), .ref (bd 12), .ref (bd 13), .int (iI mns), .ref (bd 14), .ref (bd 15), .ref (bd 16), .int (iI kn), .ref (bd 17)])) := (ho _ (zq_ne h_o h_oS (by simp))).trans h_o
        have h_pS : M10 (bd 0) = some (cI (K 0) 12 pS) := (ho _ (zbd hbd 0 4)).trans h_pS
        have h_pL : M10 (bd 1) = some (cI (K 0) 48 pL) := (ho _ (zbd hbd 1 4)).trans h_pL
        have h_sg : M10 (bd 2) = some (cI (K 0) 12 sg) := (ho _ (zbd hbd 2 4)).trans h_sg
        have h_lb : M10 (bd 3) = some (cI (K 0) 48 lb) := (ho _ (zbd hbd 3 4)).trans h_lb
        have h_oL : M10 (bd 5) = some (cI (K 0) 48 oL) := (ho _ (Ne.symm (zbd hbd 4 5))).trans h_oL
        have h_oS : M10 (bd 4) = some (cI (K 0) 12 (zu g i (sg i))) := hs
        have hfr : ∀ q, q ≠ o → q ≠ (bd 4) → q ≠ (bd 5) → q ≠ (bd 2) → q ≠ (bd 3) → M10 q = M q := fun q g0 g1 g2 g3 g4 => (ho q g1).trans (hfr q g0 g1 g2 g3 g4)
        refine lv_iinc (v := iI (i + 1)) (lv' := [(1, .int (iI (i + 1))), (0, .ref o)]) hx hb d_MM_take_36 hl (k := 1) rfl (iI_add _ _) (by decide) rfl (fun ls hl => ?_)
        refine lv_goto (tgt := 18) hx hb d_MM_take_39 (by decide) ?_
        exact ih_hL1 (i + 1) (zu g i (sg i)) M10 _ _ _ (by omega) (zcp_step hg hi.1) (by omega) hfr h_o h_pS h_pL h_sg h_lb h_oS h_oL hw (lv_sub hl [1, 0] rfl)
  refine lv_aload_n hx hb d_MM_take_0 rfl (lv_at hl 0 rfl) ?_
  refine lv_aload_n hx hb d_MM_take_1 rfl (lv_at hl 0 rfl) ?_
  refine zq_get hx hb hts i_MM hown hK hw h_o rfl 5 (by decide) (hts _ tw_591) rfl d_MM_take_2 ?_
  refine zq_put (ci := 9) (v := .int (iI nn)) (ty := .int) hx hb hts i_MM t_MM t_MM_ok n_MM hown hK hw h_o rfl 7 (by decide) (hts _ tw_593) rfl (by decide +kernel) rfl rfl (Nat.le_of_ble_eq_true rfl) d_MM_take_5 (fun M11 H locs hs ho hw => ?_)
  have h_pS : M11 (bd 0) = some (cI (K 0) 12 pS) := (ho _ (zq_ne h_pS h_o (by simp))).trans h_pS
  have h_pL : M11 (bd 1) = some (cI (K 0) 48 pL) := (ho _ (zq_ne h_pL h_o (by simp))).trans h_pL
  have h_sg : M11 (bd 2) = some (cI (K 0) 12 sg) := (ho _ (zq_ne h_sg h_o (by simp))).trans h_sg
  have h_lb : M11 (bd 3) = some (cI (K 0) 48 lb) := (ho _ (zq_ne h_lb h_o (by simp))).trans h_lb
  have h_oS : M11 (bd 4) = some (cI (K 0) 12 oS) := (ho _ (zq_ne h_oS h_o (by simp))).trans h_oS
  have h_oL : M11 (bd 5) = some (cI (K 0) 48 oL) := (ho _ (zq_ne h_oL h_o (by simp))).trans h_oL
  have h_o : M11 o = some (.inr (9, [.int (iI th), .int (iI put), .int (iI wr), .ref (bd 0), .ref (bd 1), .int (iI nn), .int (iI cir), .int (iI nn), .int (iI oC), .ref (bd 2), .ref (bd 3), .ref (bd 4), .ref (bd 5), .int (iI lbs), .ref (bd 6), .ref (bd 7), .ref (bd 8), .int (iI fcs), .ref (bd 9), .int (iI arcs), .ref (bd 10), .ref (bd 11), .ref (bd 12), .ref (bd 13), .int (iI mns), .ref (bd 14), .ref (bd 15), .ref (bd 16), .int (iI kn), .ref (bd 17)])) := hs
  have hfr : ∀ q, q ≠ o → q ≠ (bd 4) → q ≠ (bd 5) → q ≠ (bd 2) → q ≠ (bd 3) → M11 q = M q := fun q g0 g1 g2 g3 g4 => (ho q g0).trans (hfr q g0 g1 g2 g3 g4)
  refine lv_aload_n hx hb d_MM_take_8 rfl (lv_at hl 0 rfl) ?_
  refine lv_aload_n hx hb d_MM_take_9 rfl (lv_at hl 0 rfl) ?_
  refine zq_get hx hb hts i_MM hown hK hw h_o rfl 6 (by decide) (hts _ tw_592) rfl d_MM_take_10 ?_
  refine zq_put (ci := 9) (v := .int (iI cir)) (ty := .int) hx hb hts i_MM t_MM t_MM_ok n_MM hown hK hw h_o rfl 8 (by decide) (hts _ tw_594) rfl (by decide +kernel) rfl rfl (Nat.le_of_ble_eq_true rfl) d_MM_take_13 (fun M12 H locs hs ho hw => ?_)
  have h_pS : M12 (bd 0) = some (cI (K 0) 12 pS) := (ho _ (zq_ne h_pS h_o (by simp))).trans h_pS
  have h_pL : M12 (bd 1) = some (cI (K 0) 48 pL) := (ho _ (zq_ne h_pL h_o (by simp))).trans h_pL
  have h_sg : M12 (bd 2) = some (cI (K 0) 12 sg) := (ho _ (zq_ne h_sg h_o (by simp))).trans h_sg
  have h_lb : M12 (bd 3) = some (cI (K 0) 48 lb) := (ho _ (zq_ne h_lb h_o (by simp))).trans h_lb
  have h_oS : M12 (bd 4) = some (cI (K 0) 12 oS) := (ho _ (zq_ne h_oS h_o (by simp))).trans h_oS
  have h_oL : M12 (bd 5) = some (cI (K 0) 48 oL) := (ho _ (zq_ne h_oL h_o (by simp))).trans h_oL
  have h_o : M12 o = some (.inr (9, [.int (iI th), .int (iI put), .int (iI wr), .ref (bd 0), .ref (bd 1), .int (iI nn), .int (iI cir), .int (iI nn), .int (iI cir), .ref (bd 2), .ref (bd 3), .ref (bd 4), .ref (bd 5), .int (iI lbs), .ref (bd 6), .ref (bd 7), .ref (bd 8), .int (iI fcs), .ref (bd 9), .int (iI arcs), .ref (bd 10), .ref (bd 11), .ref (bd 12), .ref (bd 13), .int (iI mns), .ref (bd 14), .ref (bd 15), .ref (bd 16), .int (iI kn), .ref (bd 17)])) := hs
  have hfr : ∀ q, q ≠ o → q ≠ (bd 4) → q ≠ (bd 5) → q ≠ (bd 2) → q ≠ (bd 3) → M12 q = M q := fun q g0 g1 g2 g3 g4 => (ho q g0).trans (hfr q g0 g1 g2 g3 g4)
  refine lv_iconst (v := iI 0) hx hb d_MM_take_16 rfl ?_
  refine lv_istore_n (lv' := [(1, .int (iI 0)), (0, .ref o)]) hx hb d_MM_take_17 rfl hl (by decide) rfl (fun ls hl => ?_)
  exact hL1 _ 0 oS M12 _ _ _ ⟨by omega, by omega⟩ (fun z => (if_neg (by omega)).symm) (Nat.lt_succ_self _) hfr h_o h_pS h_pL h_sg h_lb h_oS h_oL hw (lv_sub hl [1, 0] rfl)
abbrev P_MM_back (K : Nat → ClassId) (M : zq_M) (o : Nat) (bd : Nat → Nat) (th : Int) (put : Int) (wr : Int) (nn : Int) (cir : Int) (oN : Int) (oC : Int) (lbs : Int) (fcs : Int) (arcs : Int) (mns : Int) (kn : Int) (sg : Int → Int) (lb : Int → Int) (oS : Int → Int) (oL : Int → Int) : Option Value → zq_M → Prop := fun v M' => v = none ∧ M' o = some (.inr (9, [.int (iI th), .int (iI put), .int (iI wr), .ref (bd 0), .ref (bd 1), .int (iI oN), .int (iI oC), .int (iI oN), .int (iI oC), .ref (bd 2), .ref (bd 3), .ref (bd 4), .ref (bd 5), .int (iI lbs), .ref (bd 6), .ref (bd 7), .ref (bd 8), .int (iI fcs), .ref (bd 9), .int (iI arcs), .ref (bd 10), .ref (bd 11), .ref (bd 12), .ref (bd 13), .int (iI mns), .ref (bd 14), .ref (bd 15), .ref (bd 16), .int (iI kn), .ref (bd 17)])) ∧ M' (bd 2) = some (cI (K 0) 12 (zcp oS sg 12)) ∧ M' (bd 3) = some (cI (K 0) 48 (zcp oL lb 48)) ∧ ∀ q, q ≠ o → q ≠ (bd 2) → q ≠ (bd 3) → M' q = M q
set_option maxHeartbeats 4000000 in
set_option maxRecDepth 100000 in
theorem c_MM_back (l : Launch) (D : va_G) (K : Nat → ClassId) (M : zq_M) (o : Nat) (bd : Nat → Nat) (th : Int) (put : Int) (wr : Int) (nn : Int) (cir : Int) (oN : Int) (oC : Int) (lbs : Int) (fcs : Int) (arcs : Int) (mns : Int) (kn : Int) (sg : Int → Int) (lb : Int → Int) (oS : Int → Int) (oL : Int → Int) (h_o : M o = some (.inr (9, [.int (iI th), .int (iI put), .int (iI wr), .ref (bd 0), .ref (bd 1), .int (iI nn), .int (iI cir), .int (iI oN), .int (iI oC), .ref (bd 2), .ref (bd 3), .ref (bd 4), .ref (bd 5), .int (iI lbs), .ref (bd 6), .ref (bd 7), .ref (bd 8), .int (iI fcs), .ref (bd 9), .int (iI arcs), .ref (bd 10), .ref (bd 11), .ref (bd 12), .ref (bd 13), .int (iI mns), .ref (bd 14), .ref (bd 15), .ref (bd 16), .int (iI kn), .ref (bd 17)]))) (hbd : ∀ i j, i < 18 → j < 18 → bd i = bd j → i = j) (h_sg : M (bd 2) = some (cI (K 0) 12 sg)) (h_lb : M (bd 3) = some (cI (K 0) 48 lb)) (h_oS : M (bd 4) = some (cI (K 0) 12 oS)) (h_oL : M (bd 5) = some (cI (K 0) 48 oL)) : zq_Met l y_MM_back (.code y_MM_back b_MM_back 2 none :: lw_gd) { frames := 0, cells := 0, slots := 0, locals := 0 } D vwCl (zT K) [.ref o] M (P_MM_back K M o bd th put wr nn cir oN oC lbs fcs arcs mns kn sg lb oS oL) 0 0 := by
  refine zq_start (cc := b_MM_back) (maxL := 2) (ret := none) (by decide) rfl (Nat.le_of_ble_eq_true rfl) ?_
  intro p e s m below meth co A ls hx hb hr hml hts hown hnm hlocks hA hZ hw hl
  have hts : ∀ w ∈ lw_gd, w.before [.ref o].toArray s = true := fun w h => hts w (List.mem_cons_of_mem _ h)
  have hown : s.vm.findClass R_MM = some m.cls := hown
  have hK := hZ.1
  have hl : lv_has ls 2 [(0, .ref o)] := hl
  have hfr : ∀ q, q ≠ o → q ≠ (bd 2) → q ≠ (bd 3) → M q = M q := fun q _ _ _ => rfl
  have hL2 : ∀ (n : Nat) (i : Int) (g : Int → Int) (Mq : zq_M) (H : Heap) (locs : List Loc) (ls : Array Slot), (0 ≤ i ∧ i ≤ 48) → (∀ z, g z = if 0 ≤ z ∧ z < i then oL z else lb z) → (48 - i).toNat < n → (∀ q, q ≠ o → q ≠ (bd 2) → q ≠ (bd 3) → Mq q = M q) → Mq o = some (.inr (9, [.int (iI th), .int (iI put), .int (iI wr), .ref (bd 0), .ref (bd 1), .int (iI oN), .int (iI oC), .int (iI oN), .int (iI oC), .ref (bd 2), .ref (bd 3), .ref (bd 4), .ref (bd 5), .int (iI lbs), .ref (bd 6), .ref (bd 7), .ref (bd 8), .int (iI fcs), .ref (bd 9), .int (iI arcs), .ref (bd 10), .ref (bd 11), .ref (bd 12), .ref (bd 13), .int (iI mns), .ref (bd 14), .ref (bd 15), .ref (bd 16), .int (iI kn), .ref (bd 17)])) → Mq (bd 2) = some (cI (K 0) 12 (zcp oS sg 12)) → Mq (bd 3) = some (cI (K 0) 48 g) → Mq (bd 4) = some (cI (K 0) 12 oS) → Mq (bd 5) = some (cI (K 0) 48 oL) → zq_W D vwCl A s.heap Mq H locs → lv_has ls 2 [(0, .ref o), (1, .int (iI i))] → W p l e ({ frames := 0, cells := 0, slots := 0, locals := 0 } : Room) s m [.ref o].toArray below meth co H locs 0 0 (MQ below (zq_Q D vwCl (zT K) (P_MM_back K M o bd th put wr nn cir oN oC lbs fcs arcs mns kn sg lb oS oL) A) [.ref o].toArray s 0 0 A) (F0 m 44 ls []) := by
    intro n
    induction n with
    | zero =>
      intro i g Mq H locs ls hi hg hms hfr h_o h_sg h_lb h_oS h_oL hw hl
      exact absurd hms (Nat.not_lt_zero _)
    | succ n ih_hL2 =>
      intro i g Mq H locs ls hi hg hms hfr h_o h_sg h_lb h_oS h_oL hw hl
      refine lv_iload_n hx hb d_MM_back_44 rfl (lv_at hl 1 rfl) ?_
      refine lv_bipush (v := iI 48) hx hb d_MM_back_45 (by decide) ?_
      refine zq_icmp_ge (tgt := 68) hx hb d_MM_back_47 (by decide) ⟨by omega, by omega⟩ (by decide) (fun hc1 => ?_) (fun hc1 => ?_)
      · have eg : g = zcp oL lb 48 := funext fun z => by rw [hg z, show i = 48 by omega]; rfl
        subst eg
        exact zq_vret hx hb hr hlocks hZ hw ⟨rfl, h_o, h_sg, h_lb, hfr⟩ d_MM_back_68
      · refine lv_aload_n hx hb d_MM_back_50 rfl (lv_at hl 0 rfl) ?_
        refine zq_get hx hb hts i_MM hown hK hw h_o rfl 10 (by decide) (hts _ tw_596) rfl d_MM_back_51 ?_
        refine lv_iload_n hx hb d_MM_back_54 rfl (lv_at hl 1 rfl) ?_
        refine lv_aload_n hx hb d_MM_back_55 rfl (lv_at hl 0 rfl) ?_
        refine zq_get hx hb hts i_MM hown hK hw h_o rfl 12 (by decide) (hts _ tw_598) rfl d_MM_back_56 ?_
        refine lv_iload_n hx hb d_MM_back_59 rfl (lv_at hl 1 rfl) ?_
        refine zq_iald hx hb hK hw 0 h_oL rfl (by omega) (by omega) (by decide) d_MM_back_60 ?_
        refine zq_iast hx hb hK hw 0 h_lb rfl (by omega) (by omega) (by decide) d_MM_back_61 (fun M2 H locs hs ho hw => ?_)
        have h_o : M2 o = some (.inr (9, [.int (iI th), .int (iI put), .int (iI wr), .ref (bd 0), .ref (bd 1), .int (iI oN), .int (iI oC), .int (iI oN), .int (iI oC), .ref (bd 2), .ref (bd 3), .ref (bd 4), .ref (bd 5), .int (iI lbs), .ref (bd 6), .ref (bd 7), .ref (bd 8), .int (iI fcs), .ref (bd 9), .int (iI arcs), .ref (bd 10), .ref (bd 11), .ref (bd 12), .ref (bd 13), .int (iI mns), .ref (bd 14), .ref (bd 15), .ref (bd 16), .int (iI kn), .ref (bd 17)])) := (ho _ (zq_ne h_o h_lb (by simp))).trans h_o
        have h_sg : M2 (bd 2) = some (cI (K 0) 12 (zcp oS sg 12)) := (ho _ (zbd hbd 2 3)).trans h_sg
        have h_oS : M2 (bd 4) = some (cI (K 0) 12 oS) := (ho _ (Ne.symm (zbd hbd 3 4))).trans h_oS
        have h_oL : M2 (bd 5) = some (cI (K 0) 48 oL) := (ho _ (Ne.symm (zbd hbd 3 5))).trans h_oL
        have h_lb : M2 (bd 3) = some (cI (K 0) 48 (zu g i (oL i))) := hs
        have hfr : ∀ q, q ≠ o → q ≠ (bd 2) → q ≠ (bd 3) → M2 q = M q := fun q g0 g1 g2 => (ho q g2).trans (hfr q g0 g1 g2)
        refine lv_iinc (v := iI (i + 1)) (lv' := [(1, .int (iI (i + 1))), (0, .ref o)]) hx hb d_MM_back_62 hl (k := 1) rfl (iI_add _ _) (by decide) rfl (fun ls hl => ?_)
        refine lv_goto (tgt := 44) hx hb d_MM_back_65 (by decide) ?_
        exact ih_hL2 (i + 1) (zu g i (oL i)) M2 _ _ _ (by omega) (zcp_step hg hi.1) (by omega) hfr h_o h_sg h_lb h_oS h_oL hw (lv_sub hl [1, 0] rfl)
  have hL1 : ∀ (n : Nat) (i : Int) (g : Int → Int) (Mq : zq_M) (H : Heap) (locs : List Loc) (ls : Array Slot), (0 ≤ i ∧ i ≤ 12) → (∀ z, g z = if 0 ≤ z ∧ z < i then oS z else sg z) → (12 - i).toNat < n → (∀ q, q ≠ o → q ≠ (bd 2) → q ≠ (bd 3) → Mq q = M q) → Mq o = some (.inr (9, [.int (iI th), .int (iI put), .int (iI wr), .ref (bd 0), .ref (bd 1), .int (iI oN), .int (iI oC), .int (iI oN), .int (iI oC), .ref (bd 2), .ref (bd 3), .ref (bd 4), .ref (bd 5), .int (iI lbs), .ref (bd 6), .ref (bd 7), .ref (bd 8), .int (iI fcs), .ref (bd 9), .int (iI arcs), .ref (bd 10), .ref (bd 11), .ref (bd 12), .ref (bd 13), .int (iI mns), .ref (bd 14), .ref (bd 15), .ref (bd 16), .int (iI kn), .ref (bd 17)])) → Mq (bd 2) = some (cI (K 0) 12 g) → Mq (bd 3) = some (cI (K 0) 48 lb) → Mq (bd 4) = some (cI (K 0) 12 oS) → Mq (bd 5) = some (cI (K 0) 48 oL) → zq_W D vwCl A s.heap Mq H locs → lv_has ls 2 [(0, .ref o), (1, .int (iI i))] → W p l e ({ frames := 0, cells := 0, slots := 0, locals := 0 } : Room) s m [.ref o].toArray below meth co H locs 0 0 (MQ below (zq_Q D vwCl (zT K) (P_MM_back K M o bd th put wr nn cir oN oC lbs fcs arcs mns kn sg lb oS oL) A) [.ref o].toArray s 0 0 A) (F0 m 18 ls []) := by
    intro n
    induction n with
    | zero =>
      intro i g Mq H locs ls hi hg hms hfr h_o h_sg h_lb h_oS h_oL hw hl
      exact absurd hms (Nat.not_lt_zero _)
    | succ n ih_hL1 =>
      intro i g Mq H locs ls hi hg hms hfr h_o h_sg h_lb h_oS h_oL hw hl
      refine lv_iload_n hx hb d_MM_back_18 rfl (lv_at hl 1 rfl) ?_
      refine lv_bipush (v := iI 12) hx hb d_MM_back_19 (by decide) ?_
      refine zq_icmp_ge (tgt := 42) hx hb d_MM_back_21 (by decide) ⟨by omega, by omega⟩ (by decide) (fun hc3 => ?_) (fun hc3 => ?_)
      · have eg : g = zcp oS sg 12 := funext fun z => by rw [hg z, show i = 12 by omega]; rfl
        subst eg
        refine lv_iconst (v := iI 0) hx hb d_MM_back_42 rfl ?_
        refine lv_istore_n (lv' := [(1, .int (iI 0)), (0, .ref o)]) hx hb d_MM_back_43 rfl hl (by decide) rfl (fun ls hl => ?_)
        exact hL2 _ 0 lb Mq _ _ _ ⟨by omega, by omega⟩ (fun z => (if_neg (by omega)).symm) (Nat.lt_succ_self _) hfr h_o h_sg h_lb h_oS h_oL hw (lv_sub hl [1, 0] rfl)
      · refine lv_aload_n hx hb d_MM_back_24 rfl (lv_at hl 0 rfl) ?_
        refine zq_get hx hb hts i_MM hown hK hw h_o rfl 9 (by decide) (hts _ tw_595) rfl d_MM_back_25 ?_
        refine lv_iload_n hx hb d_MM_back_28 rfl (lv_at hl 1 rfl) ?_
        refine lv_aload_n hx hb d_MM_back_29 rfl (lv_at hl 0 rfl) ?_
        refine zq_get hx hb hts i_MM hown hK hw h_o rfl 11 (by decide) (hts _ tw_597) rfl d_MM_back_30 ?_
        refine lv_iload_n hx hb d_MM_back_33 rfl (lv_at hl 1 rfl) ?_
        refine zq_iald hx hb hK hw 0 h_oS rfl (by omega) (by omega) (by decide) d_MM_back_34 ?_
        refine zq_iast hx hb hK hw 0 h_sg rfl (by omega) (by omega) (by decide) d_MM_back_35 (fun M4 H locs hs ho hw => ?_)
        have h_o : M4 o = some (.inr (9, [.int (iI th), .int (iI put), .int (iI wr), .ref (bd 0), .ref (bd 1), .int (iI oN), .int (iI oC), .int (iI oN), .int (iI oC), .ref (bd 2), .ref (bd 3), .ref (bd 4), .ref (bd 5), .int (iI lbs), .ref (bd 6), .ref (bd 7), .ref (bd 8), .int (iI fcs), .ref (bd 9), .int (iI arcs), .ref (bd 10), .ref (bd 11), .ref (bd 12), .ref (bd 13), .int (iI mns), .ref (bd 14), .ref (bd 15), .ref (bd 16), .int (iI kn), .ref (bd 17)])) := (ho _ (zq_ne h_o h_sg (by simp))).trans h_o
        have h_lb : M4 (bd 3) = some (cI (K 0) 48 lb) := (ho _ (Ne.symm (zbd hbd 2 3))).trans h_lb
        have h_oS : M4 (bd 4) = some (cI (K 0) 12 oS) := (ho _ (Ne.symm (zbd hbd 2 4))).trans h_oS
        have h_oL : M4 (bd 5) = some (cI (K 0) 48 oL) := (ho _ (Ne.symm (zbd hbd 2 5))).trans h_oL
        have h_sg : M4 (bd 2) = some (cI (K 0) 12 (zu g i (oS i))) := hs
        have hfr : ∀ q, q ≠ o → q ≠ (bd 2) → q ≠ (bd 3) → M4 q = M q := fun q g0 g1 g2 => (ho q g1).trans (hfr q g0 g1 g2)
        refine lv_iinc (v := iI (i + 1)) (lv' := [(1, .int (iI (i + 1))), (0, .ref o)]) hx hb d_MM_back_36 hl (k := 1) rfl (iI_add _ _) (by decide) rfl (fun ls hl => ?_)
        refine lv_goto (tgt := 18) hx hb d_MM_back_39 (by decide) ?_
        exact ih_hL1 (i + 1) (zu g i (oS i)) M4 _ _ _ (by omega) (zcp_step hg hi.1) (by omega) hfr h_o h_sg h_lb h_oS h_oL hw (lv_sub hl [1, 0] rfl)
  refine lv_aload_n hx hb d_MM_back_0 rfl (lv_at hl 0 rfl) ?_
  refine lv_aload_n hx hb d_MM_back_1 rfl (lv_at hl 0 rfl) ?_
  refine zq_get hx hb hts i_MM hown hK hw h_o rfl 7 (by decide) (hts _ tw_593) rfl d_MM_back_2 ?_
  refine zq_put (ci := 9) (v := .int (iI oN)) (ty := .int) hx hb hts i_MM t_MM t_MM_ok n_MM hown hK hw h_o rfl 5 (by decide) (hts _ tw_591) rfl (by decide +kernel) rfl rfl (Nat.le_of_ble_eq_true rfl) d_MM_back_5 (fun M5 H locs hs ho hw => ?_)
  have h_sg : M5 (bd 2) = some (cI (K 0) 12 sg) := (ho _ (zq_ne h_sg h_o (by simp))).trans h_sg
  have h_lb : M5 (bd 3) = some (cI (K 0) 48 lb) := (ho _ (zq_ne h_lb h_o (by simp))).trans h_lb
  have h_oS : M5 (bd 4) = some (cI (K 0) 12 oS) := (ho _ (zq_ne h_oS h_o (by simp))).trans h_oS
  have h_oL : M5 (bd 5) = some (cI (K 0) 48 oL) := (ho _ (zq_ne h_oL h_o (by simp))).trans h_oL
  have h_o : M5 o = some (.inr (9, [.int (iI th), .int (iI put), .int (iI wr), .ref (bd 0), .ref (bd 1), .int (iI oN), .int (iI cir), .int (iI oN), .int (iI oC), .ref (bd 2), .ref (bd 3), .ref (bd 4), .ref (bd 5), .int (iI lbs), .ref (bd 6), .ref (bd 7), .ref (bd 8), .int (iI fcs), .ref (bd 9), .int (iI arcs), .ref (bd 10), .ref (bd 11), .ref (bd 12), .ref (bd 13), .int (iI mns), .ref (bd 14), .ref (bd 15), .ref (bd 16), .int (iI kn), .ref (bd 17)])) := hs
  have hfr : ∀ q, q ≠ o → q ≠ (bd 2) → q ≠ (bd 3) → M5 q = M q := fun q g0 g1 g2 => (ho q g0).trans (hfr q g0 g1 g2)
  refine lv_aload_n hx hb d_MM_back_8 rfl (lv_at hl 0 rfl) ?_
  refine lv_aload_n hx hb d_MM_back_9 rfl (lv_at hl 0 rfl) ?_
  refine zq_get hx hb hts i_MM hown hK hw h_o rfl 8 (by decide) (hts _ tw_594) rfl d_MM_back_10 ?_
  refine zq_put (ci := 9) (v := .int (iI oC)) (ty := .int) hx hb hts i_MM t_MM t_MM_ok n_MM hown hK hw h_o rfl 6 (by decide) (hts _ tw_592) rfl (by decide +kernel) rfl rfl (Nat.le_of_ble_eq_true rfl) d_MM_back_13 (fun M6 H locs hs ho hw => ?_)
  have h_sg : M6 (bd 2) = some (cI (K 0) 12 sg) := (ho _ (zq_ne h_sg h_o (by simp))).trans h_sg
  have h_lb : M6 (bd 3) = some (cI (K 0) 48 lb) := (ho _ (zq_ne h_lb h_o (by simp))).trans h_lb
  have h_oS : M6 (bd 4) = some (cI (K 0) 12 oS) := (ho _ (zq_ne h_oS h_o (by simp))).trans h_oS
  have h_oL : M6 (bd 5) = some (cI (K 0) 48 oL) := (ho _ (zq_ne h_oL h_o (by simp))).trans h_oL
  have h_o : M6 o = some (.inr (9, [.int (iI th), .int (iI put), .int (iI wr), .ref (bd 0), .ref (bd 1), .int (iI oN), .int (iI oC), .int (iI oN), .int (iI oC), .ref (bd 2), .ref (bd 3), .ref (bd 4), .ref (bd 5), .int (iI lbs), .ref (bd 6), .ref (bd 7), .ref (bd 8), .int (iI fcs), .ref (bd 9), .int (iI arcs), .ref (bd 10), .ref (bd 11), .ref (bd 12), .ref (bd 13), .int (iI mns), .ref (bd 14), .ref (bd 15), .ref (bd 16), .int (iI kn), .ref (bd 17)])) := hs
  have hfr : ∀ q, q ≠ o → q ≠ (bd 2) → q ≠ (bd 3) → M6 q = M q := fun q g0 g1 g2 => (ho q g0).trans (hfr q g0 g1 g2)
  refine lv_iconst (v := iI 0) hx hb d_MM_back_16 rfl ?_
  refine lv_istore_n (lv' := [(1, .int (iI 0)), (0, .ref o)]) hx hb d_MM_back_17 rfl hl (by decide) rfl (fun ls hl => ?_)
  exact hL1 _ 0 sg M6 _ _ _ ⟨by omega, by omega⟩ (fun z => (if_neg (by omega)).symm) (Nat.lt_succ_self _) hfr h_o h_sg h_lb h_oS h_oL hw (lv_sub hl [1, 0] rfl)
abbrev P_MM_crossing (K : Nat → ClassId) (M : zq_M) (o : Nat) (bd : Nat → Nat) (put : Int) (pS : Int → Int) (pL : Int → Int) (nn : Int) (cir : Int) (sg : Int → Int) (lb : Int → Int) (kn : Int) (arcs : Int) (al : Int → Int) (on : Int → Int) (tw : Int → Int) (mns : Int) (av : Int → Int) (po : Int → Int) (s0 : Int) (l0 : Int) (l1 : Int) (l2 : Int) (l3 : Int) : Option Value → zq_M → Prop := fun v M' => ∃ r, v = some (.int (iI r)) ∧ ((¬ (((s0 = 1 ∨ s0 = -1) ∧ (1 ≤ l0 ∧ l0 ≤ 9999) ∧ (1 ≤ l1 ∧ l1 ≤ 9999) ∧ (1 ≤ l2 ∧ l2 ≤ 9999) ∧ 1 ≤ l3 ∧ l3 ≤ 9999) ∧ put < 12) ∧ r = -1 ∧ M' = M) ∨ (((s0 = 1 ∨ s0 = -1) ∧ (1 ≤ l0 ∧ l0 ≤ 9999) ∧ (1 ≤ l1 ∧ l1 ≤ 9999) ∧ (1 ≤ l2 ∧ l2 ≤ 9999) ∧ 1 ≤ l3 ∧ l3 ≤ 9999) ∧ put < 12 ∧ r = put + 1 ∧ zMK K M' o bd (put + 1) (zu pS put s0) (zw4 pL put l0 l1 l2 l3) nn cir sg lb kn arcs al on tw mns av po ∧ ∀ q, q ≠ o → (∀ i, i < 18 → q ≠ bd i) → M' q = M q))
set_option maxHeartbeats 4000000 in
set_option maxRecDepth 100000 in
theorem c_MM_crossing (l : Launch) (D : va_G) (K : Nat → ClassId) (M : zq_M) (o : Nat) (bd : Nat → Nat) (put : Int) (pS : Int → Int) (pL : Int → Int) (nn : Int) (cir : Int) (sg : Int → Int) (lb : Int → Int) (kn : Int) (arcs : Int) (al : Int → Int) (on : Int → Int) (tw : Int → Int) (mns : Int) (av : Int → Int) (po : Int → Int) (s0 : Int) (l0 : Int) (l1 : Int) (l2 : Int) (l3 : Int) (hS : zMK K M o bd put pS pL nn cir sg lb kn arcs al on tw mns av po) (hput : 0 ≤ put ∧ put ≤ 12) (hs0 : inI s0) (hl0 : inI l0) (hl1 : inI l1) (hl2 : inI l2) (hl3 : inI l3) : zq_Met l y_MM_crossing (.code y_MM_crossing b_MM_crossing 7 (some .int) :: lw_gd) { frames := 0, cells := 0, slots := 0, locals := 0 } D vwCl (zT K) [.ref o, .int (iI s0), .int (iI l0), .int (iI l1), .int (iI l2), .int (iI l3)] M (P_MM_crossing K M o bd put pS pL nn cir sg lb kn arcs al on tw mns av po s0 l0 l1 l2 l3) 0 0 := by
  refine zq_start (cc := b_MM_crossing) (maxL := 7) (ret := (some .int)) (by decide) rfl (Nat.le_of_ble_eq_true rfl) ?_
  intro p e s m below meth co A ls hx hb hr hml hts hown hnm hlocks hA hZ hw hl
  have hts : ∀ w ∈ lw_gd, w.before [.ref o, .int (iI s0), .int (iI l0), .int (iI l1), .int (iI l2), .int (iI l3)].toArray s = true := fun w h => hts w (List.mem_cons_of_mem _ h)
  have hown : s.vm.findClass R_MM = some m.cls := hown
  have hK := hZ.1
  have hl : lv_has ls 7 [(0, .ref o), (1, .int (iI s0)), (2, .int (iI l0)), (3, .int (iI l1)), (4, .int (iI l2)), (5, .int (iI l3))] := hl
  have hfr : ∀ q, q ≠ o → (∀ i, i < 18 → q ≠ bd i) → M q = M q := fun q _ _ => rfl
  obtain ⟨th, wr, oN, oC, lbs, fcs, oS, oL, rw, fr, pi, fo, sm, le, gd, h_o, hbd, h_pS, h_pL, h_sg, h_lb, h_oS, h_oL, h_rw, h_fr, h_pi, h_fo, h_al, h_on, h_tw, h_sm, h_av, h_po, h_le, h_gd, hrg⟩ := hS
  have hpS : ∀ j, inI (pS j) := fun j => (hrg j).1
  have hpL : ∀ j, inI (pL j) := fun j => (hrg j).2.1
  have hsg : ∀ j, inI (sg j) := fun j => (hrg j).2.2.1
  have hlb : ∀ j, inI (lb j) := fun j => (hrg j).2.2.2.1
  have hoS : ∀ j, inI (oS j) := fun j => (hrg j).2.2.2.2.1
  have hoL : ∀ j, inI (oL j) := fun j => (hrg j).2.2.2.2.2.1
  have hrw : ∀ j, inI (rw j) := fun j => (hrg j).2.2.2.2.2.2.1
  have hfo : ∀ j, inI (fo j) := fun j => (hrg j).2.2.2.2.2.2.2.1
  have hal : ∀ j, inI (al j) := fun j => (hrg j).2.2.2.2.2.2.2.2
  refine lv_iload_n hx hb d_MM_crossing_0 rfl (lv_at hl 2 rfl) ?_
  refine zq_if_le (tgt := 52) hx hb d_MM_crossing_1 (by decide) hl0 (fun hc1 => ?_) (fun hc1 => ?_)
  · refine lv_iconst (v := iI 0) hx hb d_MM_crossing_52 rfl ?_
    refine lv_istore (lv' := [(6, .int (iI 0)), (0, .ref o), (1, .int (iI s0)), (2, .int (iI l0)), (3, .int (iI l1)), (4, .int (iI l2)), (5, .int (iI l3))]) hx hb d_MM_crossing_53 hl (by decide) rfl (fun ls hl => ?_)
    refine lv_iload_n hx hb d_MM_crossing_55 rfl (lv_at hl 2 rfl) ?_
    refine lv_iconst (v := iI 1) hx hb d_MM_crossing_56 rfl ?_
    refine zq_icmp_eq (tgt := 65) hx hb d_MM_crossing_57 (by decide) hs0 (by decide) (fun hc2 => ?_) (fun hc2 => ?_)
    · refine lv_iload hx hb d_MM_crossing_65 (lv_at hl 0 rfl) ?_
      refine zq_if_eq (tgt := 79) hx hb d_MM_crossing_67 (by decide) (by decide) (fun hc3 => ?_) (fun hc3 => ?_)
      · refine lv_iconst (v := iI (-1)) hx hb d_MM_crossing_79 rfl ?_
        exact zq_iret hx hb hr hlocks hZ hw ⟨-1, rfl, Or.inl ⟨by omega, rfl, rfl⟩⟩ d_MM_crossing_80
      · exact absurd hc3 (by decide)
    · refine lv_iload_n hx hb d_MM_crossing_60 rfl (lv_at hl 2 rfl) ?_
      refine lv_iconst (v := iI (-1)) hx hb d_MM_crossing_61 rfl ?_
      refine zq_icmp_ne (tgt := 79) hx hb d_MM_crossing_62 (by decide) hs0 (by decide) (fun hc4 => ?_) (fun hc4 => ?_)
      · refine lv_iconst (v := iI (-1)) hx hb d_MM_crossing_79 rfl ?_
        exact zq_iret hx hb hr hlocks hZ hw ⟨-1, rfl, Or.inl ⟨by omega, rfl, rfl⟩⟩ d_MM_crossing_80
      · refine lv_iload hx hb d_MM_crossing_65 (lv_at hl 0 rfl) ?_
        refine zq_if_eq (tgt := 79) hx hb d_MM_crossing_67 (by decide) (by decide) (fun hc5 => ?_) (fun hc5 => ?_)
        · refine lv_iconst (v := iI (-1)) hx hb d_MM_crossing_79 rfl ?_
          exact zq_iret hx hb hr hlocks hZ hw ⟨-1, rfl, Or.inl ⟨by omega, rfl, rfl⟩⟩ d_MM_crossing_80
        · exact absurd hc5 (by decide)
  · refine lv_iload_n hx hb d_MM_crossing_4 rfl (lv_at hl 3 rfl) ?_
    refine zq_if_le (tgt := 52) hx hb d_MM_crossing_5 (by decide) hl1 (fun hc6 => ?_) (fun hc6 => ?_)
    · refine lv_iconst (v := iI 0) hx hb d_MM_crossing_52 rfl ?_
      refine lv_istore (lv' := [(6, .int (iI 0)), (0, .ref o), (1, .int (iI s0)), (2, .int (iI l0)), (3, .int (iI l1)), (4, .int (iI l2)), (5, .int (iI l3))]) hx hb d_MM_crossing_53 hl (by decide) rfl (fun ls hl => ?_)
      refine lv_iload_n hx hb d_MM_crossing_55 rfl (lv_at hl 2 rfl) ?_
      refine lv_iconst (v := iI 1) hx hb d_MM_crossing_56 rfl ?_
      refine zq_icmp_eq (tgt := 65) hx hb d_MM_crossing_57 (by decide) hs0 (by decide) (fun hc7 => ?_) (fun hc7 => ?_)
      · refine lv_iload hx hb d_MM_crossing_65 (lv_at hl 0 rfl) ?_
        refine zq_if_eq (tgt := 79) hx hb d_MM_crossing_67 (by decide) (by decide) (fun hc8 => ?_) (fun hc8 => ?_)
        · refine lv_iconst (v := iI (-1)) hx hb d_MM_crossing_79 rfl ?_
          exact zq_iret hx hb hr hlocks hZ hw ⟨-1, rfl, Or.inl ⟨by omega, rfl, rfl⟩⟩ d_MM_crossing_80
        · exact absurd hc8 (by decide)
      · refine lv_iload_n hx hb d_MM_crossing_60 rfl (lv_at hl 2 rfl) ?_
        refine lv_iconst (v := iI (-1)) hx hb d_MM_crossing_61 rfl ?_
        refine zq_icmp_ne (tgt := 79) hx hb d_MM_crossing_62 (by decide) hs0 (by decide) (fun hc9 => ?_) (fun hc9 => ?_)
        · refine lv_iconst (v := iI (-1)) hx hb d_MM_crossing_79 rfl ?_
          exact zq_iret hx hb hr hlocks hZ hw ⟨-1, rfl, Or.inl ⟨by omega, rfl, rfl⟩⟩ d_MM_crossing_80
        · refine lv_iload hx hb d_MM_crossing_65 (lv_at hl 0 rfl) ?_
          refine zq_if_eq (tgt := 79) hx hb d_MM_crossing_67 (by decide) (by decide) (fun hc10 => ?_) (fun hc10 => ?_)
          · refine lv_iconst (v := iI (-1)) hx hb d_MM_crossing_79 rfl ?_
            exact zq_iret hx hb hr hlocks hZ hw ⟨-1, rfl, Or.inl ⟨by omega, rfl, rfl⟩⟩ d_MM_crossing_80
          · exact absurd hc10 (by decide)
    · refine lv_iload hx hb d_MM_crossing_8 (lv_at hl 4 rfl) ?_
      refine zq_if_le (tgt := 52) hx hb d_MM_crossing_10 (by decide) hl2 (fun hc11 => ?_) (fun hc11 => ?_)
      · refine lv_iconst (v := iI 0) hx hb d_MM_crossing_52 rfl ?_
        refine lv_istore (lv' := [(6, .int (iI 0)), (0, .ref o), (1, .int (iI s0)), (2, .int (iI l0)), (3, .int (iI l1)), (4, .int (iI l2)), (5, .int (iI l3))]) hx hb d_MM_crossing_53 hl (by decide) rfl (fun ls hl => ?_)
        refine lv_iload_n hx hb d_MM_crossing_55 rfl (lv_at hl 2 rfl) ?_
        refine lv_iconst (v := iI 1) hx hb d_MM_crossing_56 rfl ?_
        refine zq_icmp_eq (tgt := 65) hx hb d_MM_crossing_57 (by decide) hs0 (by decide) (fun hc12 => ?_) (fun hc12 => ?_)
        · refine lv_iload hx hb d_MM_crossing_65 (lv_at hl 0 rfl) ?_
          refine zq_if_eq (tgt := 79) hx hb d_MM_crossing_67 (by decide) (by decide) (fun hc13 => ?_) (fun hc13 => ?_)
          · refine lv_iconst (v := iI (-1)) hx hb d_MM_crossing_79 rfl ?_
            exact zq_iret hx hb hr hlocks hZ hw ⟨-1, rfl, Or.inl ⟨by omega, rfl, rfl⟩⟩ d_MM_crossing_80
          · exact absurd hc13 (by decide)
        · refine lv_iload_n hx hb d_MM_crossing_60 rfl (lv_at hl 2 rfl) ?_
          refine lv_iconst (v := iI (-1)) hx hb d_MM_crossing_61 rfl ?_
          refine zq_icmp_ne (tgt := 79) hx hb d_MM_crossing_62 (by decide) hs0 (by decide) (fun hc14 => ?_) (fun hc14 => ?_)
          · refine lv_iconst (v := iI (-1)) hx hb d_MM_crossing_79 rfl ?_
            exact zq_iret hx hb hr hlocks hZ hw ⟨-1, rfl, Or.inl ⟨by omega, rfl, rfl⟩⟩ d_MM_crossing_80
          · refine lv_iload hx hb d_MM_crossing_65 (lv_at hl 0 rfl) ?_
            refine zq_if_eq (tgt := 79) hx hb d_MM_crossing_67 (by decide) (by decide) (fun hc15 => ?_) (fun hc15 => ?_)
            · refine lv_iconst (v := iI (-1)) hx hb d_MM_crossing_79 rfl ?_
              exact zq_iret hx hb hr hlocks hZ hw ⟨-1, rfl, Or.inl ⟨by omega, rfl, rfl⟩⟩ d_MM_crossing_80
            · exact absurd hc15 (by decide)
      · refine lv_iload hx hb d_MM_crossing_13 (lv_at hl 5 rfl) ?_
        refine zq_if_le (tgt := 52) hx hb d_MM_crossing_15 (by decide) hl3 (fun hc16 => ?_) (fun hc16 => ?_)
        · refine lv_iconst (v := iI 0) hx hb d_MM_crossing_52 rfl ?_
          refine lv_istore (lv' := [(6, .int (iI 0)), (0, .ref o), (1, .int (iI s0)), (2, .int (iI l0)), (3, .int (iI l1)), (4, .int (iI l2)), (5, .int (iI l3))]) hx hb d_MM_crossing_53 hl (by decide) rfl (fun ls hl => ?_)
          refine lv_iload_n hx hb d_MM_crossing_55 rfl (lv_at hl 2 rfl) ?_
          refine lv_iconst (v := iI 1) hx hb d_MM_crossing_56 rfl ?_
          refine zq_icmp_eq (tgt := 65) hx hb d_MM_crossing_57 (by decide) hs0 (by decide) (fun hc17 => ?_) (fun hc17 => ?_)
          · refine lv_iload hx hb d_MM_crossing_65 (lv_at hl 0 rfl) ?_
            refine zq_if_eq (tgt := 79) hx hb d_MM_crossing_67 (by decide) (by decide) (fun hc18 => ?_) (fun hc18 => ?_)
            · refine lv_iconst (v := iI (-1)) hx hb d_MM_crossing_79 rfl ?_
              exact zq_iret hx hb hr hlocks hZ hw ⟨-1, rfl, Or.inl ⟨by omega, rfl, rfl⟩⟩ d_MM_crossing_80
            · exact absurd hc18 (by decide)
          · refine lv_iload_n hx hb d_MM_crossing_60 rfl (lv_at hl 2 rfl) ?_
            refine lv_iconst (v := iI (-1)) hx hb d_MM_crossing_61 rfl ?_
            refine zq_icmp_ne (tgt := 79) hx hb d_MM_crossing_62 (by decide) hs0 (by decide) (fun hc19 => ?_) (fun hc19 => ?_)
            · refine lv_iconst (v := iI (-1)) hx hb d_MM_crossing_79 rfl ?_
              exact zq_iret hx hb hr hlocks hZ hw ⟨-1, rfl, Or.inl ⟨by omega, rfl, rfl⟩⟩ d_MM_crossing_80
            · refine lv_iload hx hb d_MM_crossing_65 (lv_at hl 0 rfl) ?_
              refine zq_if_eq (tgt := 79) hx hb d_MM_crossing_67 (by decide) (by decide) (fun hc20 => ?_) (fun hc20 => ?_)
              · refine lv_iconst (v := iI (-1)) hx hb d_MM_crossing_79 rfl ?_
                exact zq_iret hx hb hr hlocks hZ hw ⟨-1, rfl, Or.inl ⟨by omega, rfl, rfl⟩⟩ d_MM_crossing_80
              · exact absurd hc20 (by decide)
        · refine lv_iload_n hx hb d_MM_crossing_18 rfl (lv_at hl 2 rfl) ?_
          refine lv_sipush (v := iI 10000) hx hb d_MM_crossing_19 (by decide) ?_
          refine zq_icmp_ge (tgt := 52) hx hb d_MM_crossing_22 (by decide) hl0 (by decide) (fun hc21 => ?_) (fun hc21 => ?_)
          · refine lv_iconst (v := iI 0) hx hb d_MM_crossing_52 rfl ?_
            refine lv_istore (lv' := [(6, .int (iI 0)), (0, .ref o), (1, .int (iI s0)), (2, .int (iI l0)), (3, .int (iI l1)), (4, .int (iI l2)), (5, .int (iI l3))]) hx hb d_MM_crossing_53 hl (by decide) rfl (fun ls hl => ?_)
            refine lv_iload_n hx hb d_MM_crossing_55 rfl (lv_at hl 2 rfl) ?_
            refine lv_iconst (v := iI 1) hx hb d_MM_crossing_56 rfl ?_
            refine zq_icmp_eq (tgt := 65) hx hb d_MM_crossing_57 (by decide) hs0 (by decide) (fun hc22 => ?_) (fun hc22 => ?_)
            · refine lv_iload hx hb d_MM_crossing_65 (lv_at hl 0 rfl) ?_
              refine zq_if_eq (tgt := 79) hx hb d_MM_crossing_67 (by decide) (by decide) (fun hc23 => ?_) (fun hc23 => ?_)
              · refine lv_iconst (v := iI (-1)) hx hb d_MM_crossing_79 rfl ?_
                exact zq_iret hx hb hr hlocks hZ hw ⟨-1, rfl, Or.inl ⟨by omega, rfl, rfl⟩⟩ d_MM_crossing_80
              · exact absurd hc23 (by decide)
            · refine lv_iload_n hx hb d_MM_crossing_60 rfl (lv_at hl 2 rfl) ?_
              refine lv_iconst (v := iI (-1)) hx hb d_MM_crossing_61 rfl ?_
              refine zq_icmp_ne (tgt := 79) hx hb d_MM_crossing_62 (by decide) hs0 (by decide) (fun hc24 => ?_) (fun hc24 => ?_)
              · refine lv_iconst (v := iI (-1)) hx hb d_MM_crossing_79 rfl ?_
                exact zq_iret hx hb hr hlocks hZ hw ⟨-1, rfl, Or.inl ⟨by omega, rfl, rfl⟩⟩ d_MM_crossing_80
              · refine lv_iload hx hb d_MM_crossing_65 (lv_at hl 0 rfl) ?_
                refine zq_if_eq (tgt := 79) hx hb d_MM_crossing_67 (by decide) (by decide) (fun hc25 => ?_) (fun hc25 => ?_)
                · refine lv_iconst (v := iI (-1)) hx hb d_MM_crossing_79 rfl ?_
                  exact zq_iret hx hb hr hlocks hZ hw ⟨-1, rfl, Or.inl ⟨by omega, rfl, rfl⟩⟩ d_MM_crossing_80
                · exact absurd hc25 (by decide)
          · refine lv_iload_n hx hb d_MM_crossing_25 rfl (lv_at hl 3 rfl) ?_
            refine lv_sipush (v := iI 10000) hx hb d_MM_crossing_26 (by decide) ?_
            refine zq_icmp_ge (tgt := 52) hx hb d_MM_crossing_29 (by decide) hl1 (by decide) (fun hc26 => ?_) (fun hc26 => ?_)
            · refine lv_iconst (v := iI 0) hx hb d_MM_crossing_52 rfl ?_
              refine lv_istore (lv' := [(6, .int (iI 0)), (0, .ref o), (1, .int (iI s0)), (2, .int (iI l0)), (3, .int (iI l1)), (4, .int (iI l2)), (5, .int (iI l3))]) hx hb d_MM_crossing_53 hl (by decide) rfl (fun ls hl => ?_)
              refine lv_iload_n hx hb d_MM_crossing_55 rfl (lv_at hl 2 rfl) ?_
              refine lv_iconst (v := iI 1) hx hb d_MM_crossing_56 rfl ?_
              refine zq_icmp_eq (tgt := 65) hx hb d_MM_crossing_57 (by decide) hs0 (by decide) (fun hc27 => ?_) (fun hc27 => ?_)
              · refine lv_iload hx hb d_MM_crossing_65 (lv_at hl 0 rfl) ?_
                refine zq_if_eq (tgt := 79) hx hb d_MM_crossing_67 (by decide) (by decide) (fun hc28 => ?_) (fun hc28 => ?_)
                · refine lv_iconst (v := iI (-1)) hx hb d_MM_crossing_79 rfl ?_
                  exact zq_iret hx hb hr hlocks hZ hw ⟨-1, rfl, Or.inl ⟨by omega, rfl, rfl⟩⟩ d_MM_crossing_80
                · exact absurd hc28 (by decide)
              · refine lv_iload_n hx hb d_MM_crossing_60 rfl (lv_at hl 2 rfl) ?_
                refine lv_iconst (v := iI (-1)) hx hb d_MM_crossing_61 rfl ?_
                refine zq_icmp_ne (tgt := 79) hx hb d_MM_crossing_62 (by decide) hs0 (by decide) (fun hc29 => ?_) (fun hc29 => ?_)
                · refine lv_iconst (v := iI (-1)) hx hb d_MM_crossing_79 rfl ?_
                  exact zq_iret hx hb hr hlocks hZ hw ⟨-1, rfl, Or.inl ⟨by omega, rfl, rfl⟩⟩ d_MM_crossing_80
                · refine lv_iload hx hb d_MM_crossing_65 (lv_at hl 0 rfl) ?_
                  refine zq_if_eq (tgt := 79) hx hb d_MM_crossing_67 (by decide) (by decide) (fun hc30 => ?_) (fun hc30 => ?_)
                  · refine lv_iconst (v := iI (-1)) hx hb d_MM_crossing_79 rfl ?_
                    exact zq_iret hx hb hr hlocks hZ hw ⟨-1, rfl, Or.inl ⟨by omega, rfl, rfl⟩⟩ d_MM_crossing_80
                  · exact absurd hc30 (by decide)
            · refine lv_iload hx hb d_MM_crossing_32 (lv_at hl 4 rfl) ?_
              refine lv_sipush (v := iI 10000) hx hb d_MM_crossing_34 (by decide) ?_
              refine zq_icmp_ge (tgt := 52) hx hb d_MM_crossing_37 (by decide) hl2 (by decide) (fun hc31 => ?_) (fun hc31 => ?_)
              · refine lv_iconst (v := iI 0) hx hb d_MM_crossing_52 rfl ?_
                refine lv_istore (lv' := [(6, .int (iI 0)), (0, .ref o), (1, .int (iI s0)), (2, .int (iI l0)), (3, .int (iI l1)), (4, .int (iI l2)), (5, .int (iI l3))]) hx hb d_MM_crossing_53 hl (by decide) rfl (fun ls hl => ?_)
                refine lv_iload_n hx hb d_MM_crossing_55 rfl (lv_at hl 2 rfl) ?_
                refine lv_iconst (v := iI 1) hx hb d_MM_crossing_56 rfl ?_
                refine zq_icmp_eq (tgt := 65) hx hb d_MM_crossing_57 (by decide) hs0 (by decide) (fun hc32 => ?_) (fun hc32 => ?_)
                · refine lv_iload hx hb d_MM_crossing_65 (lv_at hl 0 rfl) ?_
                  refine zq_if_eq (tgt := 79) hx hb d_MM_crossing_67 (by decide) (by decide) (fun hc33 => ?_) (fun hc33 => ?_)
                  · refine lv_iconst (v := iI (-1)) hx hb d_MM_crossing_79 rfl ?_
                    exact zq_iret hx hb hr hlocks hZ hw ⟨-1, rfl, Or.inl ⟨by omega, rfl, rfl⟩⟩ d_MM_crossing_80
                  · exact absurd hc33 (by decide)
                · refine lv_iload_n hx hb d_MM_crossing_60 rfl (lv_at hl 2 rfl) ?_
                  refine lv_iconst (v := iI (-1)) hx hb d_MM_crossing_61 rfl ?_
                  refine zq_icmp_ne (tgt := 79) hx hb d_MM_crossing_62 (by decide) hs0 (by decide) (fun hc34 => ?_) (fun hc34 => ?_)
                  · refine lv_iconst (v := iI (-1)) hx hb d_MM_crossing_79 rfl ?_
                    exact zq_iret hx hb hr hlocks hZ hw ⟨-1, rfl, Or.inl ⟨by omega, rfl, rfl⟩⟩ d_MM_crossing_80
                  · refine lv_iload hx hb d_MM_crossing_65 (lv_at hl 0 rfl) ?_
                    refine zq_if_eq (tgt := 79) hx hb d_MM_crossing_67 (by decide) (by decide) (fun hc35 => ?_) (fun hc35 => ?_)
                    · refine lv_iconst (v := iI (-1)) hx hb d_MM_crossing_79 rfl ?_
                      exact zq_iret hx hb hr hlocks hZ hw ⟨-1, rfl, Or.inl ⟨by omega, rfl, rfl⟩⟩ d_MM_crossing_80
                    · exact absurd hc35 (by decide)
              · refine lv_iload hx hb d_MM_crossing_40 (lv_at hl 5 rfl) ?_
                refine lv_sipush (v := iI 10000) hx hb d_MM_crossing_42 (by decide) ?_
                refine zq_icmp_ge (tgt := 52) hx hb d_MM_crossing_45 (by decide) hl3 (by decide) (fun hc36 => ?_) (fun hc36 => ?_)
                · refine lv_iconst (v := iI 0) hx hb d_MM_crossing_52 rfl ?_
                  refine lv_istore (lv' := [(6, .int (iI 0)), (0, .ref o), (1, .int (iI s0)), (2, .int (iI l0)), (3, .int (iI l1)), (4, .int (iI l2)), (5, .int (iI l3))]) hx hb d_MM_crossing_53 hl (by decide) rfl (fun ls hl => ?_)
                  refine lv_iload_n hx hb d_MM_crossing_55 rfl (lv_at hl 2 rfl) ?_
                  refine lv_iconst (v := iI 1) hx hb d_MM_crossing_56 rfl ?_
                  refine zq_icmp_eq (tgt := 65) hx hb d_MM_crossing_57 (by decide) hs0 (by decide) (fun hc37 => ?_) (fun hc37 => ?_)
                  · refine lv_iload hx hb d_MM_crossing_65 (lv_at hl 0 rfl) ?_
                    refine zq_if_eq (tgt := 79) hx hb d_MM_crossing_67 (by decide) (by decide) (fun hc38 => ?_) (fun hc38 => ?_)
                    · refine lv_iconst (v := iI (-1)) hx hb d_MM_crossing_79 rfl ?_
                      exact zq_iret hx hb hr hlocks hZ hw ⟨-1, rfl, Or.inl ⟨by omega, rfl, rfl⟩⟩ d_MM_crossing_80
                    · exact absurd hc38 (by decide)
                  · refine lv_iload_n hx hb d_MM_crossing_60 rfl (lv_at hl 2 rfl) ?_
                    refine lv_iconst (v := iI (-1)) hx hb d_MM_crossing_61 rfl ?_
                    refine zq_icmp_ne (tgt := 79) hx hb d_MM_crossing_62 (by decide) hs0 (by decide) (fun hc39 => ?_) (fun hc39 => ?_)
                    · refine lv_iconst (v := iI (-1)) hx hb d_MM_crossing_79 rfl ?_
                      exact zq_iret hx hb hr hlocks hZ hw ⟨-1, rfl, Or.inl ⟨by omega, rfl, rfl⟩⟩ d_MM_crossing_80
                    · refine lv_iload hx hb d_MM_crossing_65 (lv_at hl 0 rfl) ?_
                      refine zq_if_eq (tgt := 79) hx hb d_MM_crossing_67 (by decide) (by decide) (fun hc40 => ?_) (fun hc40 => ?_)
                      · refine lv_iconst (v := iI (-1)) hx hb d_MM_crossing_79 rfl ?_
                        exact zq_iret hx hb hr hlocks hZ hw ⟨-1, rfl, Or.inl ⟨by omega, rfl, rfl⟩⟩ d_MM_crossing_80
                      · exact absurd hc40 (by decide)
                · refine lv_iconst (v := iI 1) hx hb d_MM_crossing_48 rfl ?_
                  refine lv_goto (tgt := 53) hx hb d_MM_crossing_49 (by decide) ?_
                  refine lv_istore (lv' := [(6, .int (iI 1)), (0, .ref o), (1, .int (iI s0)), (2, .int (iI l0)), (3, .int (iI l1)), (4, .int (iI l2)), (5, .int (iI l3))]) hx hb d_MM_crossing_53 hl (by decide) rfl (fun ls hl => ?_)
                  refine lv_iload_n hx hb d_MM_crossing_55 rfl (lv_at hl 2 rfl) ?_
                  refine lv_iconst (v := iI 1) hx hb d_MM_crossing_56 rfl ?_
                  refine zq_icmp_eq (tgt := 65) hx hb d_MM_crossing_57 (by decide) hs0 (by decide) (fun hc41 => ?_) (fun hc41 => ?_)
                  · refine lv_iload hx hb d_MM_crossing_65 (lv_at hl 0 rfl) ?_
                    refine zq_if_eq (tgt := 79) hx hb d_MM_crossing_67 (by decide) (by decide) (fun hc42 => ?_) (fun hc42 => ?_)
                    · exact absurd hc42 (by decide)
                    · refine lv_aload_n hx hb d_MM_crossing_70 rfl (lv_at hl 1 rfl) ?_
                      refine zq_get hx hb hts i_MM hown hK hw h_o rfl 1 (by decide) (hts _ tw_587) rfl d_MM_crossing_71 ?_
                      refine lv_bipush (v := iI 12) hx hb d_MM_crossing_74 (by decide) ?_
                      refine zq_icmp_ne (tgt := 81) hx hb d_MM_crossing_76 (by decide) ⟨by omega, by omega⟩ (by decide) (fun hc43 => ?_) (fun hc43 => ?_)
                      · refine lv_aload_n hx hb d_MM_crossing_81 rfl (lv_at hl 1 rfl) ?_
                        refine zq_get hx hb hts i_MM hown hK hw h_o rfl 3 (by decide) (hts _ tw_589) rfl d_MM_crossing_82 ?_
                        refine lv_aload_n hx hb d_MM_crossing_85 rfl (lv_at hl 1 rfl) ?_
                        refine zq_get hx hb hts i_MM hown hK hw h_o rfl 1 (by decide) (hts _ tw_587) rfl d_MM_crossing_86 ?_
                        refine lv_iload_n hx hb d_MM_crossing_89 rfl (lv_at hl 2 rfl) ?_
                        refine zq_iast hx hb hK hw 0 h_pS rfl (by omega) (by omega) (by decide) d_MM_crossing_90 (fun M44 H locs hs ho hw => ?_)
                        have h_o : M44 o = some (.inr (9, [.int (iI th), .int (iI put), .int (iI wr), .ref (bd 0), .ref (bd 1), .int (iI nn), .int (iI cir), .int (iI oN), .int (iI oC), .ref (bd 2), .ref (bd 3), .ref (bd 4), .ref (bd 5), .int (iI lbs), .ref (bd 6), .ref (bd 7), .ref (bd 8), .int (iI fcs), .ref (bd 9), .int (iI arcs), .ref (bd 10), .ref (bd 11), .ref (bd 12), .ref (bd 13), .int (iI mns), .ref (bd 14), .ref (bd 15), .ref (bd 16), .int (iI kn), .ref (bd 17)])) := (ho _ (zq_ne h_o h_pS (by simp))).trans h_o
                        have h_pL : M44 (bd 1) = some (cI (K 0) 48 pL) := (ho _ (Ne.symm (zbd hbd 0 1))).trans h_pL
                        have h_sg : M44 (bd 2) = some (cI (K 0) 12 sg) := (ho _ (Ne.symm (zbd hbd 0 2))).trans h_sg
                        have h_lb : M44 (bd 3) = some (cI (K 0) 48 lb) := (ho _ (Ne.symm (zbd hbd 0 3))).trans h_lb
                        have h_oS : M44 (bd 4) = some (cI (K 0) 12 oS) := (ho _ (Ne.symm (zbd hbd 0 4))).trans h_oS
                        have h_oL : M44 (bd 5) = some (cI (K 0) 48 oL) := (ho _ (Ne.symm (zbd hbd 0 5))).trans h_oL
                        have h_rw : M44 (bd 6) = some (cI (K 0) 48 rw) := (ho _ (Ne.symm (zbd hbd 0 6))).trans h_rw
                        have h_fr : M44 (bd 7) = some (cI (K 0) 48 fr) := (ho _ (Ne.symm (zbd hbd 0 7))).trans h_fr
                        have h_pi : M44 (bd 8) = some (cI (K 0) 12 pi) := (ho _ (Ne.symm (zbd hbd 0 8))).trans h_pi
                        have h_fo : M44 (bd 9) = some (cI (K 0) 48 fo) := (ho _ (Ne.symm (zbd hbd 0 9))).trans h_fo
                        have h_al : M44 (bd 10) = some (cI (K 0) 40 al) := (ho _ (Ne.symm (zbd hbd 0 10))).trans h_al
                        have h_on : M44 (bd 11) = some (cI (K 0) 384 on) := (ho _ (Ne.symm (zbd hbd 0 11))).trans h_on
                        have h_tw : M44 (bd 12) = some (cI (K 0) 384 tw) := (ho _ (Ne.symm (zbd hbd 0 12))).trans h_tw
                        have h_sm : M44 (bd 13) = some (cJ (K 1) 114688 sm) := (ho _ (Ne.symm (zbd hbd 0 13))).trans h_sm
                        have h_av : M44 (bd 14) = some (cJ (K 1) 2100 av) := (ho _ (Ne.symm (zbd hbd 0 14))).trans h_av
                        have h_po : M44 (bd 15) = some (cJ (K 1) 14 po) := (ho _ (Ne.symm (zbd hbd 0 15))).trans h_po
                        have h_le : M44 (bd 16) = some (cJ (K 1) 28 le) := (ho _ (Ne.symm (zbd hbd 0 16))).trans h_le
                        have h_gd : M44 (bd 17) = some (cI (K 0) 384 gd) := (ho _ (Ne.symm (zbd hbd 0 17))).trans h_gd
                        have h_pS : M44 (bd 0) = some (cI (K 0) 12 (zu pS put s0)) := hs
                        have hfr : ∀ q, q ≠ o → (∀ i, i < 18 → q ≠ bd i) → M44 q = M q := fun q g0 g1 => (ho q (g1 0 (by decide))).trans (hfr q g0 g1)
                        refine lv_aload_n hx hb d_MM_crossing_91 rfl (lv_at hl 1 rfl) ?_
                        refine zq_get hx hb hts i_MM hown hK hw h_o rfl 4 (by decide) (hts _ tw_590) rfl d_MM_crossing_92 ?_
                        refine lv_iconst (v := iI 4) hx hb d_MM_crossing_95 rfl ?_
                        refine lv_aload_n hx hb d_MM_crossing_96 rfl (lv_at hl 1 rfl) ?_
                        refine zq_get hx hb hts i_MM hown hK hw h_o rfl 1 (by decide) (hts _ tw_587) rfl d_MM_crossing_97 ?_
                        refine zq_imul hx hb d_MM_crossing_100 ?_
                        refine lv_iload_n hx hb d_MM_crossing_101 rfl (lv_at hl 3 rfl) ?_
                        refine zq_iast hx hb hK hw 0 h_pL rfl (by omega) (by omega) (by decide) d_MM_crossing_102 (fun M45 H locs hs ho hw => ?_)
                        have h_o : M45 o = some (.inr (9, [.int (iI th), .int (iI put), .int (iI wr), .ref (bd 0), .ref (bd 1), .int (iI nn), .int (iI cir), .int (iI oN), .int (iI oC), .ref (bd 2), .ref (bd 3), .ref (bd 4), .ref (bd 5), .int (iI lbs), .ref (bd 6), .ref (bd 7), .ref (bd 8), .int (iI fcs), .ref (bd 9), .int (iI arcs), .ref (bd 10), .ref (bd 11), .ref (bd 12), .ref (bd 13), .int (iI mns), .ref (bd 14), .ref (bd 15), .ref (bd 16), .int (iI kn), .ref (bd 17)])) := (ho _ (zq_ne h_o h_pL (by simp))).trans h_o
                        have h_pS : M45 (bd 0) = some (cI (K 0) 12 (zu pS put s0)) := (ho _ (zbd hbd 0 1)).trans h_pS
                        have h_sg : M45 (bd 2) = some (cI (K 0) 12 sg) := (ho _ (Ne.symm (zbd hbd 1 2))).trans h_sg
                        have h_lb : M45 (bd 3) = some (cI (K 0) 48 lb) := (ho _ (Ne.symm (zbd hbd 1 3))).trans h_lb
                        have h_oS : M45 (bd 4) = some (cI (K 0) 12 oS) := (ho _ (Ne.symm (zbd hbd 1 4))).trans h_oS
                        have h_oL : M45 (bd 5) = some (cI (K 0) 48 oL) := (ho _ (Ne.symm (zbd hbd 1 5))).trans h_oL
                        have h_rw : M45 (bd 6) = some (cI (K 0) 48 rw) := (ho _ (Ne.symm (zbd hbd 1 6))).trans h_rw
                        have h_fr : M45 (bd 7) = some (cI (K 0) 48 fr) := (ho _ (Ne.symm (zbd hbd 1 7))).trans h_fr
                        have h_pi : M45 (bd 8) = some (cI (K 0) 12 pi) := (ho _ (Ne.symm (zbd hbd 1 8))).trans h_pi
                        have h_fo : M45 (bd 9) = some (cI (K 0) 48 fo) := (ho _ (Ne.symm (zbd hbd 1 9))).trans h_fo
                        have h_al : M45 (bd 10) = some (cI (K 0) 40 al) := (ho _ (Ne.symm (zbd hbd 1 10))).trans h_al
                        have h_on : M45 (bd 11) = some (cI (K 0) 384 on) := (ho _ (Ne.symm (zbd hbd 1 11))).trans h_on
                        have h_tw : M45 (bd 12) = some (cI (K 0) 384 tw) := (ho _ (Ne.symm (zbd hbd 1 12))).trans h_tw
                        have h_sm : M45 (bd 13) = some (cJ (K 1) 114688 sm) := (ho _ (Ne.symm (zbd hbd 1 13))).trans h_sm
                        have h_av : M45 (bd 14) = some (cJ (K 1) 2100 av) := (ho _ (Ne.symm (zbd hbd 1 14))).trans h_av
                        have h_po : M45 (bd 15) = some (cJ (K 1) 14 po) := (ho _ (Ne.symm (zbd hbd 1 15))).trans h_po
                        have h_le : M45 (bd 16) = some (cJ (K 1) 28 le) := (ho _ (Ne.symm (zbd hbd 1 16))).trans h_le
                        have h_gd : M45 (bd 17) = some (cI (K 0) 384 gd) := (ho _ (Ne.symm (zbd hbd 1 17))).trans h_gd
                        have h_pL : M45 (bd 1) = some (cI (K 0) 48 (zu pL (4 * put) l0)) := hs
                        have hfr : ∀ q, q ≠ o → (∀ i, i < 18 → q ≠ bd i) → M45 q = M q := fun q g0 g1 => (ho q (g1 1 (by decide))).trans (hfr q g0 g1)
                        refine lv_aload_n hx hb d_MM_crossing_103 rfl (lv_at hl 1 rfl) ?_
                        refine zq_get hx hb hts i_MM hown hK hw h_o rfl 4 (by decide) (hts _ tw_590) rfl d_MM_crossing_104 ?_
                        refine lv_iconst (v := iI 4) hx hb d_MM_crossing_107 rfl ?_
                        refine lv_aload_n hx hb d_MM_crossing_108 rfl (lv_at hl 1 rfl) ?_
                        refine zq_get hx hb hts i_MM hown hK hw h_o rfl 1 (by decide) (hts _ tw_587) rfl d_MM_crossing_109 ?_
                        refine zq_imul hx hb d_MM_crossing_112 ?_
                        refine lv_iconst (v := iI 1) hx hb d_MM_crossing_113 rfl ?_
                        refine zq_iadd hx hb d_MM_crossing_114 ?_
                        refine lv_iload_n hx hb d_MM_crossing_115 rfl (lv_at hl 4 rfl) ?_
                        refine zq_iast hx hb hK hw 0 h_pL rfl (by omega) (by omega) (by decide) d_MM_crossing_116 (fun M46 H locs hs ho hw => ?_)
                        have h_o : M46 o = some (.inr (9, [.int (iI th), .int (iI put), .int (iI wr), .ref (bd 0), .ref (bd 1), .int (iI nn), .int (iI cir), .int (iI oN), .int (iI oC), .ref (bd 2), .ref (bd 3), .ref (bd 4), .ref (bd 5), .int (iI lbs), .ref (bd 6), .ref (bd 7), .ref (bd 8), .int (iI fcs), .ref (bd 9), .int (iI arcs), .ref (bd 10), .ref (bd 11), .ref (bd 12), .ref (bd 13), .int (iI mns), .ref (bd 14), .ref (bd 15), .ref (bd 16), .int (iI kn), .ref (bd 17)])) := (ho _ (zq_ne h_o h_pL (by simp))).trans h_o
                        have h_pS : M46 (bd 0) = some (cI (K 0) 12 (zu pS put s0)) := (ho _ (zbd hbd 0 1)).trans h_pS
                        have h_sg : M46 (bd 2) = some (cI (K 0) 12 sg) := (ho _ (Ne.symm (zbd hbd 1 2))).trans h_sg
                        have h_lb : M46 (bd 3) = some (cI (K 0) 48 lb) := (ho _ (Ne.symm (zbd hbd 1 3))).trans h_lb
                        have h_oS : M46 (bd 4) = some (cI (K 0) 12 oS) := (ho _ (Ne.symm (zbd hbd 1 4))).trans h_oS
                        have h_oL : M46 (bd 5) = some (cI (K 0) 48 oL) := (ho _ (Ne.symm (zbd hbd 1 5))).trans h_oL
                        have h_rw : M46 (bd 6) = some (cI (K 0) 48 rw) := (ho _ (Ne.symm (zbd hbd 1 6))).trans h_rw
                        have h_fr : M46 (bd 7) = some (cI (K 0) 48 fr) := (ho _ (Ne.symm (zbd hbd 1 7))).trans h_fr
                        have h_pi : M46 (bd 8) = some (cI (K 0) 12 pi) := (ho _ (Ne.symm (zbd hbd 1 8))).trans h_pi
                        have h_fo : M46 (bd 9) = some (cI (K 0) 48 fo) := (ho _ (Ne.symm (zbd hbd 1 9))).trans h_fo
                        have h_al : M46 (bd 10) = some (cI (K 0) 40 al) := (ho _ (Ne.symm (zbd hbd 1 10))).trans h_al
                        have h_on : M46 (bd 11) = some (cI (K 0) 384 on) := (ho _ (Ne.symm (zbd hbd 1 11))).trans h_on
                        have h_tw : M46 (bd 12) = some (cI (K 0) 384 tw) := (ho _ (Ne.symm (zbd hbd 1 12))).trans h_tw
                        have h_sm : M46 (bd 13) = some (cJ (K 1) 114688 sm) := (ho _ (Ne.symm (zbd hbd 1 13))).trans h_sm
                        have h_av : M46 (bd 14) = some (cJ (K 1) 2100 av) := (ho _ (Ne.symm (zbd hbd 1 14))).trans h_av
                        have h_po : M46 (bd 15) = some (cJ (K 1) 14 po) := (ho _ (Ne.symm (zbd hbd 1 15))).trans h_po
                        have h_le : M46 (bd 16) = some (cJ (K 1) 28 le) := (ho _ (Ne.symm (zbd hbd 1 16))).trans h_le
                        have h_gd : M46 (bd 17) = some (cI (K 0) 384 gd) := (ho _ (Ne.symm (zbd hbd 1 17))).trans h_gd
                        have h_pL : M46 (bd 1) = some (cI (K 0) 48 (zu (zu pL (4 * put) l0) ((4 * put) + 1) l1)) := hs
                        have hfr : ∀ q, q ≠ o → (∀ i, i < 18 → q ≠ bd i) → M46 q = M q := fun q g0 g1 => (ho q (g1 1 (by decide))).trans (hfr q g0 g1)
                        refine lv_aload_n hx hb d_MM_crossing_117 rfl (lv_at hl 1 rfl) ?_
                        refine zq_get hx hb hts i_MM hown hK hw h_o rfl 4 (by decide) (hts _ tw_590) rfl d_MM_crossing_118 ?_
                        refine lv_iconst (v := iI 4) hx hb d_MM_crossing_121 rfl ?_
                        refine lv_aload_n hx hb d_MM_crossing_122 rfl (lv_at hl 1 rfl) ?_
                        refine zq_get hx hb hts i_MM hown hK hw h_o rfl 1 (by decide) (hts _ tw_587) rfl d_MM_crossing_123 ?_
                        refine zq_imul hx hb d_MM_crossing_126 ?_
                        refine lv_iconst (v := iI 2) hx hb d_MM_crossing_127 rfl ?_
                        refine zq_iadd hx hb d_MM_crossing_128 ?_
                        refine lv_iload hx hb d_MM_crossing_129 (lv_at hl 5 rfl) ?_
                        refine zq_iast hx hb hK hw 0 h_pL rfl (by omega) (by omega) (by decide) d_MM_crossing_131 (fun M47 H locs hs ho hw => ?_)
                        have h_o : M47 o = some (.inr (9, [.int (iI th), .int (iI put), .int (iI wr), .ref (bd 0), .ref (bd 1), .int (iI nn), .int (iI cir), .int (iI oN), .int (iI oC), .ref (bd 2), .ref (bd 3), .ref (bd 4), .ref (bd 5), .int (iI lbs), .ref (bd 6), .ref (bd 7), .ref (bd 8), .int (iI fcs), .ref (bd 9), .int (iI arcs), .ref (bd 10), .ref (bd 11), .ref (bd 12), .ref (bd 13), .int (iI mns), .ref (bd 14), .ref (bd 15), .ref (bd 16), .int (iI kn), .ref (bd 17)])) := (ho _ (zq_ne h_o h_pL (by simp))).trans h_o
                        have h_pS : M47 (bd 0) = some (cI (K 0) 12 (zu pS put s0)) := (ho _ (zbd hbd 0 1)).trans h_pS
                        have h_sg : M47 (bd 2) = some (cI (K 0) 12 sg) := (ho _ (Ne.symm (zbd hbd 1 2))).trans h_sg
                        have h_lb : M47 (bd 3) = some (cI (K 0) 48 lb) := (ho _ (Ne.symm (zbd hbd 1 3))).trans h_lb
                        have h_oS : M47 (bd 4) = some (cI (K 0) 12 oS) := (ho _ (Ne.symm (zbd hbd 1 4))).trans h_oS
                        have h_oL : M47 (bd 5) = some (cI (K 0) 48 oL) := (ho _ (Ne.symm (zbd hbd 1 5))).trans h_oL
                        have h_rw : M47 (bd 6) = some (cI (K 0) 48 rw) := (ho _ (Ne.symm (zbd hbd 1 6))).trans h_rw
                        have h_fr : M47 (bd 7) = some (cI (K 0) 48 fr) := (ho _ (Ne.symm (zbd hbd 1 7))).trans h_fr
                        have h_pi : M47 (bd 8) = some (cI (K 0) 12 pi) := (ho _ (Ne.symm (zbd hbd 1 8))).trans h_pi
                        have h_fo : M47 (bd 9) = some (cI (K 0) 48 fo) := (ho _ (Ne.symm (zbd hbd 1 9))).trans h_fo
                        have h_al : M47 (bd 10) = some (cI (K 0) 40 al) := (ho _ (Ne.symm (zbd hbd 1 10))).trans h_al
                        have h_on : M47 (bd 11) = some (cI (K 0) 384 on) := (ho _ (Ne.symm (zbd hbd 1 11))).trans h_on
                        have h_tw : M47 (bd 12) = some (cI (K 0) 384 tw) := (ho _ (Ne.symm (zbd hbd 1 12))).trans h_tw
                        have h_sm : M47 (bd 13) = some (cJ (K 1) 114688 sm) := (ho _ (Ne.symm (zbd hbd 1 13))).trans h_sm
                        have h_av : M47 (bd 14) = some (cJ (K 1) 2100 av) := (ho _ (Ne.symm (zbd hbd 1 14))).trans h_av
                        have h_po : M47 (bd 15) = some (cJ (K 1) 14 po) := (ho _ (Ne.symm (zbd hbd 1 15))).trans h_po
                        have h_le : M47 (bd 16) = some (cJ (K 1) 28 le) := (ho _ (Ne.symm (zbd hbd 1 16))).trans h_le
                        have h_gd : M47 (bd 17) = some (cI (K 0) 384 gd) := (ho _ (Ne.symm (zbd hbd 1 17))).trans h_gd
                        have h_pL : M47 (bd 1) = some (cI (K 0) 48 (zu (zu (zu pL (4 * put) l0) ((4 * put) + 1) l1) ((4 * put) + 2) l2)) := hs
                        have hfr : ∀ q, q ≠ o → (∀ i, i < 18 → q ≠ bd i) → M47 q = M q := fun q g0 g1 => (ho q (g1 1 (by decide))).trans (hfr q g0 g1)
                        refine lv_aload_n hx hb d_MM_crossing_132 rfl (lv_at hl 1 rfl) ?_
                        refine zq_get hx hb hts i_MM hown hK hw h_o rfl 4 (by decide) (hts _ tw_590) rfl d_MM_crossing_133 ?_
                        refine lv_iconst (v := iI 4) hx hb d_MM_crossing_136 rfl ?_
                        refine lv_aload_n hx hb d_MM_crossing_137 rfl (lv_at hl 1 rfl) ?_
                        refine zq_get hx hb hts i_MM hown hK hw h_o rfl 1 (by decide) (hts _ tw_587) rfl d_MM_crossing_138 ?_
                        refine zq_imul hx hb d_MM_crossing_141 ?_
                        refine lv_iconst (v := iI 3) hx hb d_MM_crossing_142 rfl ?_
                        refine zq_iadd hx hb d_MM_crossing_143 ?_
                        refine lv_iload hx hb d_MM_crossing_144 (lv_at hl 6 rfl) ?_
                        refine zq_iast hx hb hK hw 0 h_pL rfl (by omega) (by omega) (by decide) d_MM_crossing_146 (fun M48 H locs hs ho hw => ?_)
                        have h_o : M48 o = some (.inr (9, [.int (iI th), .int (iI put), .int (iI wr), .ref (bd 0), .ref (bd 1), .int (iI nn), .int (iI cir), .int (iI oN), .int (iI oC), .ref (bd 2), .ref (bd 3), .ref (bd 4), .ref (bd 5), .int (iI lbs), .ref (bd 6), .ref (bd 7), .ref (bd 8), .int (iI fcs), .ref (bd 9), .int (iI arcs), .ref (bd 10), .ref (bd 11), .ref (bd 12), .ref (bd 13), .int (iI mns), .ref (bd 14), .ref (bd 15), .ref (bd 16), .int (iI kn), .ref (bd 17)])) := (ho _ (zq_ne h_o h_pL (by simp))).trans h_o
                        have h_pS : M48 (bd 0) = some (cI (K 0) 12 (zu pS put s0)) := (ho _ (zbd hbd 0 1)).trans h_pS
                        have h_sg : M48 (bd 2) = some (cI (K 0) 12 sg) := (ho _ (Ne.symm (zbd hbd 1 2))).trans h_sg
                        have h_lb : M48 (bd 3) = some (cI (K 0) 48 lb) := (ho _ (Ne.symm (zbd hbd 1 3))).trans h_lb
                        have h_oS : M48 (bd 4) = some (cI (K 0) 12 oS) := (ho _ (Ne.symm (zbd hbd 1 4))).trans h_oS
                        have h_oL : M48 (bd 5) = some (cI (K 0) 48 oL) := (ho _ (Ne.symm (zbd hbd 1 5))).trans h_oL
                        have h_rw : M48 (bd 6) = some (cI (K 0) 48 rw) := (ho _ (Ne.symm (zbd hbd 1 6))).trans h_rw
                        have h_fr : M48 (bd 7) = some (cI (K 0) 48 fr) := (ho _ (Ne.symm (zbd hbd 1 7))).trans h_fr
                        have h_pi : M48 (bd 8) = some (cI (K 0) 12 pi) := (ho _ (Ne.symm (zbd hbd 1 8))).trans h_pi
                        have h_fo : M48 (bd 9) = some (cI (K 0) 48 fo) := (ho _ (Ne.symm (zbd hbd 1 9))).trans h_fo
                        have h_al : M48 (bd 10) = some (cI (K 0) 40 al) := (ho _ (Ne.symm (zbd hbd 1 10))).trans h_al
                        have h_on : M48 (bd 11) = some (cI (K 0) 384 on) := (ho _ (Ne.symm (zbd hbd 1 11))).trans h_on
                        have h_tw : M48 (bd 12) = some (cI (K 0) 384 tw) := (ho _ (Ne.symm (zbd hbd 1 12))).trans h_tw
                        have h_sm : M48 (bd 13) = some (cJ (K 1) 114688 sm) := (ho _ (Ne.symm (zbd hbd 1 13))).trans h_sm
                        have h_av : M48 (bd 14) = some (cJ (K 1) 2100 av) := (ho _ (Ne.symm (zbd hbd 1 14))).trans h_av
                        have h_po : M48 (bd 15) = some (cJ (K 1) 14 po) := (ho _ (Ne.symm (zbd hbd 1 15))).trans h_po
                        have h_le : M48 (bd 16) = some (cJ (K 1) 28 le) := (ho _ (Ne.symm (zbd hbd 1 16))).trans h_le
                        have h_gd : M48 (bd 17) = some (cI (K 0) 384 gd) := (ho _ (Ne.symm (zbd hbd 1 17))).trans h_gd
                        have h_pL : M48 (bd 1) = some (cI (K 0) 48 (zu (zu (zu (zu pL (4 * put) l0) ((4 * put) + 1) l1) ((4 * put) + 2) l2) ((4 * put) + 3) l3)) := hs
                        have hfr : ∀ q, q ≠ o → (∀ i, i < 18 → q ≠ bd i) → M48 q = M q := fun q g0 g1 => (ho q (g1 1 (by decide))).trans (hfr q g0 g1)
                        refine lv_aload_n hx hb d_MM_crossing_147 rfl (lv_at hl 1 rfl) ?_
                        refine lv_dup hx hb d_MM_crossing_148 rfl ?_
                        refine zq_get hx hb hts i_MM hown hK hw h_o rfl 1 (by decide) (hts _ tw_587) rfl d_MM_crossing_149 ?_
                        refine lv_iconst (v := iI 1) hx hb d_MM_crossing_152 rfl ?_
                        refine zq_iadd hx hb d_MM_crossing_153 ?_
                        refine zq_put (ci := 9) (v := .int (iI (put + 1))) (ty := .int) hx hb hts i_MM t_MM t_MM_ok n_MM hown hK hw h_o rfl 1 (by decide) (hts _ tw_587) rfl (by decide +kernel) rfl rfl (Nat.le_of_ble_eq_true rfl) d_MM_crossing_154 (fun M49 H locs hs ho hw => ?_)
                        have h_pS : M49 (bd 0) = some (cI (K 0) 12 (zu pS put s0)) := (ho _ (zq_ne h_pS h_o (by simp))).trans h_pS
                        have h_pL : M49 (bd 1) = some (cI (K 0) 48 (zu (zu (zu (zu pL (4 * put) l0) ((4 * put) + 1) l1) ((4 * put) + 2) l2) ((4 * put) + 3) l3)) := (ho _ (zq_ne h_pL h_o (by simp))).trans h_pL
                        have h_sg : M49 (bd 2) = some (cI (K 0) 12 sg) := (ho _ (zq_ne h_sg h_o (by simp))).trans h_sg
                        have h_lb : M49 (bd 3) = some (cI (K 0) 48 lb) := (ho _ (zq_ne h_lb h_o (by simp))).trans h_lb
                        have h_oS : M49 (bd 4) = some (cI (K 0) 12 oS) := (ho _ (zq_ne h_oS h_o (by simp))).trans h_oS
                        have h_oL : M49 (bd 5) = some (cI (K 0) 48 oL) := (ho _ (zq_ne h_oL h_o (by simp))).trans h_oL
                        have h_rw : M49 (bd 6) = some (cI (K 0) 48 rw) := (ho _ (zq_ne h_rw h_o (by simp))).trans h_rw
                        have h_fr : M49 (bd 7) = some (cI (K 0) 48 fr) := (ho _ (zq_ne h_fr h_o (by simp))).trans h_fr
                        have h_pi : M49 (bd 8) = some (cI (K 0) 12 pi) := (ho _ (zq_ne h_pi h_o (by simp))).trans h_pi
                        have h_fo : M49 (bd 9) = some (cI (K 0) 48 fo) := (ho _ (zq_ne h_fo h_o (by simp))).trans h_fo
                        have h_al : M49 (bd 10) = some (cI (K 0) 40 al) := (ho _ (zq_ne h_al h_o (by simp))).trans h_al
                        have h_on : M49 (bd 11) = some (cI (K 0) 384 on) := (ho _ (zq_ne h_on h_o (by simp))).trans h_on
                        have h_tw : M49 (bd 12) = some (cI (K 0) 384 tw) := (ho _ (zq_ne h_tw h_o (by simp))).trans h_tw
                        have h_sm : M49 (bd 13) = some (cJ (K 1) 114688 sm) := (ho _ (zq_ne h_sm h_o (by simp))).trans h_sm
                        have h_av : M49 (bd 14) = some (cJ (K 1) 2100 av) := (ho _ (zq_ne h_av h_o (by simp))).trans h_av
                        have h_po : M49 (bd 15) = some (cJ (K 1) 14 po) := (ho _ (zq_ne h_po h_o (by simp))).trans h_po
                        have h_le : M49 (bd 16) = some (cJ (K 1) 28 le) := (ho _ (zq_ne h_le h_o (by simp))).trans h_le
                        have h_gd : M49 (bd 17) = some (cI (K 0) 384 gd) := (ho _ (zq_ne h_gd h_o (by simp))).trans h_gd
                        have h_o : M49 o = some (.inr (9, [.int (iI th), .int (iI (put + 1)), .int (iI wr), .ref (bd 0), .ref (bd 1), .int (iI nn), .int (iI cir), .int (iI oN), .int (iI oC), .ref (bd 2), .ref (bd 3), .ref (bd 4), .ref (bd 5), .int (iI lbs), .ref (bd 6), .ref (bd 7), .ref (bd 8), .int (iI fcs), .ref (bd 9), .int (iI arcs), .ref (bd 10), .ref (bd 11), .ref (bd 12), .ref (bd 13), .int (iI mns), .ref (bd 14), .ref (bd 15), .ref (bd 16), .int (iI kn), .ref (bd 17)])) := hs
                        have hfr : ∀ q, q ≠ o → (∀ i, i < 18 → q ≠ bd i) → M49 q = M q := fun q g0 g1 => (ho q g0).trans (hfr q g0 g1)
                        refine lv_aload_n hx hb d_MM_crossing_157 rfl (lv_at hl 1 rfl) ?_
                        refine zq_get hx hb hts i_MM hown hK hw h_o rfl 1 (by decide) (hts _ tw_587) rfl d_MM_crossing_158 ?_
                        exact zq_iret hx hb hr hlocks hZ hw ⟨_, rfl, Or.inr ⟨by omega, by omega, rfl, ⟨_, _, _, _, _, _, _, _, _, _, _, _, _, _, _, h_o, hbd, h_pS, h_pL, h_sg, h_lb, h_oS, h_oL, h_rw, h_fr, h_pi, h_fo, h_al, h_on, h_tw, h_sm, h_av, h_po, h_le, h_gd, fun j => ⟨(zu_in hpS hs0) j, (zu_in (zu_in (zu_in (zu_in hpL hl0) hl1) hl2) hl3) j, hsg j, hlb j, hoS j, hoL j, hrw j, hfo j, hal j⟩⟩, hfr⟩⟩ d_MM_crossing_161
                      · refine lv_iconst (v := iI (-1)) hx hb d_MM_crossing_79 rfl ?_
                        exact zq_iret hx hb hr hlocks hZ hw ⟨-1, rfl, Or.inl ⟨by omega, rfl, rfl⟩⟩ d_MM_crossing_80
                  · refine lv_iload_n hx hb d_MM_crossing_60 rfl (lv_at hl 2 rfl) ?_
                    refine lv_iconst (v := iI (-1)) hx hb d_MM_crossing_61 rfl ?_
                    refine zq_icmp_ne (tgt := 79) hx hb d_MM_crossing_62 (by decide) hs0 (by decide) (fun hc50 => ?_) (fun hc50 => ?_)
                    · refine lv_iconst (v := iI (-1)) hx hb d_MM_crossing_79 rfl ?_
                      exact zq_iret hx hb hr hlocks hZ hw ⟨-1, rfl, Or.inl ⟨by omega, rfl, rfl⟩⟩ d_MM_crossing_80
                    · refine lv_iload hx hb d_MM_crossing_65 (lv_at hl 0 rfl) ?_
                      refine zq_if_eq (tgt := 79) hx hb d_MM_crossing_67 (by decide) (by decide) (fun hc51 => ?_) (fun hc51 => ?_)
                      · exact absurd hc51 (by decide)
                      · refine lv_aload_n hx hb d_MM_crossing_70 rfl (lv_at hl 1 rfl) ?_
                        refine zq_get hx hb hts i_MM hown hK hw h_o rfl 1 (by decide) (hts _ tw_587) rfl d_MM_crossing_71 ?_
                        refine lv_bipush (v := iI 12) hx hb d_MM_crossing_74 (by decide) ?_
                        refine zq_icmp_ne (tgt := 81) hx hb d_MM_crossing_76 (by decide) ⟨by omega, by omega⟩ (by decide) (fun hc52 => ?_) (fun hc52 => ?_)
                        · refine lv_aload_n hx hb d_MM_crossing_81 rfl (lv_at hl 1 rfl) ?_
                          refine zq_get hx hb hts i_MM hown hK hw h_o rfl 3 (by decide) (hts _ tw_589) rfl d_MM_crossing_82 ?_
                          refine lv_aload_n hx hb d_MM_crossing_85 rfl (lv_at hl 1 rfl) ?_
                          refine zq_get hx hb hts i_MM hown hK hw h_o rfl 1 (by decide) (hts _ tw_587) rfl d_MM_crossing_86 ?_
                          refine lv_iload_n hx hb d_MM_crossing_89 rfl (lv_at hl 2 rfl) ?_
                          refine zq_iast hx hb hK hw 0 h_pS rfl (by omega) (by omega) (by decide) d_MM_crossing_90 (fun M53 H locs hs ho hw => ?_)
                          have h_o : M53 o = some (.inr (9, [.int (iI th), .int (iI put), .int (iI wr), .ref (bd 0), .ref (bd 1), .int (iI nn), .int (iI cir), .int (iI oN), .int (iI oC), .ref (bd 2), .ref (bd 3), .ref (bd 4), .ref (bd 5), .int (iI lbs), .ref (bd 6), .ref (bd 7), .ref (bd 8), .int (iI fcs), .ref (bd 9), .int (iI arcs), .ref (bd 10), .ref (bd 11), .ref (bd 12), .ref (bd 13), .int (iI mns), .ref (bd 14), .ref (bd 15), .ref (bd 16), .int (iI kn), .ref (bd 17)])) := (ho _ (zq_ne h_o h_pS (by simp))).trans h_o
                          have h_pL : M53 (bd 1) = some (cI (K 0) 48 pL) := (ho _ (Ne.symm (zbd hbd 0 1))).trans h_pL
                          have h_sg : M53 (bd 2) = some (cI (K 0) 12 sg) := (ho _ (Ne.symm (zbd hbd 0 2))).trans h_sg
                          have h_lb : M53 (bd 3) = some (cI (K 0) 48 lb) := (ho _ (Ne.symm (zbd hbd 0 3))).trans h_lb
                          have h_oS : M53 (bd 4) = some (cI (K 0) 12 oS) := (ho _ (Ne.symm (zbd hbd 0 4))).trans h_oS
                          have h_oL : M53 (bd 5) = some (cI (K 0) 48 oL) := (ho _ (Ne.symm (zbd hbd 0 5))).trans h_oL
                          have h_rw : M53 (bd 6) = some (cI (K 0) 48 rw) := (ho _ (Ne.symm (zbd hbd 0 6))).trans h_rw
                          have h_fr : M53 (bd 7) = some (cI (K 0) 48 fr) := (ho _ (Ne.symm (zbd hbd 0 7))).trans h_fr
                          have h_pi : M53 (bd 8) = some (cI (K 0) 12 pi) := (ho _ (Ne.symm (zbd hbd 0 8))).trans h_pi
                          have h_fo : M53 (bd 9) = some (cI (K 0) 48 fo) := (ho _ (Ne.symm (zbd hbd 0 9))).trans h_fo
                          have h_al : M53 (bd 10) = some (cI (K 0) 40 al) := (ho _ (Ne.symm (zbd hbd 0 10))).trans h_al
                          have h_on : M53 (bd 11) = some (cI (K 0) 384 on) := (ho _ (Ne.symm (zbd hbd 0 11))).trans h_on
                          have h_tw : M53 (bd 12) = some (cI (K 0) 384 tw) := (ho _ (Ne.symm (zbd hbd 0 12))).trans h_tw
                          have h_sm : M53 (bd 13) = some (cJ (K 1) 114688 sm) := (ho _ (Ne.symm (zbd hbd 0 13))).trans h_sm
                          have h_av : M53 (bd 14) = some (cJ (K 1) 2100 av) := (ho _ (Ne.symm (zbd hbd 0 14))).trans h_av
                          have h_po : M53 (bd 15) = some (cJ (K 1) 14 po) := (ho _ (Ne.symm (zbd hbd 0 15))).trans h_po
                          have h_le : M53 (bd 16) = some (cJ (K 1) 28 le) := (ho _ (Ne.symm (zbd hbd 0 16))).trans h_le
                          have h_gd : M53 (bd 17) = some (cI (K 0) 384 gd) := (ho _ (Ne.symm (zbd hbd 0 17))).trans h_gd
                          have h_pS : M53 (bd 0) = some (cI (K 0) 12 (zu pS put s0)) := hs
                          have hfr : ∀ q, q ≠ o → (∀ i, i < 18 → q ≠ bd i) → M53 q = M q := fun q g0 g1 => (ho q (g1 0 (by decide))).trans (hfr q g0 g1)
                          refine lv_aload_n hx hb d_MM_crossing_91 rfl (lv_at hl 1 rfl) ?_
                          refine zq_get hx hb hts i_MM hown hK hw h_o rfl 4 (by decide) (hts _ tw_590) rfl d_MM_crossing_92 ?_
                          refine lv_iconst (v := iI 4) hx hb d_MM_crossing_95 rfl ?_
                          refine lv_aload_n hx hb d_MM_crossing_96 rfl (lv_at hl 1 rfl) ?_
                          refine zq_get hx hb hts i_MM hown hK hw h_o rfl 1 (by decide) (hts _ tw_587) rfl d_MM_crossing_97 ?_
                          refine zq_imul hx hb d_MM_crossing_100 ?_
                          refine lv_iload_n hx hb d_MM_crossing_101 rfl (lv_at hl 3 rfl) ?_
                          refine zq_iast hx hb hK hw 0 h_pL rfl (by omega) (by omega) (by decide) d_MM_crossing_102 (fun M54 H locs hs ho hw => ?_)
                          have h_o : M54 o = some (.inr (9, [.int (iI th), .int (iI put), .int (iI wr), .ref (bd 0), .ref (bd 1), .int (iI nn), .int (iI cir), .int (iI oN), .int (iI oC), .ref (bd 2), .ref (bd 3), .ref (bd 4), .ref (bd 5), .int (iI lbs), .ref (bd 6), .ref (bd 7), .ref (bd 8), .int (iI fcs), .ref (bd 9), .int (iI arcs), .ref (bd 10), .ref (bd 11), .ref (bd 12), .ref (bd 13), .int (iI mns), .ref (bd 14), .ref (bd 15), .ref (bd 16), .int (iI kn), .ref (bd 17)])) := (ho _ (zq_ne h_o h_pL (by simp))).trans h_o
                          have h_pS : M54 (bd 0) = some (cI (K 0) 12 (zu pS put s0)) := (ho _ (zbd hbd 0 1)).trans h_pS
                          have h_sg : M54 (bd 2) = some (cI (K 0) 12 sg) := (ho _ (Ne.symm (zbd hbd 1 2))).trans h_sg
                          have h_lb : M54 (bd 3) = some (cI (K 0) 48 lb) := (ho _ (Ne.symm (zbd hbd 1 3))).trans h_lb
                          have h_oS : M54 (bd 4) = some (cI (K 0) 12 oS) := (ho _ (Ne.symm (zbd hbd 1 4))).trans h_oS
                          have h_oL : M54 (bd 5) = some (cI (K 0) 48 oL) := (ho _ (Ne.symm (zbd hbd 1 5))).trans h_oL
                          have h_rw : M54 (bd 6) = some (cI (K 0) 48 rw) := (ho _ (Ne.symm (zbd hbd 1 6))).trans h_rw
                          have h_fr : M54 (bd 7) = some (cI (K 0) 48 fr) := (ho _ (Ne.symm (zbd hbd 1 7))).trans h_fr
                          have h_pi : M54 (bd 8) = some (cI (K 0) 12 pi) := (ho _ (Ne.symm (zbd hbd 1 8))).trans h_pi
                          have h_fo : M54 (bd 9) = some (cI (K 0) 48 fo) := (ho _ (Ne.symm (zbd hbd 1 9))).trans h_fo
                          have h_al : M54 (bd 10) = some (cI (K 0) 40 al) := (ho _ (Ne.symm (zbd hbd 1 10))).trans h_al
                          have h_on : M54 (bd 11) = some (cI (K 0) 384 on) := (ho _ (Ne.symm (zbd hbd 1 11))).trans h_on
                          have h_tw : M54 (bd 12) = some (cI (K 0) 384 tw) := (ho _ (Ne.symm (zbd hbd 1 12))).trans h_tw
                          have h_sm : M54 (bd 13) = some (cJ (K 1) 114688 sm) := (ho _ (Ne.symm (zbd hbd 1 13))).trans h_sm
                          have h_av : M54 (bd 14) = some (cJ (K 1) 2100 av) := (ho _ (Ne.symm (zbd hbd 1 14))).trans h_av
                          have h_po : M54 (bd 15) = some (cJ (K 1) 14 po) := (ho _ (Ne.symm (zbd hbd 1 15))).trans h_po
                          have h_le : M54 (bd 16) = some (cJ (K 1) 28 le) := (ho _ (Ne.symm (zbd hbd 1 16))).trans h_le
                          have h_gd : M54 (bd 17) = some (cI (K 0) 384 gd) := (ho _ (Ne.symm (zbd hbd 1 17))).trans h_gd
                          have h_pL : M54 (bd 1) = some (cI (K 0) 48 (zu pL (4 * put) l0)) := hs
                          have hfr : ∀ q, q ≠ o → (∀ i, i < 18 → q ≠ bd i) → M54 q = M q := fun q g0 g1 => (ho q (g1 1 (by decide))).trans (hfr q g0 g1)
                          refine lv_aload_n hx hb d_MM_crossing_103 rfl (lv_at hl 1 rfl) ?_
                          refine zq_get hx hb hts i_MM hown hK hw h_o rfl 4 (by decide) (hts _ tw_590) rfl d_MM_crossing_104 ?_
                          refine lv_iconst (v := iI 4) hx hb d_MM_crossing_107 rfl ?_
                          refine lv_aload_n hx hb d_MM_crossing_108 rfl (lv_at hl 1 rfl) ?_
                          refine zq_get hx hb hts i_MM hown hK hw h_o rfl 1 (by decide) (hts _ tw_587) rfl d_MM_crossing_109 ?_
                          refine zq_imul hx hb d_MM_crossing_112 ?_
                          refine lv_iconst (v := iI 1) hx hb d_MM_crossing_113 rfl ?_
                          refine zq_iadd hx hb d_MM_crossing_114 ?_
                          refine lv_iload_n hx hb d_MM_crossing_115 rfl (lv_at hl 4 rfl) ?_
                          refine zq_iast hx hb hK hw 0 h_pL rfl (by omega) (by omega) (by decide) d_MM_crossing_116 (fun M55 H locs hs ho hw => ?_)
                          have h_o : M55 o = some (.inr (9, [.int (iI th), .int (iI put), .int (iI wr), .ref (bd 0), .ref (bd 1), .int (iI nn), .int (iI cir), .int (iI oN), .int (iI oC), .ref (bd 2), .ref (bd 3), .ref (bd 4), .ref (bd 5), .int (iI lbs), .ref (bd 6), .ref (bd 7), .ref (bd 8), .int (iI fcs), .ref (bd 9), .int (iI arcs), .ref (bd 10), .ref (bd 11), .ref (bd 12), .ref (bd 13), .int (iI mns), .ref (bd 14), .ref (bd 15), .ref (bd 16), .int (iI kn), .ref (bd 17)])) := (ho _ (zq_ne h_o h_pL (by simp))).trans h_o
                          have h_pS : M55 (bd 0) = some (cI (K 0) 12 (zu pS put s0)) := (ho _ (zbd hbd 0 1)).trans h_pS
                          have h_sg : M55 (bd 2) = some (cI (K 0) 12 sg) := (ho _ (Ne.symm (zbd hbd 1 2))).trans h_sg
                          have h_lb : M55 (bd 3) = some (cI (K 0) 48 lb) := (ho _ (Ne.symm (zbd hbd 1 3))).trans h_lb
                          have h_oS : M55 (bd 4) = some (cI (K 0) 12 oS) := (ho _ (Ne.symm (zbd hbd 1 4))).trans h_oS
                          have h_oL : M55 (bd 5) = some (cI (K 0) 48 oL) := (ho _ (Ne.symm (zbd hbd 1 5))).trans h_oL
                          have h_rw : M55 (bd 6) = some (cI (K 0) 48 rw) := (ho _ (Ne.symm (zbd hbd 1 6))).trans h_rw
                          have h_fr : M55 (bd 7) = some (cI (K 0) 48 fr) := (ho _ (Ne.symm (zbd hbd 1 7))).trans h_fr
                          have h_pi : M55 (bd 8) = some (cI (K 0) 12 pi) := (ho _ (Ne.symm (zbd hbd 1 8))).trans h_pi
                          have h_fo : M55 (bd 9) = some (cI (K 0) 48 fo) := (ho _ (Ne.symm (zbd hbd 1 9))).trans h_fo
                          have h_al : M55 (bd 10) = some (cI (K 0) 40 al) := (ho _ (Ne.symm (zbd hbd 1 10))).trans h_al
                          have h_on : M55 (bd 11) = some (cI (K 0) 384 on) := (ho _ (Ne.symm (zbd hbd 1 11))).trans h_on
                          have h_tw : M55 (bd 12) = some (cI (K 0) 384 tw) := (ho _ (Ne.symm (zbd hbd 1 12))).trans h_tw
                          have h_sm : M55 (bd 13) = some (cJ (K 1) 114688 sm) := (ho _ (Ne.symm (zbd hbd 1 13))).trans h_sm
                          have h_av : M55 (bd 14) = some (cJ (K 1) 2100 av) := (ho _ (Ne.symm (zbd hbd 1 14))).trans h_av
                          have h_po : M55 (bd 15) = some (cJ (K 1) 14 po) := (ho _ (Ne.symm (zbd hbd 1 15))).trans h_po
                          have h_le : M55 (bd 16) = some (cJ (K 1) 28 le) := (ho _ (Ne.symm (zbd hbd 1 16))).trans h_le
                          have h_gd : M55 (bd 17) = some (cI (K 0) 384 gd) := (ho _ (Ne.symm (zbd hbd 1 17))).trans h_gd
                          have h_pL : M55 (bd 1) = some (cI (K 0) 48 (zu (zu pL (4 * put) l0) ((4 * put) + 1) l1)) := hs
                          have hfr : ∀ q, q ≠ o → (∀ i, i < 18 → q ≠ bd i) → M55 q = M q := fun q g0 g1 => (ho q (g1 1 (by decide))).trans (hfr q g0 g1)
                          refine lv_aload_n hx hb d_MM_crossing_117 rfl (lv_at hl 1 rfl) ?_
                          refine zq_get hx hb hts i_MM hown hK hw h_o rfl 4 (by decide) (hts _ tw_590) rfl d_MM_crossing_118 ?_
                          refine lv_iconst (v := iI 4) hx hb d_MM_crossing_121 rfl ?_
                          refine lv_aload_n hx hb d_MM_crossing_122 rfl (lv_at hl 1 rfl) ?_
                          refine zq_get hx hb hts i_MM hown hK hw h_o rfl 1 (by decide) (hts _ tw_587) rfl d_MM_crossing_123 ?_
                          refine zq_imul hx hb d_MM_crossing_126 ?_
                          refine lv_iconst (v := iI 2) hx hb d_MM_crossing_127 rfl ?_
                          refine zq_iadd hx hb d_MM_crossing_128 ?_
                          refine lv_iload hx hb d_MM_crossing_129 (lv_at hl 5 rfl) ?_
                          refine zq_iast hx hb hK hw 0 h_pL rfl (by omega) (by omega) (by decide) d_MM_crossing_131 (fun M56 H locs hs ho hw => ?_)
                          have h_o : M56 o = some (.inr (9, [.int (iI th), .int (iI put), .int (iI wr), .ref (bd 0), .ref (bd 1), .int (iI nn), .int (iI cir), .int (iI oN), .int (iI oC), .ref (bd 2), .ref (bd 3), .ref (bd 4), .ref (bd 5), .int (iI lbs), .ref (bd 6), .ref (bd 7), .ref (bd 8), .int (iI fcs), .ref (bd 9), .int (iI arcs), .ref (bd 10), .ref (bd 11), .ref (bd 12), .ref (bd 13), .int (iI mns), .ref (bd 14), .ref (bd 15), .ref (bd 16), .int (iI kn), .ref (bd 17)])) := (ho _ (zq_ne h_o h_pL (by simp))).trans h_o
                          have h_pS : M56 (bd 0) = some (cI (K 0) 12 (zu pS put s0)) := (ho _ (zbd hbd 0 1)).trans h_pS
                          have h_sg : M56 (bd 2) = some (cI (K 0) 12 sg) := (ho _ (Ne.symm (zbd hbd 1 2))).trans h_sg
                          have h_lb : M56 (bd 3) = some (cI (K 0) 48 lb) := (ho _ (Ne.symm (zbd hbd 1 3))).trans h_lb
                          have h_oS : M56 (bd 4) = some (cI (K 0) 12 oS) := (ho _ (Ne.symm (zbd hbd 1 4))).trans h_oS
                          have h_oL : M56 (bd 5) = some (cI (K 0) 48 oL) := (ho _ (Ne.symm (zbd hbd 1 5))).trans h_oL
                          have h_rw : M56 (bd 6) = some (cI (K 0) 48 rw) := (ho _ (Ne.symm (zbd hbd 1 6))).trans h_rw
                          have h_fr : M56 (bd 7) = some (cI (K 0) 48 fr) := (ho _ (Ne.symm (zbd hbd 1 7))).trans h_fr
                          have h_pi : M56 (bd 8) = some (cI (K 0) 12 pi) := (ho _ (Ne.symm (zbd hbd 1 8))).trans h_pi
                          have h_fo : M56 (bd 9) = some (cI (K 0) 48 fo) := (ho _ (Ne.symm (zbd hbd 1 9))).trans h_fo
                          have h_al : M56 (bd 10) = some (cI (K 0) 40 al) := (ho _ (Ne.symm (zbd hbd 1 10))).trans h_al
                          have h_on : M56 (bd 11) = some (cI (K 0) 384 on) := (ho _ (Ne.symm (zbd hbd 1 11))).trans h_on
                          have h_tw : M56 (bd 12) = some (cI (K 0) 384 tw) := (ho _ (Ne.symm (zbd hbd 1 12))).trans h_tw
                          have h_sm : M56 (bd 13) = some (cJ (K 1) 114688 sm) := (ho _ (Ne.symm (zbd hbd 1 13))).trans h_sm
                          have h_av : M56 (bd 14) = some (cJ (K 1) 2100 av) := (ho _ (Ne.symm (zbd hbd 1 14))).trans h_av
                          have h_po : M56 (bd 15) = some (cJ (K 1) 14 po) := (ho _ (Ne.symm (zbd hbd 1 15))).trans h_po
                          have h_le : M56 (bd 16) = some (cJ (K 1) 28 le) := (ho _ (Ne.symm (zbd hbd 1 16))).trans h_le
                          have h_gd : M56 (bd 17) = some (cI (K 0) 384 gd) := (ho _ (Ne.symm (zbd hbd 1 17))).trans h_gd
                          have h_pL : M56 (bd 1) = some (cI (K 0) 48 (zu (zu (zu pL (4 * put) l0) ((4 * put) + 1) l1) ((4 * put) + 2) l2)) := hs
                          have hfr : ∀ q, q ≠ o → (∀ i, i < 18 → q ≠ bd i) → M56 q = M q := fun q g0 g1 => (ho q (g1 1 (by decide))).trans (hfr q g0 g1)
                          refine lv_aload_n hx hb d_MM_crossing_132 rfl (lv_at hl 1 rfl) ?_
                          refine zq_get hx hb hts i_MM hown hK hw h_o rfl 4 (by decide) (hts _ tw_590) rfl d_MM_crossing_133 ?_
                          refine lv_iconst (v := iI 4) hx hb d_MM_crossing_136 rfl ?_
                          refine lv_aload_n hx hb d_MM_crossing_137 rfl (lv_at hl 1 rfl) ?_
                          refine zq_get hx hb hts i_MM hown hK hw h_o rfl 1 (by decide) (hts _ tw_587) rfl d_MM_crossing_138 ?_
                          refine zq_imul hx hb d_MM_crossing_141 ?_
                          refine lv_iconst (v := iI 3) hx hb d_MM_crossing_142 rfl ?_
                          refine zq_iadd hx hb d_MM_crossing_143 ?_
                          refine lv_iload hx hb d_MM_crossing_144 (lv_at hl 6 rfl) ?_
                          refine zq_iast hx hb hK hw 0 h_pL rfl (by omega) (by omega) (by decide) d_MM_crossing_146 (fun M57 H locs hs ho hw => ?_)
                          have h_o : M57 o = some (.inr (9, [.int (iI th), .int (iI put), .int (iI wr), .ref (bd 0), .ref (bd 1), .int (iI nn), .int (iI cir), .int (iI oN), .int (iI oC), .ref (bd 2), .ref (bd 3), .ref (bd 4), .ref (bd 5), .int (iI lbs), .ref (bd 6), .ref (bd 7), .ref (bd 8), .int (iI fcs), .ref (bd 9), .int (iI arcs), .ref (bd 10), .ref (bd 11), .ref (bd 12), .ref (bd 13), .int (iI mns), .ref (bd 14), .ref (bd 15), .ref (bd 16), .int (iI kn), .ref (bd 17)])) := (ho _ (zq_ne h_o h_pL (by simp))).trans h_o
                          have h_pS : M57 (bd 0) = some (cI (K 0) 12 (zu pS put s0)) := (ho _ (zbd hbd 0 1)).trans h_pS
                          have h_sg : M57 (bd 2) = some (cI (K 0) 12 sg) := (ho _ (Ne.symm (zbd hbd 1 2))).trans h_sg
                          have h_lb : M57 (bd 3) = some (cI (K 0) 48 lb) := (ho _ (Ne.symm (zbd hbd 1 3))).trans h_lb
                          have h_oS : M57 (bd 4) = some (cI (K 0) 12 oS) := (ho _ (Ne.symm (zbd hbd 1 4))).trans h_oS
                          have h_oL : M57 (bd 5) = some (cI (K 0) 48 oL) := (ho _ (Ne.symm (zbd hbd 1 5))).trans h_oL
                          have h_rw : M57 (bd 6) = some (cI (K 0) 48 rw) := (ho _ (Ne.symm (zbd hbd 1 6))).trans h_rw
                          have h_fr : M57 (bd 7) = some (cI (K 0) 48 fr) := (ho _ (Ne.symm (zbd hbd 1 7))).trans h_fr
                          have h_pi : M57 (bd 8) = some (cI (K 0) 12 pi) := (ho _ (Ne.symm (zbd hbd 1 8))).trans h_pi
                          have h_fo : M57 (bd 9) = some (cI (K 0) 48 fo) := (ho _ (Ne.symm (zbd hbd 1 9))).trans h_fo
                          have h_al : M57 (bd 10) = some (cI (K 0) 40 al) := (ho _ (Ne.symm (zbd hbd 1 10))).trans h_al
                          have h_on : M57 (bd 11) = some (cI (K 0) 384 on) := (ho _ (Ne.symm (zbd hbd 1 11))).trans h_on
                          have h_tw : M57 (bd 12) = some (cI (K 0) 384 tw) := (ho _ (Ne.symm (zbd hbd 1 12))).trans h_tw
                          have h_sm : M57 (bd 13) = some (cJ (K 1) 114688 sm) := (ho _ (Ne.symm (zbd hbd 1 13))).trans h_sm
                          have h_av : M57 (bd 14) = some (cJ (K 1) 2100 av) := (ho _ (Ne.symm (zbd hbd 1 14))).trans h_av
                          have h_po : M57 (bd 15) = some (cJ (K 1) 14 po) := (ho _ (Ne.symm (zbd hbd 1 15))).trans h_po
                          have h_le : M57 (bd 16) = some (cJ (K 1) 28 le) := (ho _ (Ne.symm (zbd hbd 1 16))).trans h_le
                          have h_gd : M57 (bd 17) = some (cI (K 0) 384 gd) := (ho _ (Ne.symm (zbd hbd 1 17))).trans h_gd
                          have h_pL : M57 (bd 1) = some (cI (K 0) 48 (zu (zu (zu (zu pL (4 * put) l0) ((4 * put) + 1) l1) ((4 * put) + 2) l2) ((4 * put) + 3) l3)) := hs
                          have hfr : ∀ q, q ≠ o → (∀ i, i < 18 → q ≠ bd i) → M57 q = M q := fun q g0 g1 => (ho q (g1 1 (by decide))).trans (hfr q g0 g1)
                          refine lv_aload_n hx hb d_MM_crossing_147 rfl (lv_at hl 1 rfl) ?_
                          refine lv_dup hx hb d_MM_crossing_148 rfl ?_
                          refine zq_get hx hb hts i_MM hown hK hw h_o rfl 1 (by decide) (hts _ tw_587) rfl d_MM_crossing_149 ?_
                          refine lv_iconst (v := iI 1) hx hb d_MM_crossing_152 rfl ?_
                          refine zq_iadd hx hb d_MM_crossing_153 ?_
                          refine zq_put (ci := 9) (v := .int (iI (put + 1))) (ty := .int) hx hb hts i_MM t_MM t_MM_ok n_MM hown hK hw h_o rfl 1 (by decide) (hts _ tw_587) rfl (by decide +kernel) rfl rfl (Nat.le_of_ble_eq_true rfl) d_MM_crossing_154 (fun M58 H locs hs ho hw => ?_)
                          have h_pS : M58 (bd 0) = some (cI (K 0) 12 (zu pS put s0)) := (ho _ (zq_ne h_pS h_o (by simp))).trans h_pS
                          have h_pL : M58 (bd 1) = some (cI (K 0) 48 (zu (zu (zu (zu pL (4 * put) l0) ((4 * put) + 1) l1) ((4 * put) + 2) l2) ((4 * put) + 3) l3)) := (ho _ (zq_ne h_pL h_o (by simp))).trans h_pL
                          have h_sg : M58 (bd 2) = some (cI (K 0) 12 sg) := (ho _ (zq_ne h_sg h_o (by simp))).trans h_sg
                          have h_lb : M58 (bd 3) = some (cI (K 0) 48 lb) := (ho _ (zq_ne h_lb h_o (by simp))).trans h_lb
                          have h_oS : M58 (bd 4) = some (cI (K 0) 12 oS) := (ho _ (zq_ne h_oS h_o (by simp))).trans h_oS
                          have h_oL : M58 (bd 5) = some (cI (K 0) 48 oL) := (ho _ (zq_ne h_oL h_o (by simp))).trans h_oL
                          have h_rw : M58 (bd 6) = some (cI (K 0) 48 rw) := (ho _ (zq_ne h_rw h_o (by simp))).trans h_rw
                          have h_fr : M58 (bd 7) = some (cI (K 0) 48 fr) := (ho _ (zq_ne h_fr h_o (by simp))).trans h_fr
                          have h_pi : M58 (bd 8) = some (cI (K 0) 12 pi) := (ho _ (zq_ne h_pi h_o (by simp))).trans h_pi
                          have h_fo : M58 (bd 9) = some (cI (K 0) 48 fo) := (ho _ (zq_ne h_fo h_o (by simp))).trans h_fo
                          have h_al : M58 (bd 10) = some (cI (K 0) 40 al) := (ho _ (zq_ne h_al h_o (by simp))).trans h_al
                          have h_on : M58 (bd 11) = some (cI (K 0) 384 on) := (ho _ (zq_ne h_on h_o (by simp))).trans h_on
                          have h_tw : M58 (bd 12) = some (cI (K 0) 384 tw) := (ho _ (zq_ne h_tw h_o (by simp))).trans h_tw
                          have h_sm : M58 (bd 13) = some (cJ (K 1) 114688 sm) := (ho _ (zq_ne h_sm h_o (by simp))).trans h_sm
                          have h_av : M58 (bd 14) = some (cJ (K 1) 2100 av) := (ho _ (zq_ne h_av h_o (by simp))).trans h_av
                          have h_po : M58 (bd 15) = some (cJ (K 1) 14 po) := (ho _ (zq_ne h_po h_o (by simp))).trans h_po
                          have h_le : M58 (bd 16) = some (cJ (K 1) 28 le) := (ho _ (zq_ne h_le h_o (by simp))).trans h_le
                          have h_gd : M58 (bd 17) = some (cI (K 0) 384 gd) := (ho _ (zq_ne h_gd h_o (by simp))).trans h_gd
                          have h_o : M58 o = some (.inr (9, [.int (iI th), .int (iI (put + 1)), .int (iI wr), .ref (bd 0), .ref (bd 1), .int (iI nn), .int (iI cir), .int (iI oN), .int (iI oC), .ref (bd 2), .ref (bd 3), .ref (bd 4), .ref (bd 5), .int (iI lbs), .ref (bd 6), .ref (bd 7), .ref (bd 8), .int (iI fcs), .ref (bd 9), .int (iI arcs), .ref (bd 10), .ref (bd 11), .ref (bd 12), .ref (bd 13), .int (iI mns), .ref (bd 14), .ref (bd 15), .ref (bd 16), .int (iI kn), .ref (bd 17)])) := hs
                          have hfr : ∀ q, q ≠ o → (∀ i, i < 18 → q ≠ bd i) → M58 q = M q := fun q g0 g1 => (ho q g0).trans (hfr q g0 g1)
                          refine lv_aload_n hx hb d_MM_crossing_157 rfl (lv_at hl 1 rfl) ?_
                          refine zq_get hx hb hts i_MM hown hK hw h_o rfl 1 (by decide) (hts _ tw_587) rfl d_MM_crossing_158 ?_
                          exact zq_iret hx hb hr hlocks hZ hw ⟨_, rfl, Or.inr ⟨by omega, by omega, rfl, ⟨_, _, _, _, _, _, _, _, _, _, _, _, _, _, _, h_o, hbd, h_pS, h_pL, h_sg, h_lb, h_oS, h_oL, h_rw, h_fr, h_pi, h_fo, h_al, h_on, h_tw, h_sm, h_av, h_po, h_le, h_gd, fun j => ⟨(zu_in hpS hs0) j, (zu_in (zu_in (zu_in (zu_in hpL hl0) hl1) hl2) hl3) j, hsg j, hlb j, hoS j, hoL j, hrw j, hfo j, hal j⟩⟩, hfr⟩⟩ d_MM_crossing_161
                        · refine lv_iconst (v := iI (-1)) hx hb d_MM_crossing_79 rfl ?_
                          exact zq_iret hx hb hr hlocks hZ hw ⟨-1, rfl, Or.inl ⟨by omega, rfl, rfl⟩⟩ d_MM_crossing_80
abbrev P_MM_check (K : Nat → ClassId) (M : zq_M) (o : Nat) (bd : Nat → Nat) (put : Int) (pS : Int → Int) (pL : Int → Int) (nn : Int) (cir : Int) (sg : Int → Int) (lb : Int → Int) (kn : Int) (arcs : Int) (al : Int → Int) (on : Int → Int) (tw : Int → Int) (mns : Int) (av : Int → Int) (po : Int → Int) (ci : Int) : Option Value → zq_M → Prop := fun v M' => ∃ r, v = some (.int (iI r)) ∧ (((ci < 0 ∨ 9 < ci) ∧ r = -1 ∧ M' = M) ∨ ((0 ≤ ci ∧ ci ≤ 9) ∧ zFt (zcp pS sg put) (zcp pL lb (4 * put)) put r ∧ ((r ≠ 0 ∧ ∃ sg' lb', (∀ z, 0 ≤ z → z < 12 → sg' z = sg z) ∧ (∀ z, 0 ≤ z → z < 48 → lb' z = lb z) ∧ zMK K M' o bd 0 pS pL nn cir sg' lb' 0 arcs al on tw mns av po) ∨ (r = 0 ∧ zMK K M' o bd 0 pS pL put ci (zcp pS sg put) (zcp pL lb (4 * put)) 0 arcs al on tw mns av po)) ∧ ∀ q, q ≠ o → (∀ i, i < 18 → q ≠ bd i) → M' q = M q))
set_option maxHeartbeats 4000000 in
set_option maxRecDepth 100000 in
theorem c_MM_check (l : Launch) (D : va_G) (K : Nat → ClassId) (M : zq_M) (o : Nat) (bd : Nat → Nat) (put : Int) (pS : Int → Int) (pL : Int → Int) (nn : Int) (cir : Int) (sg : Int → Int) (lb : Int → Int) (kn : Int) (arcs : Int) (al : Int → Int) (on : Int → Int) (tw : Int → Int) (mns : Int) (av : Int → Int) (po : Int → Int) (ci : Int) (hS : zMK K M o bd put pS pL nn cir sg lb kn arcs al on tw mns av po) (hput : 0 ≤ put ∧ put ≤ 12) (hpl : ∀ z, 0 ≤ z → z < 4 * put → 1 ≤ pL z ∧ pL z ≤ 9999) (hci : inI ci) : zq_Met l y_MM_check (.code y_MM_check b_MM_check 3 (some .int) :: lw_gd) { frames := 6, cells := 0, slots := 0, locals := 136 } D vwCl (zT K) [.ref o, .int (iI ci)] M (P_MM_check K M o bd put pS pL nn cir sg lb kn arcs al on tw mns av po ci) 0 0 := by
  refine zq_start (cc := b_MM_check) (maxL := 3) (ret := (some .int)) (by decide) rfl (Nat.le_of_ble_eq_true rfl) ?_
  intro p e s m below meth co A ls hx hb hr hml hts hown hnm hlocks hA hZ hw hl
  have hts : ∀ w ∈ lw_gd, w.before [.ref o, .int (iI ci)].toArray s = true := fun w h => hts w (List.mem_cons_of_mem _ h)
  have hown : s.vm.findClass R_MM = some m.cls := hown
  have hK := hZ.1
  have hl : lv_has ls 3 [(0, .ref o), (1, .int (iI ci))] := hl
  have hfr : ∀ q, q ≠ o → (∀ i, i < 18 → q ≠ bd i) → M q = M q := fun q _ _ => rfl
  obtain ⟨th, wr, oN, oC, lbs, fcs, oS, oL, rw, fr, pi, fo, sm, le, gd, h_o, hbd, h_pS, h_pL, h_sg, h_lb, h_oS, h_oL, h_rw, h_fr, h_pi, h_fo, h_al, h_on, h_tw, h_sm, h_av, h_po, h_le, h_gd, hrg⟩ := hS
  have hpS : ∀ j, inI (pS j) := fun j => (hrg j).1
  have hpL : ∀ j, inI (pL j) := fun j => (hrg j).2.1
  have hsg : ∀ j, inI (sg j) := fun j => (hrg j).2.2.1
  have hlb : ∀ j, inI (lb j) := fun j => (hrg j).2.2.2.1
  have hoS : ∀ j, inI (oS j) := fun j => (hrg j).2.2.2.2.1
  have hoL : ∀ j, inI (oL j) := fun j => (hrg j).2.2.2.2.2.1
  have hrw : ∀ j, inI (rw j) := fun j => (hrg j).2.2.2.2.2.2.1
  have hfo : ∀ j, inI (fo j) := fun j => (hrg j).2.2.2.2.2.2.2.1
  have hal : ∀ j, inI (al j) := fun j => (hrg j).2.2.2.2.2.2.2.2
  refine lv_iload_n hx hb d_MM_check_0 rfl (lv_at hl 1 rfl) ?_
  refine zq_if_lt (tgt := 10) hx hb d_MM_check_1 (by decide) hci (fun hc1 => ?_) (fun hc1 => ?_)
  · refine lv_iconst (v := iI (-1)) hx hb d_MM_check_10 rfl ?_
    exact zq_iret hx hb hr hlocks hZ hw ⟨-1, rfl, Or.inl ⟨by omega, rfl, rfl⟩⟩ d_MM_check_11
  · refine lv_iload_n hx hb d_MM_check_4 rfl (lv_at hl 1 rfl) ?_
    refine lv_bipush (v := iI 9) hx hb d_MM_check_5 (by decide) ?_
    refine zq_icmp_le (tgt := 12) hx hb d_MM_check_7 (by decide) hci (by decide) (fun hc2 => ?_) (fun hc2 => ?_)
    · refine lv_aload_n hx hb d_MM_check_12 rfl (lv_at hl 0 rfl) ?_
      refine zq_callV (As := []) (rest := []) ⟨hx, hb, hml, hown, hts⟩ (c_MM_take l D K M o bd th put wr nn cir oN oC lbs fcs arcs mns kn pS pL sg lb oS oL   h_o hbd h_pS h_pL h_sg h_lb h_oS h_oL hput) (cwV 0 hts (zg_V tw_685 tw_687 ts_26 tw_10 tw_688) rfl rfl rfl (by decide +kernel) ⟨Nat.le_of_ble_eq_true rfl, Nat.le_of_ble_eq_true rfl⟩) hZ hw hA h_o rfl rfl rfl rfl hl.1 (Nat.le_of_ble_eq_true rfl) d_MM_check_13 ⟨Nat.le_of_ble_eq_true rfl, Nat.le_of_ble_eq_true rfl⟩ (fun v M3 H locs hp hw => ?_)
      obtain ⟨rfl, hs1, hs2, hs3, hs4, hs5, ho⟩ := hp
      have h_pS : M3 (bd 0) = some (cI (K 0) 12 pS) := (ho _ (zq_ne h_pS h_o (by simp)) (zbd hbd 0 4) (zbd hbd 0 5) (zbd hbd 0 2) (zbd hbd 0 3)).trans h_pS
      have h_pL : M3 (bd 1) = some (cI (K 0) 48 pL) := (ho _ (zq_ne h_pL h_o (by simp)) (zbd hbd 1 4) (zbd hbd 1 5) (zbd hbd 1 2) (zbd hbd 1 3)).trans h_pL
      have h_rw : M3 (bd 6) = some (cI (K 0) 48 rw) := (ho _ (zq_ne h_rw h_o (by simp)) (Ne.symm (zbd hbd 4 6)) (Ne.symm (zbd hbd 5 6)) (Ne.symm (zbd hbd 2 6)) (Ne.symm (zbd hbd 3 6))).trans h_rw
      have h_fr : M3 (bd 7) = some (cI (K 0) 48 fr) := (ho _ (zq_ne h_fr h_o (by simp)) (Ne.symm (zbd hbd 4 7)) (Ne.symm (zbd hbd 5 7)) (Ne.symm (zbd hbd 2 7)) (Ne.symm (zbd hbd 3 7))).trans h_fr
      have h_pi : M3 (bd 8) = some (cI (K 0) 12 pi) := (ho _ (zq_ne h_pi h_o (by simp)) (Ne.symm (zbd hbd 4 8)) (Ne.symm (zbd hbd 5 8)) (Ne.symm (zbd hbd 2 8)) (Ne.symm (zbd hbd 3 8))).trans h_pi
      have h_fo : M3 (bd 9) = some (cI (K 0) 48 fo) := (ho _ (zq_ne h_fo h_o (by simp)) (Ne.symm (zbd hbd 4 9)) (Ne.symm (zbd hbd 5 9)) (Ne.symm (zbd hbd 2 9)) (Ne.symm (zbd hbd 3 9))).trans h_fo
      have h_al : M3 (bd 10) = some (cI (K 0) 40 al) := (ho _ (zq_ne h_al h_o (by simp)) (Ne.symm (zbd hbd 4 10)) (Ne.symm (zbd hbd 5 10)) (Ne.symm (zbd hbd 2 10)) (Ne.symm (zbd hbd 3 10))).trans h_al
      have h_on : M3 (bd 11) = some (cI (K 0) 384 on) := (ho _ (zq_ne h_on h_o (by simp)) (Ne.symm (zbd hbd 4 11)) (Ne.symm (zbd hbd 5 11)) (Ne.symm (zbd hbd 2 11)) (Ne.symm (zbd hbd 3 11))).trans h_on
      have h_tw : M3 (bd 12) = some (cI (K 0) 384 tw) := (ho _ (zq_ne h_tw h_o (by simp)) (Ne.symm (zbd hbd 4 12)) (Ne.symm (zbd hbd 5 12)) (Ne.symm (zbd hbd 2 12)) (Ne.symm (zbd hbd 3 12))).trans h_tw
      have h_sm : M3 (bd 13) = some (cJ (K 1) 114688 sm) := (ho _ (zq_ne h_sm h_o (by simp)) (Ne.symm (zbd hbd 4 13)) (Ne.symm (zbd hbd 5 13)) (Ne.symm (zbd hbd 2 13)) (Ne.symm (zbd hbd 3 13))).trans h_sm
      have h_av : M3 (bd 14) = some (cJ (K 1) 2100 av) := (ho _ (zq_ne h_av h_o (by simp)) (Ne.symm (zbd hbd 4 14)) (Ne.symm (zbd hbd 5 14)) (Ne.symm (zbd hbd 2 14)) (Ne.symm (zbd hbd 3 14))).trans h_av
      have h_po : M3 (bd 15) = some (cJ (K 1) 14 po) := (ho _ (zq_ne h_po h_o (by simp)) (Ne.symm (zbd hbd 4 15)) (Ne.symm (zbd hbd 5 15)) (Ne.symm (zbd hbd 2 15)) (Ne.symm (zbd hbd 3 15))).trans h_po
      have h_le : M3 (bd 16) = some (cJ (K 1) 28 le) := (ho _ (zq_ne h_le h_o (by simp)) (Ne.symm (zbd hbd 4 16)) (Ne.symm (zbd hbd 5 16)) (Ne.symm (zbd hbd 2 16)) (Ne.symm (zbd hbd 3 16))).trans h_le
      have h_gd : M3 (bd 17) = some (cI (K 0) 384 gd) := (ho _ (zq_ne h_gd h_o (by simp)) (Ne.symm (zbd hbd 4 17)) (Ne.symm (zbd hbd 5 17)) (Ne.symm (zbd hbd 2 17)) (Ne.symm (zbd hbd 3 17))).trans h_gd
      have h_o : M3 o = some (.inr (9, [.int (iI th), .int (iI 0), .int (iI wr), .ref (bd 0), .ref (bd 1), .int (iI put), .int (iI cir), .int (iI nn), .int (iI cir), .ref (bd 2), .ref (bd 3), .ref (bd 4), .ref (bd 5), .int (iI lbs), .ref (bd 6), .ref (bd 7), .ref (bd 8), .int (iI fcs), .ref (bd 9), .int (iI arcs), .ref (bd 10), .ref (bd 11), .ref (bd 12), .ref (bd 13), .int (iI mns), .ref (bd 14), .ref (bd 15), .ref (bd 16), .int (iI kn), .ref (bd 17)])) := hs1
      have h_oS : M3 (bd 4) = some (cI (K 0) 12 (zcp sg oS 12)) := hs2
      have h_oL : M3 (bd 5) = some (cI (K 0) 48 (zcp lb oL 48)) := hs3
      have h_sg : M3 (bd 2) = some (cI (K 0) 12 (zcp pS sg put)) := hs4
      have h_lb : M3 (bd 3) = some (cI (K 0) 48 (zcp pL lb (4 * put))) := hs5
      have hfr : ∀ q, q ≠ o → (∀ i, i < 18 → q ≠ bd i) → M3 q = M q := fun q g0 g1 => (ho q g0 (g1 4 (by decide)) (g1 5 (by decide)) (g1 2 (by decide)) (g1 3 (by decide))).trans (hfr q g0 g1)
      refine W.eq (g2 := F0 m 16 ls []) rfl ?_
      refine lv_aload_n hx hb d_MM_check_16 rfl (lv_at hl 0 rfl) ?_
      refine lv_iload_n hx hb d_MM_check_17 rfl (lv_at hl 1 rfl) ?_
      refine zq_put (ci := 9) (v := .int (iI ci)) (ty := .int) hx hb hts i_MM t_MM t_MM_ok n_MM hown hK hw h_o rfl 6 (by decide) (hts _ tw_592) rfl (by decide +kernel) rfl rfl (Nat.le_of_ble_eq_true rfl) d_MM_check_18 (fun M4 H locs hs ho hw => ?_)
      have h_pS : M4 (bd 0) = some (cI (K 0) 12 pS) := (ho _ (zq_ne h_pS h_o (by simp))).trans h_pS
      have h_pL : M4 (bd 1) = some (cI (K 0) 48 pL) := (ho _ (zq_ne h_pL h_o (by simp))).trans h_pL
      have h_sg : M4 (bd 2) = some (cI (K 0) 12 (zcp pS sg put)) := (ho _ (zq_ne h_sg h_o (by simp))).trans h_sg
      have h_lb : M4 (bd 3) = some (cI (K 0) 48 (zcp pL lb (4 * put))) := (ho _ (zq_ne h_lb h_o (by simp))).trans h_lb
      have h_oS : M4 (bd 4) = some (cI (K 0) 12 (zcp sg oS 12)) := (ho _ (zq_ne h_oS h_o (by simp))).trans h_oS
      have h_oL : M4 (bd 5) = some (cI (K 0) 48 (zcp lb oL 48)) := (ho _ (zq_ne h_oL h_o (by simp))).trans h_oL
      have h_rw : M4 (bd 6) = some (cI (K 0) 48 rw) := (ho _ (zq_ne h_rw h_o (by simp))).trans h_rw
      have h_fr : M4 (bd 7) = some (cI (K 0) 48 fr) := (ho _ (zq_ne h_fr h_o (by simp))).trans h_fr
      have h_pi : M4 (bd 8) = some (cI (K 0) 12 pi) := (ho _ (zq_ne h_pi h_o (by simp))).trans h_pi
      have h_fo : M4 (bd 9) = some (cI (K 0) 48 fo) := (ho _ (zq_ne h_fo h_o (by simp))).trans h_fo
      have h_al : M4 (bd 10) = some (cI (K 0) 40 al) := (ho _ (zq_ne h_al h_o (by simp))).trans h_al
      have h_on : M4 (bd 11) = some (cI (K 0) 384 on) := (ho _ (zq_ne h_on h_o (by simp))).trans h_on
      have h_tw : M4 (bd 12) = some (cI (K 0) 384 tw) := (ho _ (zq_ne h_tw h_o (by simp))).trans h_tw
      have h_sm : M4 (bd 13) = some (cJ (K 1) 114688 sm) := (ho _ (zq_ne h_sm h_o (by simp))).trans h_sm
      have h_av : M4 (bd 14) = some (cJ (K 1) 2100 av) := (ho _ (zq_ne h_av h_o (by simp))).trans h_av
      have h_po : M4 (bd 15) = some (cJ (K 1) 14 po) := (ho _ (zq_ne h_po h_o (by simp))).trans h_po
      have h_le : M4 (bd 16) = some (cJ (K 1) 28 le) := (ho _ (zq_ne h_le h_o (by simp))).trans h_le
      have h_gd : M4 (bd 17) = some (cI (K 0) 384 gd) := (ho _ (zq_ne h_gd h_o (by simp))).trans h_gd
      have h_o : M4 o = some (.inr (9, [.int (iI th), .int (iI 0), .int (iI wr), .ref (bd 0), .ref (bd 1), .int (iI put), .int (iI ci), .int (iI nn), .int (iI cir), .ref (bd 2), .ref (bd 3), .ref (bd 4), .ref (bd 5), .int (iI lbs), .ref (bd 6), .ref (bd 7), .ref (bd 8), .int (iI fcs), .ref (bd 9), .int (iI arcs), .ref (bd 10), .ref (bd 11), .ref (bd 12), .ref (bd 13), .int (iI mns), .ref (bd 14), .ref (bd 15), .ref (bd 16), .int (iI kn), .ref (bd 17)])) := hs
      have hfr : ∀ q, q ≠ o → (∀ i, i < 18 → q ≠ bd i) → M4 q = M q := fun q g0 g1 => (ho q g0).trans (hfr q g0 g1)
      refine lv_aload_n hx hb d_MM_check_21 rfl (lv_at hl 0 rfl) ?_
      refine zq_callV (As := []) (rest := []) ⟨hx, hb, hml, hown, hts⟩ (c_MM_fault l D K M4 o bd th 0 wr put ci nn cir lbs fcs arcs mns kn (zcp pS sg put) (zcp pL lb (4 * put)) rw pi fo   h_o hbd h_sg h_lb h_rw h_pi h_fo (zcp_in hpS hsg) (zcp_in hpL hlb) hput hrw hfo (fun z h1 h2 => by show 1 ≤ (if 0 ≤ z ∧ z < 4 * put then pL z else lb z) ∧ (if 0 ≤ z ∧ z < 4 * put then pL z else lb z) ≤ 9999; rw [if_pos ⟨h1, h2⟩]; exact hpl z h1 h2)) (cwV 0 hts (zg_V tw_689 tw_691 ts_27 tw_10 tw_692) rfl rfl rfl (by decide +kernel) ⟨Nat.le_of_ble_eq_true rfl, Nat.le_of_ble_eq_true rfl⟩) hZ hw hA h_o rfl rfl rfl rfl hl.1 (Nat.le_of_ble_eq_true rfl) d_MM_check_22 ⟨Nat.le_of_ble_eq_true rfl, Nat.le_of_ble_eq_true rfl⟩ (fun v M5 H locs hp hw => ?_)
      obtain ⟨rA, wA, cA, fA, gA, oA, FA, rfl, hFt, hs1, hs2, hs3, hs4, hrA, hoA, ho⟩ := hp
      have h_pS : M5 (bd 0) = some (cI (K 0) 12 pS) := (ho _ (zq_ne h_pS h_o (by simp)) (zbd hbd 0 6) (zbd hbd 0 8) (zbd hbd 0 9)).trans h_pS
      have h_pL : M5 (bd 1) = some (cI (K 0) 48 pL) := (ho _ (zq_ne h_pL h_o (by simp)) (zbd hbd 1 6) (zbd hbd 1 8) (zbd hbd 1 9)).trans h_pL
      have h_sg : M5 (bd 2) = some (cI (K 0) 12 (zcp pS sg put)) := (ho _ (zq_ne h_sg h_o (by simp)) (zbd hbd 2 6) (zbd hbd 2 8) (zbd hbd 2 9)).trans h_sg
      have h_lb : M5 (bd 3) = some (cI (K 0) 48 (zcp pL lb (4 * put))) := (ho _ (zq_ne h_lb h_o (by simp)) (zbd hbd 3 6) (zbd hbd 3 8) (zbd hbd 3 9)).trans h_lb
      have h_oS : M5 (bd 4) = some (cI (K 0) 12 (zcp sg oS 12)) := (ho _ (zq_ne h_oS h_o (by simp)) (zbd hbd 4 6) (zbd hbd 4 8) (zbd hbd 4 9)).trans h_oS
      have h_oL : M5 (bd 5) = some (cI (K 0) 48 (zcp lb oL 48)) := (ho _ (zq_ne h_oL h_o (by simp)) (zbd hbd 5 6) (zbd hbd 5 8) (zbd hbd 5 9)).trans h_oL
      have h_fr : M5 (bd 7) = some (cI (K 0) 48 fr) := (ho _ (zq_ne h_fr h_o (by simp)) (Ne.symm (zbd hbd 6 7)) (zbd hbd 7 8) (zbd hbd 7 9)).trans h_fr
      have h_al : M5 (bd 10) = some (cI (K 0) 40 al) := (ho _ (zq_ne h_al h_o (by simp)) (Ne.symm (zbd hbd 6 10)) (Ne.symm (zbd hbd 8 10)) (Ne.symm (zbd hbd 9 10))).trans h_al
      have h_on : M5 (bd 11) = some (cI (K 0) 384 on) := (ho _ (zq_ne h_on h_o (by simp)) (Ne.symm (zbd hbd 6 11)) (Ne.symm (zbd hbd 8 11)) (Ne.symm (zbd hbd 9 11))).trans h_on
      have h_tw : M5 (bd 12) = some (cI (K 0) 384 tw) := (ho _ (zq_ne h_tw h_o (by simp)) (Ne.symm (zbd hbd 6 12)) (Ne.symm (zbd hbd 8 12)) (Ne.symm (zbd hbd 9 12))).trans h_tw
      have h_sm : M5 (bd 13) = some (cJ (K 1) 114688 sm) := (ho _ (zq_ne h_sm h_o (by simp)) (Ne.symm (zbd hbd 6 13)) (Ne.symm (zbd hbd 8 13)) (Ne.symm (zbd hbd 9 13))).trans h_sm
      have h_av : M5 (bd 14) = some (cJ (K 1) 2100 av) := (ho _ (zq_ne h_av h_o (by simp)) (Ne.symm (zbd hbd 6 14)) (Ne.symm (zbd hbd 8 14)) (Ne.symm (zbd hbd 9 14))).trans h_av
      have h_po : M5 (bd 15) = some (cJ (K 1) 14 po) := (ho _ (zq_ne h_po h_o (by simp)) (Ne.symm (zbd hbd 6 15)) (Ne.symm (zbd hbd 8 15)) (Ne.symm (zbd hbd 9 15))).trans h_po
      have h_le : M5 (bd 16) = some (cJ (K 1) 28 le) := (ho _ (zq_ne h_le h_o (by simp)) (Ne.symm (zbd hbd 6 16)) (Ne.symm (zbd hbd 8 16)) (Ne.symm (zbd hbd 9 16))).trans h_le
      have h_gd : M5 (bd 17) = some (cI (K 0) 384 gd) := (ho _ (zq_ne h_gd h_o (by simp)) (Ne.symm (zbd hbd 6 17)) (Ne.symm (zbd hbd 8 17)) (Ne.symm (zbd hbd 9 17))).trans h_gd
      have h_o : M5 o = some (.inr (9, [.int (iI th), .int (iI 0), .int (iI wA), .ref (bd 0), .ref (bd 1), .int (iI put), .int (iI ci), .int (iI nn), .int (iI cir), .ref (bd 2), .ref (bd 3), .ref (bd 4), .ref (bd 5), .int (iI cA), .ref (bd 6), .ref (bd 7), .ref (bd 8), .int (iI FA), .ref (bd 9), .int (iI arcs), .ref (bd 10), .ref (bd 11), .ref (bd 12), .ref (bd 13), .int (iI mns), .ref (bd 14), .ref (bd 15), .ref (bd 16), .int (iI kn), .ref (bd 17)])) := hs1
      have h_rw : M5 (bd 6) = some (cI (K 0) 48 fA) := hs2
      have h_pi : M5 (bd 8) = some (cI (K 0) 12 gA) := hs3
      have h_fo : M5 (bd 9) = some (cI (K 0) 48 oA) := hs4
      have hfr : ∀ q, q ≠ o → (∀ i, i < 18 → q ≠ bd i) → M5 q = M q := fun q g0 g1 => (ho q g0 (g1 6 (by decide)) (g1 8 (by decide)) (g1 9 (by decide))).trans (hfr q g0 g1)
      refine W.eq (g2 := F0 m 25 ls [.int (iI rA)]) rfl ?_
      refine lv_istore_n (lv' := [(2, .int (iI rA)), (0, .ref o), (1, .int (iI ci))]) hx hb d_MM_check_25 rfl hl (by decide) rfl (fun ls hl => ?_)
      refine lv_iload_n hx hb d_MM_check_26 rfl (lv_at hl 0 rfl) ?_
      refine zq_if_le (tgt := 34) hx hb d_MM_check_27 (by decide) (by have := zFt_in hFt; exact ⟨by omega, by omega⟩) (fun hc6 => ?_) (fun hc6 => ?_)
      · refine lv_aload_n hx hb d_MM_check_34 rfl (lv_at hl 1 rfl) ?_
        refine lv_iconst (v := iI 0) hx hb d_MM_check_35 rfl ?_
        refine zq_put (ci := 9) (v := .int (iI 0)) (ty := .boolean) hx hb hts i_MM t_MM t_MM_ok n_MM hown hK hw h_o rfl 28 (by decide) (hts _ tw_614) rfl (by decide +kernel) rfl rfl (Nat.le_of_ble_eq_true rfl) d_MM_check_36 (fun M7 H locs hs ho hw => ?_)
        have h_pS : M7 (bd 0) = some (cI (K 0) 12 pS) := (ho _ (zq_ne h_pS h_o (by simp))).trans h_pS
        have h_pL : M7 (bd 1) = some (cI (K 0) 48 pL) := (ho _ (zq_ne h_pL h_o (by simp))).trans h_pL
        have h_sg : M7 (bd 2) = some (cI (K 0) 12 (zcp pS sg put)) := (ho _ (zq_ne h_sg h_o (by simp))).trans h_sg
        have h_lb : M7 (bd 3) = some (cI (K 0) 48 (zcp pL lb (4 * put))) := (ho _ (zq_ne h_lb h_o (by simp))).trans h_lb
        have h_oS : M7 (bd 4) = some (cI (K 0) 12 (zcp sg oS 12)) := (ho _ (zq_ne h_oS h_o (by simp))).trans h_oS
        have h_oL : M7 (bd 5) = some (cI (K 0) 48 (zcp lb oL 48)) := (ho _ (zq_ne h_oL h_o (by simp))).trans h_oL
        have h_rw : M7 (bd 6) = some (cI (K 0) 48 fA) := (ho _ (zq_ne h_rw h_o (by simp))).trans h_rw
        have h_fr : M7 (bd 7) = some (cI (K 0) 48 fr) := (ho _ (zq_ne h_fr h_o (by simp))).trans h_fr
        have h_pi : M7 (bd 8) = some (cI (K 0) 12 gA) := (ho _ (zq_ne h_pi h_o (by simp))).trans h_pi
        have h_fo : M7 (bd 9) = some (cI (K 0) 48 oA) := (ho _ (zq_ne h_fo h_o (by simp))).trans h_fo
        have h_al : M7 (bd 10) = some (cI (K 0) 40 al) := (ho _ (zq_ne h_al h_o (by simp))).trans h_al
        have h_on : M7 (bd 11) = some (cI (K 0) 384 on) := (ho _ (zq_ne h_on h_o (by simp))).trans h_on
        have h_tw : M7 (bd 12) = some (cI (K 0) 384 tw) := (ho _ (zq_ne h_tw h_o (by simp))).trans h_tw
        have h_sm : M7 (bd 13) = some (cJ (K 1) 114688 sm) := (ho _ (zq_ne h_sm h_o (by simp))).trans h_sm
        have h_av : M7 (bd 14) = some (cJ (K 1) 2100 av) := (ho _ (zq_ne h_av h_o (by simp))).trans h_av
        have h_po : M7 (bd 15) = some (cJ (K 1) 14 po) := (ho _ (zq_ne h_po h_o (by simp))).trans h_po
        have h_le : M7 (bd 16) = some (cJ (K 1) 28 le) := (ho _ (zq_ne h_le h_o (by simp))).trans h_le
        have h_gd : M7 (bd 17) = some (cI (K 0) 384 gd) := (ho _ (zq_ne h_gd h_o (by simp))).trans h_gd
        have h_o : M7 o = some (.inr (9, [.int (iI th), .int (iI 0), .int (iI wA), .ref (bd 0), .ref (bd 1), .int (iI put), .int (iI ci), .int (iI nn), .int (iI cir), .ref (bd 2), .ref (bd 3), .ref (bd 4), .ref (bd 5), .int (iI cA), .ref (bd 6), .ref (bd 7), .ref (bd 8), .int (iI FA), .ref (bd 9), .int (iI arcs), .ref (bd 10), .ref (bd 11), .ref (bd 12), .ref (bd 13), .int (iI mns), .ref (bd 14), .ref (bd 15), .ref (bd 16), .int (iI 0), .ref (bd 17)])) := hs
        have hfr : ∀ q, q ≠ o → (∀ i, i < 18 → q ≠ bd i) → M7 q = M q := fun q g0 g1 => (ho q g0).trans (hfr q g0 g1)
        refine lv_iload_n hx hb d_MM_check_39 rfl (lv_at hl 0 rfl) ?_
        exact zq_iret hx hb hr hlocks hZ hw ⟨rA, rfl, Or.inr ⟨⟨by omega, by omega⟩, hFt, Or.inr ⟨by have := zFt_in hFt; omega, ⟨_, _, _, _, _, _, _, _, _, _, _, _, _, _, _, h_o, hbd, h_pS, h_pL, h_sg, h_lb, h_oS, h_oL, h_rw, h_fr, h_pi, h_fo, h_al, h_on, h_tw, h_sm, h_av, h_po, h_le, h_gd, fun j => ⟨hpS j, hpL j, (zcp_in hpS hsg) j, (zcp_in hpL hlb) j, (zcp_in hsg hoS) j, (zcp_in hlb hoL) j, hrA j, hoA j, hal j⟩⟩⟩, hfr⟩⟩ d_MM_check_40
      · refine lv_aload_n hx hb d_MM_check_30 rfl (lv_at hl 1 rfl) ?_
        refine zq_callV (As := []) (rest := []) ⟨hx, hb, hml, hown, hts⟩ (c_MM_back l D K M5 o bd th 0 wA put ci nn cir cA FA arcs mns kn (zcp pS sg put) (zcp pL lb (4 * put)) (zcp sg oS 12) (zcp lb oL 48)   h_o hbd h_sg h_lb h_oS h_oL ) (cwV 0 hts (zg_V tw_733 tw_735 ts_38 tw_10 tw_736) rfl rfl rfl (by decide +kernel) ⟨Nat.le_of_ble_eq_true rfl, Nat.le_of_ble_eq_true rfl⟩) hZ hw hA h_o rfl rfl rfl rfl hl.1 (Nat.le_of_ble_eq_true rfl) d_MM_check_31 ⟨Nat.le_of_ble_eq_true rfl, Nat.le_of_ble_eq_true rfl⟩ (fun v M8 H locs hp hw => ?_)
        obtain ⟨rfl, hs1, hs2, hs3, ho⟩ := hp
        have h_pS : M8 (bd 0) = some (cI (K 0) 12 pS) := (ho _ (zq_ne h_pS h_o (by simp)) (zbd hbd 0 2) (zbd hbd 0 3)).trans h_pS
        have h_pL : M8 (bd 1) = some (cI (K 0) 48 pL) := (ho _ (zq_ne h_pL h_o (by simp)) (zbd hbd 1 2) (zbd hbd 1 3)).trans h_pL
        have h_oS : M8 (bd 4) = some (cI (K 0) 12 (zcp sg oS 12)) := (ho _ (zq_ne h_oS h_o (by simp)) (Ne.symm (zbd hbd 2 4)) (Ne.symm (zbd hbd 3 4))).trans h_oS
        have h_oL : M8 (bd 5) = some (cI (K 0) 48 (zcp lb oL 48)) := (ho _ (zq_ne h_oL h_o (by simp)) (Ne.symm (zbd hbd 2 5)) (Ne.symm (zbd hbd 3 5))).trans h_oL
        have h_rw : M8 (bd 6) = some (cI (K 0) 48 fA) := (ho _ (zq_ne h_rw h_o (by simp)) (Ne.symm (zbd hbd 2 6)) (Ne.symm (zbd hbd 3 6))).trans h_rw
        have h_fr : M8 (bd 7) = some (cI (K 0) 48 fr) := (ho _ (zq_ne h_fr h_o (by simp)) (Ne.symm (zbd hbd 2 7)) (Ne.symm (zbd hbd 3 7))).trans h_fr
        have h_pi : M8 (bd 8) = some (cI (K 0) 12 gA) := (ho _ (zq_ne h_pi h_o (by simp)) (Ne.symm (zbd hbd 2 8)) (Ne.symm (zbd hbd 3 8))).trans h_pi
        have h_fo : M8 (bd 9) = some (cI (K 0) 48 oA) := (ho _ (zq_ne h_fo h_o (by simp)) (Ne.symm (zbd hbd 2 9)) (Ne.symm (zbd hbd 3 9))).trans h_fo
        have h_al : M8 (bd 10) = some (cI (K 0) 40 al) := (ho _ (zq_ne h_al h_o (by simp)) (Ne.symm (zbd hbd 2 10)) (Ne.symm (zbd hbd 3 10))).trans h_al
        have h_on : M8 (bd 11) = some (cI (K 0) 384 on) := (ho _ (zq_ne h_on h_o (by simp)) (Ne.symm (zbd hbd 2 11)) (Ne.symm (zbd hbd 3 11))).trans h_on
        have h_tw : M8 (bd 12) = some (cI (K 0) 384 tw) := (ho _ (zq_ne h_tw h_o (by simp)) (Ne.symm (zbd hbd 2 12)) (Ne.symm (zbd hbd 3 12))).trans h_tw
        have h_sm : M8 (bd 13) = some (cJ (K 1) 114688 sm) := (ho _ (zq_ne h_sm h_o (by simp)) (Ne.symm (zbd hbd 2 13)) (Ne.symm (zbd hbd 3 13))).trans h_sm
        have h_av : M8 (bd 14) = some (cJ (K 1) 2100 av) := (ho _ (zq_ne h_av h_o (by simp)) (Ne.symm (zbd hbd 2 14)) (Ne.symm (zbd hbd 3 14))).trans h_av
        have h_po : M8 (bd 15) = some (cJ (K 1) 14 po) := (ho _ (zq_ne h_po h_o (by simp)) (Ne.symm (zbd hbd 2 15)) (Ne.symm (zbd hbd 3 15))).trans h_po
        have h_le : M8 (bd 16) = some (cJ (K 1) 28 le) := (ho _ (zq_ne h_le h_o (by simp)) (Ne.symm (zbd hbd 2 16)) (Ne.symm (zbd hbd 3 16))).trans h_le
        have h_gd : M8 (bd 17) = some (cI (K 0) 384 gd) := (ho _ (zq_ne h_gd h_o (by simp)) (Ne.symm (zbd hbd 2 17)) (Ne.symm (zbd hbd 3 17))).trans h_gd
        have h_o : M8 o = some (.inr (9, [.int (iI th), .int (iI 0), .int (iI wA), .ref (bd 0), .ref (bd 1), .int (iI nn), .int (iI cir), .int (iI nn), .int (iI cir), .ref (bd 2), .ref (bd 3), .ref (bd 4), .ref (bd 5), .int (iI cA), .ref (bd 6), .ref (bd 7), .ref (bd 8), .int (iI FA), .ref (bd 9), .int (iI arcs), .ref (bd 10), .ref (bd 11), .ref (bd 12), .ref (bd 13), .int (iI mns), .ref (bd 14), .ref (bd 15), .ref (bd 16), .int (iI kn), .ref (bd 17)])) := hs1
        have h_sg : M8 (bd 2) = some (cI (K 0) 12 (zcp (zcp sg oS 12) (zcp pS sg put) 12)) := hs2
        have h_lb : M8 (bd 3) = some (cI (K 0) 48 (zcp (zcp lb oL 48) (zcp pL lb (4 * put)) 48)) := hs3
        have hfr : ∀ q, q ≠ o → (∀ i, i < 18 → q ≠ bd i) → M8 q = M q := fun q g0 g1 => (ho q g0 (g1 2 (by decide)) (g1 3 (by decide))).trans (hfr q g0 g1)
        refine W.eq (g2 := F0 m 34 ls []) rfl ?_
        refine lv_aload_n hx hb d_MM_check_34 rfl (lv_at hl 1 rfl) ?_
        refine lv_iconst (v := iI 0) hx hb d_MM_check_35 rfl ?_
        refine zq_put (ci := 9) (v := .int (iI 0)) (ty := .boolean) hx hb hts i_MM t_MM t_MM_ok n_MM hown hK hw h_o rfl 28 (by decide) (hts _ tw_614) rfl (by decide +kernel) rfl rfl (Nat.le_of_ble_eq_true rfl) d_MM_check_36 (fun M9 H locs hs ho hw => ?_)
        have h_pS : M9 (bd 0) = some (cI (K 0) 12 pS) := (ho _ (zq_ne h_pS h_o (by simp))).trans h_pS
        have h_pL : M9 (bd 1) = some (cI (K 0) 48 pL) := (ho _ (zq_ne h_pL h_o (by simp))).trans h_pL
        have h_sg : M9 (bd 2) = some (cI (K 0) 12 (zcp (zcp sg oS 12) (zcp pS sg put) 12)) := (ho _ (zq_ne h_sg h_o (by simp))).trans h_sg
        have h_lb : M9 (bd 3) = some (cI (K 0) 48 (zcp (zcp lb oL 48) (zcp pL lb (4 * put)) 48)) := (ho _ (zq_ne h_lb h_o (by simp))).trans h_lb
        have h_oS : M9 (bd 4) = some (cI (K 0) 12 (zcp sg oS 12)) := (ho _ (zq_ne h_oS h_o (by simp))).trans h_oS
        have h_oL : M9 (bd 5) = some (cI (K 0) 48 (zcp lb oL 48)) := (ho _ (zq_ne h_oL h_o (by simp))).trans h_oL
        have h_rw : M9 (bd 6) = some (cI (K 0) 48 fA) := (ho _ (zq_ne h_rw h_o (by simp))).trans h_rw
        have h_fr : M9 (bd 7) = some (cI (K 0) 48 fr) := (ho _ (zq_ne h_fr h_o (by simp))).trans h_fr
        have h_pi : M9 (bd 8) = some (cI (K 0) 12 gA) := (ho _ (zq_ne h_pi h_o (by simp))).trans h_pi
        have h_fo : M9 (bd 9) = some (cI (K 0) 48 oA) := (ho _ (zq_ne h_fo h_o (by simp))).trans h_fo
        have h_al : M9 (bd 10) = some (cI (K 0) 40 al) := (ho _ (zq_ne h_al h_o (by simp))).trans h_al
        have h_on : M9 (bd 11) = some (cI (K 0) 384 on) := (ho _ (zq_ne h_on h_o (by simp))).trans h_on
        have h_tw : M9 (bd 12) = some (cI (K 0) 384 tw) := (ho _ (zq_ne h_tw h_o (by simp))).trans h_tw
        have h_sm : M9 (bd 13) = some (cJ (K 1) 114688 sm) := (ho _ (zq_ne h_sm h_o (by simp))).trans h_sm
        have h_av : M9 (bd 14) = some (cJ (K 1) 2100 av) := (ho _ (zq_ne h_av h_o (by simp))).trans h_av
        have h_po : M9 (bd 15) = some (cJ (K 1) 14 po) := (ho _ (zq_ne h_po h_o (by simp))).trans h_po
        have h_le : M9 (bd 16) = some (cJ (K 1) 28 le) := (ho _ (zq_ne h_le h_o (by simp))).trans h_le
        have h_gd : M9 (bd 17) = some (cI (K 0) 384 gd) := (ho _ (zq_ne h_gd h_o (by simp))).trans h_gd
        have h_o : M9 o = some (.inr (9, [.int (iI th), .int (iI 0), .int (iI wA), .ref (bd 0), .ref (bd 1), .int (iI nn), .int (iI cir), .int (iI nn), .int (iI cir), .ref (bd 2), .ref (bd 3), .ref (bd 4), .ref (bd 5), .int (iI cA), .ref (bd 6), .ref (bd 7), .ref (bd 8), .int (iI FA), .ref (bd 9), .int (iI arcs), .ref (bd 10), .ref (bd 11), .ref (bd 12), .ref (bd 13), .int (iI mns), .ref (bd 14), .ref (bd 15), .ref (bd 16), .int (iI 0), .ref (bd 17)])) := hs
        have hfr : ∀ q, q ≠ o → (∀ i, i < 18 → q ≠ bd i) → M9 q = M q := fun q g0 g1 => (ho q g0).trans (hfr q g0 g1)
        refine lv_iload_n hx hb d_MM_check_39 rfl (lv_at hl 0 rfl) ?_
        exact zq_iret hx hb hr hlocks hZ hw ⟨rA, rfl, Or.inr ⟨⟨by omega, by omega⟩, hFt, Or.inl ⟨by omega, _, _, (fun z h1 h2 => by show (if 0 ≤ z ∧ z < 12 then (if 0 ≤ z ∧ z < 12 then sg z else oS z) else _) = _; rw [if_pos ⟨h1, h2⟩, if_pos ⟨h1, h2⟩]), (fun z h1 h2 => by show (if 0 ≤ z ∧ z < 48 then (if 0 ≤ z ∧ z < 48 then lb z else oL z) else _) = _; rw [if_pos ⟨h1, h2⟩, if_pos ⟨h1, h2⟩]), ⟨_, _, _, _, _, _, _, _, _, _, _, _, _, _, _, h_o, hbd, h_pS, h_pL, h_sg, h_lb, h_oS, h_oL, h_rw, h_fr, h_pi, h_fo, h_al, h_on, h_tw, h_sm, h_av, h_po, h_le, h_gd, fun j => ⟨hpS j, hpL j, (zcp_in (zcp_in hsg hoS) (zcp_in hpS hsg)) j, (zcp_in (zcp_in hlb hoL) (zcp_in hpL hlb)) j, (zcp_in hsg hoS) j, (zcp_in hlb hoL) j, hrA j, hoA j, hal j⟩⟩⟩, hfr⟩⟩ d_MM_check_40
    · refine lv_iconst (v := iI (-1)) hx hb d_MM_check_10 rfl ?_
      exact zq_iret hx hb hr hlocks hZ hw ⟨-1, rfl, Or.inl ⟨by omega, rfl, rfl⟩⟩ d_MM_check_11
