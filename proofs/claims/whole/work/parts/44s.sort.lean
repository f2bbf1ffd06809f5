abbrev P_MM_sort (K : Nat → ClassId) (M : zq_M) (o : Nat) (bd : Nat → Nat) (th : Int) (put : Int) (wr : Int) (nn : Int) (cir : Int) (oN : Int) (oC : Int) (lbs : Int) (fcs : Int) (arcs : Int) (mns : Int) (kn : Int) (lb : Int → Int) (rw : Int → Int) : Option Value → zq_M → Prop := fun v M' => v = none ∧ ∃ c' f', zLs lb (4 * nn) f' c' ∧ M' o = some (.inr (9, [.int (iI th), .int (iI put), .int (iI wr), .ref (bd 0), .ref (bd 1), .int (iI nn), .int (iI cir), .int (iI oN), .int (iI oC), .ref (bd 2), .ref (bd 3), .ref (bd 4), .ref (bd 5), .int (iI c'), .ref (bd 6), .ref (bd 7), .ref (bd 8), .int (iI fcs), .ref (bd 9), .int (iI arcs), .ref (bd 10), .ref (bd 11), .ref (bd 12), .ref (bd 13), .int (iI mns), .ref (bd 14), .ref (bd 15), .ref (bd 16), .int (iI kn), .ref (bd 17)])) ∧ M' (bd 6) = some (cI (K 0) 48 f') ∧ ∀ q, q ≠ o → q ≠ (bd 6) → M' q = M q
set_option maxHeartbeats 4000000 in
set_option maxRecDepth 100000 in
theorem c_MM_sort (l : Launch) (D : va_G) (K : Nat → ClassId) (M : zq_M) (o : Nat) (bd : Nat → Nat) (th : Int) (put : Int) (wr : Int) (nn : Int) (cir : Int) (oN : Int) (oC : Int) (lbs : Int) (fcs : Int) (arcs : Int) (mns : Int) (kn : Int) (lb : Int → Int) (rw : Int → Int) (h_o : M o = some (.inr (9, [.int (iI th), .int (iI put), .int (iI wr), .ref (bd 0), .ref (bd 1), .int (iI nn), .int (iI cir), .int (iI oN), .int (iI oC), .ref (bd 2), .ref (bd 3), .ref (bd 4), .ref (bd 5), .int (iI lbs), .ref (bd 6), .ref (bd 7), .ref (bd 8), .int (iI fcs), .ref (bd 9), .int (iI arcs), .ref (bd 10), .ref (bd 11), .ref (bd 12), .ref (bd 13), .int (iI mns), .ref (bd 14), .ref (bd 15), .ref (bd 16), .int (iI kn), .ref (bd 17)]))) (hbd : ∀ i j, i < 18 → j < 18 → bd i = bd j → i = j) (h_lb : M (bd 3) = some (cI (K 0) 48 lb)) (h_rw : M (bd 6) = some (cI (K 0) 48 rw)) (hlb : ∀ j, inI (lb j)) (hnn : 0 ≤ nn ∧ nn ≤ 12) (hrw : ∀ j, inI (rw j)) : zq_Met l y_MM_sort (.code y_MM_sort b_MM_sort 4 none :: lw_gd) { frames := 0, cells := 0, slots := 0, locals := 0 } D vwCl (zT K) [.ref o] M (P_MM_sort K M o bd th put wr nn cir oN oC lbs fcs arcs mns kn lb rw) 0 0 := by
  refine zq_start (cc := b_MM_sort) (maxL := 4) (ret := none) (by decide) rfl (Nat.le_of_ble_eq_true rfl) ?_
  intro p e s m below meth co A ls hx hb hr hml hts hown hnm hlocks hA hZ hw hl
  have hts : ∀ w ∈ lw_gd, w.before [.ref o].toArray s = true := fun w h => hts w (List.mem_cons_of_mem _ h)
  have hown : s.vm.findClass R_MM = some m.cls := hown
  have hK := hZ.1
  have hl : lv_has ls 4 [(0, .ref o)] := hl
  have hfr : ∀ q, q ≠ o → q ≠ (bd 6) → M q = M q := fun q _ _ => rfl
  have hO : ∀ (n : Nat) (i : Int) (cN : Int) (f : Int → Int) (Mq : zq_M) (H : Heap) (locs : List Loc) (ls : Array Slot), (0 ≤ i ∧ i ≤ 4 * nn) → (zLs lb i f cN) → (4 * nn - i).toNat < n → (∀ q, q ≠ o → q ≠ (bd 6) → Mq q = M q) → Mq o = some (.inr (9, [.int (iI th), .int (iI put), .int (iI wr), .ref (bd 0), .ref (bd 1), .int (iI nn), .int (iI cir), .int (iI oN), .int (iI oC), .ref (bd 2), .ref (bd 3), .ref (bd 4), .ref (bd 5), .int (iI cN), .ref (bd 6), .ref (bd 7), .ref (bd 8), .int (iI fcs), .ref (bd 9), .int (iI arcs), .ref (bd 10), .ref (bd 11), .ref (bd 12), .ref (bd 13), .int (iI mns), .ref (bd 14), .ref (bd 15), .ref (bd 16), .int (iI kn), .ref (bd 17)])) → Mq (bd 3) = some (cI (K 0) 48 lb) → Mq (bd 6) = some (cI (K 0) 48 f) → zq_W D vwCl A s.heap Mq H locs → lv_has ls 4 [(0, .ref o), (1, .int (iI i))] → W p l e ({ frames := 0, cells := 0, slots := 0, locals := 0 } : Room) s m [.ref o].toArray below meth co H locs 0 0 (MQ below (zq_Q D vwCl (zT K) (P_MM_sort K M o bd th put wr nn cir oN oC lbs fcs arcs mns kn lb rw) A) [.ref o].toArray s 0 0 A) (F0 m 7 ls []) := by
    intro n
    induction n with
    | zero =>
      intro i cN f Mq H locs ls hi hL hms hfr h_o h_lb h_rw hw hl
      exact absurd hms (Nat.not_lt_zero _)
    | succ n ih_hO =>
      intro i cN f Mq H locs ls hi hL hms hfr h_o h_lb h_rw hw hl
      have hS : ∀ (n : Nat) (j : Int) (h : Int → Int) (Mq : zq_M) (H : Heap) (locs : List Loc) (ls : Array Slot), ((0 ≤ j ∧ j ≤ cN) ∧ i < 4 * nn) → (∀ z, 0 ≤ z → z < cN → ¬ f z = lb i) → (∀ z, j ≤ z → z < cN → lb i < f z) → (∀ z, h z = if j < z ∧ z ≤ cN then f (z - 1) else f z) → (j).toNat < n → (∀ q, q ≠ o → q ≠ (bd 6) → Mq q = M q) → Mq o = some (.inr (9, [.int (iI th), .int (iI put), .int (iI wr), .ref (bd 0), .ref (bd 1), .int (iI nn), .int (iI cir), .int (iI oN), .int (iI oC), .ref (bd 2), .ref (bd 3), .ref (bd 4), .ref (bd 5), .int (iI cN), .ref (bd 6), .ref (bd 7), .ref (bd 8), .int (iI fcs), .ref (bd 9), .int (iI arcs), .ref (bd 10), .ref (bd 11), .ref (bd 12), .ref (bd 13), .int (iI mns), .ref (bd 14), .ref (bd 15), .ref (bd 16), .int (iI kn), .ref (bd 17)])) → Mq (bd 3) = some (cI (K 0) 48 lb) → Mq (bd 6) = some (cI (K 0) 48 h) → zq_W D vwCl A s.heap Mq H locs → lv_has ls 4 [(0, .ref o), (1, .int (iI i)), (3, .int (iI j))] → W p l e ({ frames := 0, cells := 0, slots := 0, locals := 0 } : Room) s m [.ref o].toArray below meth co H locs 0 0 (MQ below (zq_Q D vwCl (zT K) (P_MM_sort K M o bd th put wr nn cir oN oC lbs fcs arcs mns kn lb rw) A) [.ref o].toArray s 0 0 A) (F0 m 69 ls []) := by
        intro n
        induction n with
        | zero =>
          intro j h Mq H locs ls hj hno hup hh hms hfr h_o h_lb h_rw hw hl
          exact absurd hms (Nat.not_lt_zero _)
        | succ n ih_hS =>
          intro j h Mq H locs ls hj hno hup hh hms hfr h_o h_lb h_rw hw hl
          have hc1 := hL.2.2.1
          have hc2 := hL.2.2.2.1
          refine lv_iload_n hx hb d_MM_sort_69 rfl (lv_at hl 2 rfl) ?_
          refine zq_if_le (tgt := 110) hx hb d_MM_sort_70 (by decide) ⟨by omega, by omega⟩ (fun hc1 => ?_) (fun hc1 => ?_)
          · have hlow : j = 0 ∨ f (j - 1) ≤ lb i := Or.inl (by omega)
            refine lv_aload_n hx hb d_MM_sort_110 rfl (lv_at hl 0 rfl) ?_
            refine zq_get hx hb hts i_MM hown hK hw h_o rfl 14 (by decide) (hts _ tw_600) rfl d_MM_sort_111 ?_
            refine lv_iload_n hx hb d_MM_sort_114 rfl (lv_at hl 2 rfl) ?_
            refine lv_aload_n hx hb d_MM_sort_115 rfl (lv_at hl 0 rfl) ?_
            refine zq_get hx hb hts i_MM hown hK hw h_o rfl 10 (by decide) (hts _ tw_596) rfl d_MM_sort_116 ?_
            refine lv_iload_n hx hb d_MM_sort_119 rfl (lv_at hl 1 rfl) ?_
            refine zq_iald hx hb hK hw 0 h_lb rfl (by omega) (by omega) (by decide) d_MM_sort_120 ?_
            refine zq_iast hx hb hK hw 0 h_rw rfl (by omega) (by omega) (by decide) d_MM_sort_121 (fun M2 H locs hs ho hw => ?_)
            have h_o : M2 o = some (.inr (9, [.int (iI th), .int (iI put), .int (iI wr), .ref (bd 0), .ref (bd 1), .int (iI nn), .int (iI cir), .int (iI oN), .int (iI oC), .ref (bd 2), .ref (bd 3), .ref (bd 4), .ref (bd 5), .int (iI cN), .ref (bd 6), .ref (bd 7), .ref (bd 8), .int (iI fcs), .ref (bd 9), .int (iI arcs), .ref (bd 10), .ref (bd 11), .ref (bd 12), .ref (bd 13), .int (iI mns), .ref (bd 14), .ref (bd 15), .ref (bd 16), .int (iI kn), .ref (bd 17)])) := (ho _ (zq_ne h_o h_rw (by simp))).trans h_o
            have h_lb : M2 (bd 3) = some (cI (K 0) 48 lb) := (ho _ (zbd hbd 3 6)).trans h_lb
            have h_rw : M2 (bd 6) = some (cI (K 0) 48 (zu h j (lb i))) := hs
            have hfr : ∀ q, q ≠ o → q ≠ (bd 6) → M2 q = M q := fun q g0 g1 => (ho q g1).trans (hfr q g0 g1)
            refine lv_aload_n hx hb d_MM_sort_122 rfl (lv_at hl 0 rfl) ?_
            refine lv_dup hx hb d_MM_sort_123 rfl ?_
            refine zq_get hx hb hts i_MM hown hK hw h_o rfl 13 (by decide) (hts _ tw_599) rfl d_MM_sort_124 ?_
            refine lv_iconst (v := iI 1) hx hb d_MM_sort_127 rfl ?_
            refine zq_iadd hx hb d_MM_sort_128 ?_
            refine zq_put (ci := 9) (v := .int (iI (cN + 1))) (ty := .int) hx hb hts i_MM t_MM t_MM_ok n_MM hown hK hw h_o rfl 13 (by decide) (hts _ tw_599) rfl (by decide +kernel) rfl rfl (Nat.le_of_ble_eq_true rfl) d_MM_sort_129 (fun M3 H locs hs ho hw => ?_)
            have h_lb : M3 (bd 3) = some (cI (K 0) 48 lb) := (ho _ (zq_ne h_lb h_o (by simp))).trans h_lb
            have h_rw : M3 (bd 6) = some (cI (K 0) 48 (zu h j (lb i))) := (ho _ (zq_ne h_rw h_o (by simp))).trans h_rw
            have h_o : M3 o = some (.inr (9, [.int (iI th), .int (iI put), .int (iI wr), .ref (bd 0), .ref (bd 1), .int (iI nn), .int (iI cir), .int (iI oN), .int (iI oC), .ref (bd 2), .ref (bd 3), .ref (bd 4), .ref (bd 5), .int (iI (cN + 1)), .ref (bd 6), .ref (bd 7), .ref (bd 8), .int (iI fcs), .ref (bd 9), .int (iI arcs), .ref (bd 10), .ref (bd 11), .ref (bd 12), .ref (bd 13), .int (iI mns), .ref (bd 14), .ref (bd 15), .ref (bd 16), .int (iI kn), .ref (bd 17)])) := hs
            have hfr : ∀ q, q ≠ o → q ≠ (bd 6) → M3 q = M q := fun q g0 g1 => (ho q g0).trans (hfr q g0 g1)
            refine lv_iinc (v := iI (i + 1)) (lv' := [(1, .int (iI (i + 1))), (0, .ref o), (3, .int (iI j))]) hx hb d_MM_sort_132 hl (k := 1) rfl (iI_add _ _) (by decide) rfl (fun ls hl => ?_)
            refine lv_goto (tgt := 7) hx hb d_MM_sort_135 (by decide) ?_
            exact ih_hO (i + 1) (cN + 1) (zu h j (lb i)) M3 _ _ _ (by omega) (zLs_new hL hi.1 hj.1 hno hlow hup hh (hlb _)) (by omega) hfr h_o h_lb h_rw hw (lv_sub hl [1, 0] rfl)
          · refine lv_aload_n hx hb d_MM_sort_73 rfl (lv_at hl 0 rfl) ?_
            refine zq_get hx hb hts i_MM hown hK hw h_o rfl 14 (by decide) (hts _ tw_600) rfl d_MM_sort_74 ?_
            refine lv_iload_n hx hb d_MM_sort_77 rfl (lv_at hl 2 rfl) ?_
            refine lv_iconst (v := iI 1) hx hb d_MM_sort_78 rfl ?_
            refine zq_isub hx hb d_MM_sort_79 ?_
            refine zq_iald hx hb hK hw 0 h_rw rfl (by omega) (by omega) (by decide) d_MM_sort_80 ?_
            refine lv_aload_n hx hb d_MM_sort_81 rfl (lv_at hl 0 rfl) ?_
            refine zq_get hx hb hts i_MM hown hK hw h_o rfl 10 (by decide) (hts _ tw_596) rfl d_MM_sort_82 ?_
            refine lv_iload_n hx hb d_MM_sort_85 rfl (lv_at hl 1 rfl) ?_
            refine zq_iald hx hb hK hw 0 h_lb rfl (by omega) (by omega) (by decide) d_MM_sort_86 ?_
            refine zq_icmp_le (tgt := 110) hx hb d_MM_sort_87 (by decide) (by rw [hh]; split <;> exact hL.2.2.2.2 _) (hlb _) (fun hc4 => ?_) (fun hc4 => ?_)
            · have hhj : h (j - 1) = f (j - 1) := by rw [hh, if_neg (by omega)]
              have hlow : j = 0 ∨ f (j - 1) ≤ lb i := Or.inr (by omega)
              refine lv_aload_n hx hb d_MM_sort_110 rfl (lv_at hl 0 rfl) ?_
              refine zq_get hx hb hts i_MM hown hK hw h_o rfl 14 (by decide) (hts _ tw_600) rfl d_MM_sort_111 ?_
              refine lv_iload_n hx hb d_MM_sort_114 rfl (lv_at hl 2 rfl) ?_
              refine lv_aload_n hx hb d_MM_sort_115 rfl (lv_at hl 0 rfl) ?_
              refine zq_get hx hb hts i_MM hown hK hw h_o rfl 10 (by decide) (hts _ tw_596) rfl d_MM_sort_116 ?_
              refine lv_iload_n hx hb d_MM_sort_119 rfl (lv_at hl 1 rfl) ?_
              refine zq_iald hx hb hK hw 0 h_lb rfl (by omega) (by omega) (by decide) d_MM_sort_120 ?_
              refine zq_iast hx hb hK hw 0 h_rw rfl (by omega) (by omega) (by decide) d_MM_sort_121 (fun M5 H locs hs ho hw => ?_)
              have h_o : M5 o = some (.inr (9, [.int (iI th), .int (iI put), .int (iI wr), .ref (bd 0), .ref (bd 1), .int (iI nn), .int (iI cir), .int (iI oN), .int (iI oC), .ref (bd 2), .ref (bd 3), .ref (bd 4), .ref (bd 5), .int (iI cN), .ref (bd 6), .ref (bd 7), .ref (bd 8), .int (iI fcs), .ref (bd 9), .int (iI arcs), .ref (bd 10), .ref (bd 11), .ref (bd 12), .ref (bd 13), .int (iI mns), .ref (bd 14), .ref (bd 15), .ref (bd 16), .int (iI kn), .ref (bd 17)])) := (ho _ (zq_ne h_o h_rw (by simp))).trans h_o
              have h_lb : M5 (bd 3) = some (cI (K 0) 48 lb) := (ho _ (zbd hbd 3 6)).trans h_lb
              have h_rw : M5 (bd 6) = some (cI (K 0) 48 (zu h j (lb i))) := hs
              have hfr : ∀ q, q ≠ o → q ≠ (bd 6) → M5 q = M q := fun q g0 g1 => (ho q g1).trans (hfr q g0 g1)
              refine lv_aload_n hx hb d_MM_sort_122 rfl (lv_at hl 0 rfl) ?_
              refine lv_dup hx hb d_MM_sort_123 rfl ?_
              refine zq_get hx hb hts i_MM hown hK hw h_o rfl 13 (by decide) (hts _ tw_599) rfl d_MM_sort_124 ?_
              refine lv_iconst (v := iI 1) hx hb d_MM_sort_127 rfl ?_
              refine zq_iadd hx hb d_MM_sort_128 ?_
              refine zq_put (ci := 9) (v := .int (iI (cN + 1))) (ty := .int) hx hb hts i_MM t_MM t_MM_ok n_MM hown hK hw h_o rfl 13 (by decide) (hts _ tw_599) rfl (by decide +kernel) rfl rfl (Nat.le_of_ble_eq_true rfl) d_MM_sort_129 (fun M6 H locs hs ho hw => ?_)
              have h_lb : M6 (bd 3) = some (cI (K 0) 48 lb) := (ho _ (zq_ne h_lb h_o (by simp))).trans h_lb
              have h_rw : M6 (bd 6) = some (cI (K 0) 48 (zu h j (lb i))) := (ho _ (zq_ne h_rw h_o (by simp))).trans h_rw
              have h_o : M6 o = some (.inr (9, [.int (iI th), .int (iI put), .int (iI wr), .ref (bd 0), .ref (bd 1), .int (iI nn), .int (iI cir), .int (iI oN), .int (iI oC), .ref (bd 2), .ref (bd 3), .ref (bd 4), .ref (bd 5), .int (iI (cN + 1)), .ref (bd 6), .ref (bd 7), .ref (bd 8), .int (iI fcs), .ref (bd 9), .int (iI arcs), .ref (bd 10), .ref (bd 11), .ref (bd 12), .ref (bd 13), .int (iI mns), .ref (bd 14), .ref (bd 15), .ref (bd 16), .int (iI kn), .ref (bd 17)])) := hs
              have hfr : ∀ q, q ≠ o → q ≠ (bd 6) → M6 q = M q := fun q g0 g1 => (ho q g0).trans (hfr q g0 g1)
              refine lv_iinc (v := iI (i + 1)) (lv' := [(1, .int (iI (i + 1))), (0, .ref o), (3, .int (iI j))]) hx hb d_MM_sort_132 hl (k := 1) rfl (iI_add _ _) (by decide) rfl (fun ls hl => ?_)
              refine lv_goto (tgt := 7) hx hb d_MM_sort_135 (by decide) ?_
              exact ih_hO (i + 1) (cN + 1) (zu h j (lb i)) M6 _ _ _ (by omega) (zLs_new hL hi.1 hj.1 hno hlow hup hh (hlb _)) (by omega) hfr h_o h_lb h_rw hw (lv_sub hl [1, 0] rfl)
            · have hhj : h (j - 1) = f (j - 1) := by rw [hh, if_neg (by omega)]
              refine lv_aload_n hx hb d_MM_sort_90 rfl (lv_at hl 0 rfl) ?_
              refine zq_get hx hb hts i_MM hown hK hw h_o rfl 14 (by decide) (hts _ tw_600) rfl d_MM_sort_91 ?_
              refine lv_iload_n hx hb d_MM_sort_94 rfl (lv_at hl 2 rfl) ?_
              refine lv_aload_n hx hb d_MM_sort_95 rfl (lv_at hl 0 rfl) ?_
              refine zq_get hx hb hts i_MM hown hK hw h_o rfl 14 (by decide) (hts _ tw_600) rfl d_MM_sort_96 ?_
              refine lv_iload_n hx hb d_MM_sort_99 rfl (lv_at hl 2 rfl) ?_
              refine lv_iconst (v := iI 1) hx hb d_MM_sort_100 rfl ?_
              refine zq_isub hx hb d_MM_sort_101 ?_
              refine zq_iald hx hb hK hw 0 h_rw rfl (by omega) (by omega) (by decide) d_MM_sort_102 ?_
              refine zq_iast hx hb hK hw 0 h_rw rfl (by omega) (by omega) (by decide) d_MM_sort_103 (fun M7 H locs hs ho hw => ?_)
              have h_o : M7 o = some (.inr (9, [.int (iI th), .int (iI put), .int (iI wr), .ref (bd 0), .ref (bd 1), .int (iI nn), .int (iI cir), .int (iI oN), .int (iI oC), .ref (bd 2), .ref (bd 3), .ref (bd 4), .ref (bd 5), .int (iI cN), .ref (bd 6), .ref (bd 7), .ref (bd 8), .int (iI fcs), .ref (bd 9), .int (iI arcs), .ref (bd 10), .ref (bd 11), .ref (bd 12), .ref (bd 13), .int (iI mns), .ref (bd 14), .ref (bd 15), .ref (bd 16), .int (iI kn), .ref (bd 17)])) := (ho _ (zq_ne h_o h_rw (by simp))).trans h_o
              have h_lb : M7 (bd 3) = some (cI (K 0) 48 lb) := (ho _ (zbd hbd 3 6)).trans h_lb
              have h_rw : M7 (bd 6) = some (cI (K 0) 48 (zu h j (h (j - 1)))) := hs
              have hfr : ∀ q, q ≠ o → q ≠ (bd 6) → M7 q = M q := fun q g0 g1 => (ho q g1).trans (hfr q g0 g1)
              refine lv_iinc (v := iI (j - 1)) (lv' := [(3, .int (iI (j - 1))), (0, .ref o), (1, .int (iI i))]) hx hb d_MM_sort_104 hl (k := 2) rfl ((iI_add _ _).trans (congrArg iI (Int.sub_eq_add_neg).symm)) (by decide) rfl (fun ls hl => ?_)
              refine lv_goto (tgt := 69) hx hb d_MM_sort_107 (by decide) ?_
              exact ih_hS (j - 1) (zu h j (h (j - 1))) M7 _ _ _ (by omega) hno (fun z h1 h2 => by by_cases q : z = j - 1; rw [q, ← hhj]; omega; exact hup z (by omega) h2) (zsh2 hh ⟨by omega, by omega⟩) (by omega) hfr h_o h_lb h_rw hw (lv_sub hl [1, 2, 0] rfl)
      have hI : ∀ (n : Nat) (j : Int) (iz : Int) (Mq : zq_M) (H : Heap) (locs : List Loc) (ls : Array Slot), ((0 ≤ j ∧ j ≤ cN) ∧ i < 4 * nn) → (iz = 0 ∨ iz = 1) → (iz = 1 ↔ ∃ z, 0 ≤ z ∧ z < j ∧ f z = lb i) → (cN - j).toNat < n → (∀ q, q ≠ o → q ≠ (bd 6) → Mq q = M q) → Mq o = some (.inr (9, [.int (iI th), .int (iI put), .int (iI wr), .ref (bd 0), .ref (bd 1), .int (iI nn), .int (iI cir), .int (iI oN), .int (iI oC), .ref (bd 2), .ref (bd 3), .ref (bd 4), .ref (bd 5), .int (iI cN), .ref (bd 6), .ref (bd 7), .ref (bd 8), .int (iI fcs), .ref (bd 9), .int (iI arcs), .ref (bd 10), .ref (bd 11), .ref (bd 12), .ref (bd 13), .int (iI mns), .ref (bd 14), .ref (bd 15), .ref (bd 16), .int (iI kn), .ref (bd 17)])) → Mq (bd 3) = some (cI (K 0) 48 lb) → Mq (bd 6) = some (cI (K 0) 48 f) → zq_W D vwCl A s.heap Mq H locs → lv_has ls 4 [(0, .ref o), (1, .int (iI i)), (2, .int (iI iz)), (3, .int (iI j))] → W p l e ({ frames := 0, cells := 0, slots := 0, locals := 0 } : Room) s m [.ref o].toArray below meth co H locs 0 0 (MQ below (zq_Q D vwCl (zT K) (P_MM_sort K M o bd th put wr nn cir oN oC lbs fcs arcs mns kn lb rw) A) [.ref o].toArray s 0 0 A) (F0 m 21 ls []) := by
        intro n
        induction n with
        | zero =>
          intro j iz Mq H locs ls hj hiz hiq hms hfr h_o h_lb h_rw hw hl
          exact absurd hms (Nat.not_lt_zero _)
        | succ n ih_hI =>
          intro j iz Mq H locs ls hj hiz hiq hms hfr h_o h_lb h_rw hw hl
          have hc1 := hL.2.2.1
          have hc2 := hL.2.2.2.1
          refine lv_iload_n hx hb d_MM_sort_21 rfl (lv_at hl 3 rfl) ?_
          refine lv_aload_n hx hb d_MM_sort_22 rfl (lv_at hl 0 rfl) ?_
          refine zq_get hx hb hts i_MM hown hK hw h_o rfl 13 (by decide) (hts _ tw_599) rfl d_MM_sort_23 ?_
          refine zq_icmp_ge (tgt := 60) hx hb d_MM_sort_26 (by decide) ⟨by omega, by omega⟩ ⟨by omega, by omega⟩ (fun hc8 => ?_) (fun hc8 => ?_)
          · refine lv_iload_n hx hb d_MM_sort_60 rfl (lv_at hl 2 rfl) ?_
            refine zq_if_ne (tgt := 132) hx hb d_MM_sort_61 (by decide) ⟨by omega, by omega⟩ (fun hc9 => ?_) (fun hc9 => ?_)
            · have hi1 : iz = 1 := hiz.resolve_left hc9
              have hex9 : ∃ z, 0 ≤ z ∧ z < cN ∧ f z = lb i := by obtain ⟨z, h1, h2, h3⟩ := hiq.mp hi1; exact ⟨z, h1, by clear hiq; omega, h3⟩
              clear hiq
              refine lv_iinc (v := iI (i + 1)) (lv' := [(1, .int (iI (i + 1))), (0, .ref o), (2, .int (iI iz)), (3, .int (iI j))]) hx hb d_MM_sort_132 hl (k := 1) rfl (iI_add _ _) (by decide) rfl (fun ls hl => ?_)
              refine lv_goto (tgt := 7) hx hb d_MM_sort_135 (by decide) ?_
              exact ih_hO (i + 1) cN f Mq _ _ _ (by omega) (zLs_old hL hi.1 hex9) (by omega) hfr h_o h_lb h_rw hw (lv_sub hl [1, 0] rfl)
            · have hno : ∀ z, 0 ≤ z → z < cN → ¬ f z = lb i := fun z h1 h2 h3 => by have := hiq.mpr ⟨z, h1, by omega, h3⟩; omega
              refine lv_aload_n hx hb d_MM_sort_64 rfl (lv_at hl 0 rfl) ?_
              refine zq_get hx hb hts i_MM hown hK hw h_o rfl 13 (by decide) (hts _ tw_599) rfl d_MM_sort_65 ?_
              refine lv_istore_n (lv' := [(3, .int (iI cN)), (0, .ref o), (1, .int (iI i)), (2, .int (iI iz))]) hx hb d_MM_sort_68 rfl hl (by decide) rfl (fun ls hl => ?_)
              exact hS _ cN f Mq _ _ _ ⟨⟨by omega, by omega⟩, by omega⟩ hno (fun z h1 h2 => by omega) (fun z => by rw [if_neg (by omega)]) (Nat.lt_succ_self _) hfr h_o h_lb h_rw hw (lv_sub hl [1, 2, 0] rfl)
          · refine lv_iload_n hx hb d_MM_sort_29 rfl (lv_at hl 2 rfl) ?_
            refine zq_if_ne (tgt := 48) hx hb d_MM_sort_30 (by decide) ⟨by omega, by omega⟩ (fun hc10 => ?_) (fun hc10 => ?_)
            · refine lv_iconst (v := iI 1) hx hb d_MM_sort_48 rfl ?_
              refine lv_goto (tgt := 53) hx hb d_MM_sort_49 (by decide) ?_
              refine lv_istore_n (lv' := [(2, .int (iI 1)), (0, .ref o), (1, .int (iI i)), (3, .int (iI j))]) hx hb d_MM_sort_53 rfl hl (by decide) rfl (fun ls hl => ?_)
              refine lv_iinc (v := iI (j + 1)) (lv' := [(3, .int (iI (j + 1))), (2, .int (iI 1)), (0, .ref o), (1, .int (iI i))]) hx hb d_MM_sort_54 hl (k := 3) rfl (iI_add _ _) (by decide) rfl (fun ls hl => ?_)
              refine lv_goto (tgt := 21) hx hb d_MM_sort_57 (by decide) ?_
              exact ih_hI (j + 1) 1 Mq _ _ _ (by omega) (Or.inr rfl) (zis_step1 hiq hj.1.1 (by omega)) (by omega) hfr h_o h_lb h_rw hw (lv_sub hl [2, 3, 1, 0] rfl)
            · refine lv_aload_n hx hb d_MM_sort_33 rfl (lv_at hl 0 rfl) ?_
              refine zq_get hx hb hts i_MM hown hK hw h_o rfl 14 (by decide) (hts _ tw_600) rfl d_MM_sort_34 ?_
              refine lv_iload_n hx hb d_MM_sort_37 rfl (lv_at hl 3 rfl) ?_
              refine zq_iald hx hb hK hw 0 h_rw rfl (by omega) (by omega) (by decide) d_MM_sort_38 ?_
              refine lv_aload_n hx hb d_MM_sort_39 rfl (lv_at hl 0 rfl) ?_
              refine zq_get hx hb hts i_MM hown hK hw h_o rfl 10 (by decide) (hts _ tw_596) rfl d_MM_sort_40 ?_
              refine lv_iload_n hx hb d_MM_sort_43 rfl (lv_at hl 1 rfl) ?_
              refine zq_iald hx hb hK hw 0 h_lb rfl (by omega) (by omega) (by decide) d_MM_sort_44 ?_
              refine zq_icmp_ne (tgt := 52) hx hb d_MM_sort_45 (by decide) (hL.2.2.2.2 _) (hlb _) (fun hc11 => ?_) (fun hc11 => ?_)
              · refine lv_iconst (v := iI 0) hx hb d_MM_sort_52 rfl ?_
                refine lv_istore_n (lv' := [(2, .int (iI 0)), (0, .ref o), (1, .int (iI i)), (3, .int (iI j))]) hx hb d_MM_sort_53 rfl hl (by decide) rfl (fun ls hl => ?_)
                refine lv_iinc (v := iI (j + 1)) (lv' := [(3, .int (iI (j + 1))), (2, .int (iI 0)), (0, .ref o), (1, .int (iI i))]) hx hb d_MM_sort_54 hl (k := 3) rfl (iI_add _ _) (by decide) rfl (fun ls hl => ?_)
                refine lv_goto (tgt := 21) hx hb d_MM_sort_57 (by decide) ?_
                exact ih_hI (j + 1) 0 Mq _ _ _ (by omega) (Or.inl rfl) (zis_step0 hiq (by omega) (by omega)) (by omega) hfr h_o h_lb h_rw hw (lv_sub hl [2, 3, 1, 0] rfl)
              · refine lv_iconst (v := iI 1) hx hb d_MM_sort_48 rfl ?_
                refine lv_goto (tgt := 53) hx hb d_MM_sort_49 (by decide) ?_
                refine lv_istore_n (lv' := [(2, .int (iI 1)), (0, .ref o), (1, .int (iI i)), (3, .int (iI j))]) hx hb d_MM_sort_53 rfl hl (by decide) rfl (fun ls hl => ?_)
                refine lv_iinc (v := iI (j + 1)) (lv' := [(3, .int (iI (j + 1))), (2, .int (iI 1)), (0, .ref o), (1, .int (iI i))]) hx hb d_MM_sort_54 hl (k := 3) rfl (iI_add _ _) (by decide) rfl (fun ls hl => ?_)
                refine lv_goto (tgt := 21) hx hb d_MM_sort_57 (by decide) ?_
                exact ih_hI (j + 1) 1 Mq _ _ _ (by omega) (Or.inr rfl) (zis_step1 hiq hj.1.1 (by omega)) (by omega) hfr h_o h_lb h_rw hw (lv_sub hl [2, 3, 1, 0] rfl)
      have hc1 := hL.2.2.1
      have hc2 := hL.2.2.2.1
      refine lv_iload_n hx hb d_MM_sort_7 rfl (lv_at hl 1 rfl) ?_
      refine lv_iconst (v := iI 4) hx hb d_MM_sort_8 rfl ?_
      refine lv_aload_n hx hb d_MM_sort_9 rfl (lv_at hl 0 rfl) ?_
      refine zq_get hx hb hts i_MM hown hK hw h_o rfl 5 (by decide) (hts _ tw_591) rfl d_MM_sort_10 ?_
      refine zq_imul hx hb d_MM_sort_13 ?_
      refine zq_icmp_ge (tgt := 138) hx hb d_MM_sort_14 (by decide) ⟨by omega, by omega⟩ ⟨by omega, by omega⟩ (fun hc12 => ?_) (fun hc12 => ?_)
      · exact zq_vret hx hb hr hlocks hZ hw ⟨rfl, cN, f, (by rw [show 4 * nn = i by omega]; exact hL), h_o, h_rw, hfr⟩ d_MM_sort_138
      · refine lv_iconst (v := iI 0) hx hb d_MM_sort_17 rfl ?_
        refine lv_istore_n (lv' := [(2, .int (iI 0)), (0, .ref o), (1, .int (iI i))]) hx hb d_MM_sort_18 rfl hl (by decide) rfl (fun ls hl => ?_)
        refine lv_iconst (v := iI 0) hx hb d_MM_sort_19 rfl ?_
        refine lv_istore_n (lv' := [(3, .int (iI 0)), (2, .int (iI 0)), (0, .ref o), (1, .int (iI i))]) hx hb d_MM_sort_20 rfl hl (by decide) rfl (fun ls hl => ?_)
        exact hI _ 0 0 Mq _ _ _ ⟨⟨by omega, by omega⟩, by omega⟩ (Or.inl rfl) ⟨fun z => absurd z (by decide), fun ⟨z, h1, h2, _⟩ => by omega⟩ (Nat.lt_succ_self _) hfr h_o h_lb h_rw hw (lv_sub hl [2, 3, 1, 0] rfl)
  refine lv_aload_n hx hb d_MM_sort_0 rfl (lv_at hl 0 rfl) ?_
  refine lv_iconst (v := iI 0) hx hb d_MM_sort_1 rfl ?_
  refine zq_put (ci := 9) (v := .int (iI 0)) (ty := .int) hx hb hts i_MM t_MM t_MM_ok n_MM hown hK hw h_o rfl 13 (by decide) (hts _ tw_599) rfl (by decide +kernel) rfl rfl (Nat.le_of_ble_eq_true rfl) d_MM_sort_2 (fun M13 H locs hs ho hw => ?_)
  have h_lb : M13 (bd 3) = some (cI (K 0) 48 lb) := (ho _ (zq_ne h_lb h_o (by simp))).trans h_lb
  have h_rw : M13 (bd 6) = some (cI (K 0) 48 rw) := (ho _ (zq_ne h_rw h_o (by simp))).trans h_rw
  have h_o : M13 o = some (.inr (9, [.int (iI th), .int (iI put), .int (iI wr), .ref (bd 0), .ref (bd 1), .int (iI nn), .int (iI cir), .int (iI oN), .int (iI oC), .ref (bd 2), .ref (bd 3), .ref (bd 4), .ref (bd 5), .int (iI 0), .ref (bd 6), .ref (bd 7), .ref (bd 8), .int (iI fcs), .ref (bd 9), .int (iI arcs), .ref (bd 10), .ref (bd 11), .ref (bd 12), .ref (bd 13), .int (iI mns), .ref (bd 14), .ref (bd 15), .ref (bd 16), .int (iI kn), .ref (bd 17)])) := hs
  have hfr : ∀ q, q ≠ o → q ≠ (bd 6) → M13 q = M q := fun q g0 g1 => (ho q g0).trans (hfr q g0 g1)
  refine lv_iconst (v := iI 0) hx hb d_MM_sort_5 rfl ?_
  refine lv_istore_n (lv' := [(1, .int (iI 0)), (0, .ref o)]) hx hb d_MM_sort_6 rfl hl (by decide) rfl (fun ls hl => ?_)
  exact hO _ 0 0 rw M13 _ _ _ ⟨by omega, by omega⟩ (zLs_0 hrw) (Nat.lt_succ_self _) hfr h_o h_lb h_rw hw (lv_sub hl [1, 0] rfl)
