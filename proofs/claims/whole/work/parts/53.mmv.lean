abbrev P_MM_lowest (K : Nat → ClassId) (M : zq_M) (o : Nat) (bd : Nat → Nat) (th : Int) (put : Int) (wr : Int) (nn : Int) (cir : Int) (oN : Int) (oC : Int) (lbs : Int) (fcs : Int) (arcs : Int) (mns : Int) (kn : Int) (av : Int → Int) (mi : Int) : Option Value → zq_M → Prop := fun v M' => ∃ r, v = some (.int (iI r)) ∧ zLo av mi r ∧ M' = M
set_option maxHeartbeats 4000000 in
set_option maxRecDepth 100000 in
theorem c_MM_lowest (l : Launch) (D : va_G) (K : Nat → ClassId) (M : zq_M) (o : Nat) (bd : Nat → Nat) (th : Int) (put : Int) (wr : Int) (nn : Int) (cir : Int) (oN : Int) (oC : Int) (lbs : Int) (fcs : Int) (arcs : Int) (mns : Int) (kn : Int) (av : Int → Int) (mi : Int) (h_o : M o = some (.inr (9, [.int (iI th), .int (iI put), .int (iI wr), .ref (bd 0), .ref (bd 1), .int (iI nn), .int (iI cir), .int (iI oN), .int (iI oC), .ref (bd 2), .ref (bd 3), .ref (bd 4), .ref (bd 5), .int (iI lbs), .ref (bd 6), .ref (bd 7), .ref (bd 8), .int (iI fcs), .ref (bd 9), .int (iI arcs), .ref (bd 10), .ref (bd 11), .ref (bd 12), .ref (bd 13), .int (iI mns), .ref (bd 14), .ref (bd 15), .ref (bd 16), .int (iI kn), .ref (bd 17)]))) (hbd : ∀ i j, i < 18 → j < 18 → bd i = bd j → i = j) (h_av : M (bd 14) = some (cJ (K 1) 2100 av)) (hmi : 0 ≤ mi ∧ mi < 150) (hav : ∀ e, 0 ≤ e → e < 14 → -9223372036854775807 ≤ av (14 * mi + e) ∧ av (14 * mi + e) ≤ 9223372036854775807) : zq_Met l y_MM_lowest (.code y_MM_lowest b_MM_lowest 3 (some .int) :: lw_gd) { frames := 0, cells := 0, slots := 0, locals := 0 } D vwCl (zT K) [.ref o, .int (iI mi)] M (P_MM_lowest K M o bd th put wr nn cir oN oC lbs fcs arcs mns kn av mi) 0 0 := by
  refine zq_start (cc := b_MM_lowest) (maxL := 3) (ret := (some .int)) (by decide) rfl (Nat.le_of_ble_eq_true rfl) ?_
  intro p e s m below meth co A ls hx hb hr hml hts hown hnm hlocks hA hZ hw hl
  have hts : ∀ w ∈ lw_gd, w.before [.ref o, .int (iI mi)].toArray s = true := fun w h => hts w (List.mem_cons_of_mem _ h)
  have hown : s.vm.findClass R_MM = some m.cls := hown
  have hK := hZ.1
  have hl : lv_has ls 3 [(0, .ref o), (1, .int (iI mi))] := hl
  have hL : ∀ (n : Nat) (e0 : Int) (H : Heap) (locs : List Loc) (ls : Array Slot), (0 ≤ e0 ∧ e0 ≤ 14) → (∀ e, 0 ≤ e → e < e0 → av (14 * mi + e) = 0) → (14 - e0).toNat < n → zq_W D vwCl A s.heap M H locs → lv_has ls 3 [(0, .ref o), (1, .int (iI mi)), (2, .int (iI e0))] → W p l e ({ frames := 0, cells := 0, slots := 0, locals := 0 } : Room) s m [.ref o, .int (iI mi)].toArray below meth co H locs 0 0 (MQ below (zq_Q D vwCl (zT K) (P_MM_lowest K M o bd th put wr nn cir oN oC lbs fcs arcs mns kn av mi) A) [.ref o, .int (iI mi)].toArray s 0 0 A) (F0 m 2 ls []) := by
    intro n
    induction n with
    | zero =>
      intro e0 H locs ls he hz hms hw hl
      exact absurd hms (Nat.not_lt_zero _)
    | succ n ih_hL =>
      intro e0 H locs ls he hz hms hw hl
      refine lv_iload_n hx hb d_MM_lowest_2 rfl (lv_at hl 2 rfl) ?_
      refine lv_bipush (v := iI 14) hx hb d_MM_lowest_3 (by decide) ?_
      refine zq_icmp_ge (tgt := 30) hx hb d_MM_lowest_5 (by decide) ⟨by omega, by omega⟩ (by decide) (fun hc1 => ?_) (fun hc1 => ?_)
      · skip
        refine lv_iload_n hx hb d_MM_lowest_30 rfl (lv_at hl 2 rfl) ?_
        exact zq_iret hx hb hr hlocks hZ hw ⟨e0, rfl, ⟨⟨by omega, by omega⟩, hz, fun q => absurd q (by omega)⟩, rfl⟩ d_MM_lowest_31
      · refine lv_aload_n hx hb d_MM_lowest_8 rfl (lv_at hl 0 rfl) ?_
        refine zq_get hx hb hts i_MM hown hK hw h_o rfl 25 (by decide) (hts _ tw_611) rfl d_MM_lowest_9 ?_
        refine lv_bipush (v := iI 14) hx hb d_MM_lowest_12 (by decide) ?_
        refine lv_iload_n hx hb d_MM_lowest_14 rfl (lv_at hl 1 rfl) ?_
        refine zq_imul hx hb d_MM_lowest_15 ?_
        refine lv_iload_n hx hb d_MM_lowest_16 rfl (lv_at hl 2 rfl) ?_
        refine zq_iadd hx hb d_MM_lowest_17 ?_
        refine zq_lald hx hb hK hw 1 h_av rfl (by omega) (by omega) (by decide) d_MM_lowest_18 ?_
        refine lv_lconst (v := iL 0) hx hb d_MM_lowest_19 (by decide) ?_
        refine zq_lcmp_ne (tgt := 30) hx hb d_MM_lowest_20 d_MM_lowest_21 (by decide) (by have := hav e0 (by omega) (by omega); exact ⟨by omega, by omega⟩) (by decide) (fun hc2 => ?_) (fun hc2 => ?_)
        · skip
          refine lv_iload_n hx hb d_MM_lowest_30 rfl (lv_at hl 2 rfl) ?_
          exact zq_iret hx hb hr hlocks hZ hw ⟨e0, rfl, ⟨⟨by omega, by omega⟩, hz, fun q => by assumption⟩, rfl⟩ d_MM_lowest_31
        · refine lv_iinc (v := iI (e0 + 1)) (lv' := [(2, .int (iI (e0 + 1))), (0, .ref o), (1, .int (iI mi))]) hx hb d_MM_lowest_24 hl (k := 2) rfl (iI_add _ _) (by decide) rfl (fun ls hl => ?_)
          refine lv_goto (tgt := 2) hx hb d_MM_lowest_27 (by decide) ?_
          exact ih_hL (e0 + 1) _ _ _ (by omega) (fun e h1 h2 => by by_cases q : e = e0; rw [q]; assumption; exact hz e h1 (by omega)) (by omega) hw (lv_sub hl [1, 2, 0] rfl)
  refine lv_iconst (v := iI 0) hx hb d_MM_lowest_0 rfl ?_
  refine lv_istore_n (lv' := [(2, .int (iI 0)), (0, .ref o), (1, .int (iI mi))]) hx hb d_MM_lowest_1 rfl hl (by decide) rfl (fun ls hl => ?_)
  exact hL _ 0 _ _ _ ⟨by omega, by omega⟩ (fun e h1 h2 => by omega) (Nat.lt_succ_self _) hw (lv_sub hl [1, 2, 0] rfl)
abbrev P_MM_divides (K : Nat → ClassId) (M : zq_M) (o : Nat) (bd : Nat → Nat) (th : Int) (put : Int) (wr : Int) (nn : Int) (cir : Int) (oN : Int) (oC : Int) (lbs : Int) (fcs : Int) (arcs : Int) (mns : Int) (kn : Int) (av : Int → Int) (le : Int → Int) (mi : Int) (ki : Int) : Option Value → zq_M → Prop := fun v M' => v = some (.int (iI 1)) ∧ ∃ le', M' (bd 16) = some (cJ (K 1) 28 le') ∧ ∀ q, q ≠ (bd 16) → M' q = M q
set_option maxHeartbeats 4000000 in
set_option maxRecDepth 100000 in
theorem c_MM_divides (l : Launch) (D : va_G) (K : Nat → ClassId) (M : zq_M) (o : Nat) (bd : Nat → Nat) (th : Int) (put : Int) (wr : Int) (nn : Int) (cir : Int) (oN : Int) (oC : Int) (lbs : Int) (fcs : Int) (arcs : Int) (mns : Int) (kn : Int) (av : Int → Int) (le : Int → Int) (mi : Int) (ki : Int) (h_o : M o = some (.inr (9, [.int (iI th), .int (iI put), .int (iI wr), .ref (bd 0), .ref (bd 1), .int (iI nn), .int (iI cir), .int (iI oN), .int (iI oC), .ref (bd 2), .ref (bd 3), .ref (bd 4), .ref (bd 5), .int (iI lbs), .ref (bd 6), .ref (bd 7), .ref (bd 8), .int (iI fcs), .ref (bd 9), .int (iI arcs), .ref (bd 10), .ref (bd 11), .ref (bd 12), .ref (bd 13), .int (iI mns), .ref (bd 14), .ref (bd 15), .ref (bd 16), .int (iI kn), .ref (bd 17)]))) (hbd : ∀ i j, i < 18 → j < 18 → bd i = bd j → i = j) (h_av : M (bd 14) = some (cJ (K 1) 2100 av)) (h_le : M (bd 16) = some (cJ (K 1) 28 le)) (hmi : 0 ≤ mi ∧ mi < 150) (hki : 0 ≤ ki ∧ ki < 150) (hav : ∀ e, 0 ≤ e → e < 14 → -9223372036854775807 ≤ av (14 * mi + e) ∧ av (14 * mi + e) ≤ 9223372036854775807) (hak : ∀ e, 0 ≤ e → e < 14 → -9223372036854775807 ≤ av (14 * ki + e) ∧ av (14 * ki + e) ≤ 9223372036854775807) (hlw : ∀ r, zLo av mi r → r < 14) (hq : ∀ lo fm, zLo av mi lo → zLo av ki fm → ∃ q0, (q0 = 0 ∨ q0 = 1 ∨ q0 = -1) ∧ ∀ z, 0 ≤ z → z < 28 → zRw av ki fm z = q0 * zRw av mi lo z) : zq_Met l y_MM_divides (.code y_MM_divides b_MM_divides 11 (some .boolean) :: lw_gd) { frames := 1, cells := 0, slots := 0, locals := 22 } D vwCl (zT K) [.ref o, .int (iI mi), .int (iI ki)] M (P_MM_divides K M o bd th put wr nn cir oN oC lbs fcs arcs mns kn av le mi ki) 0 0 := by
  refine zq_start (cc := b_MM_divides) (maxL := 11) (ret := (some .boolean)) (by decide) rfl (Nat.le_of_ble_eq_true rfl) ?_
  intro p e s m below meth co A ls hx hb hr hml hts hown hnm hlocks hA hZ hw hl
  have hts : ∀ w ∈ lw_gd, w.before [.ref o, .int (iI mi), .int (iI ki)].toArray s = true := fun w h => hts w (List.mem_cons_of_mem _ h)
  have hown : s.vm.findClass R_MM = some m.cls := hown
  have hK := hZ.1
  have hl : lv_has ls 11 [(0, .ref o), (1, .int (iI mi)), (2, .int (iI ki))] := hl
  have hfr : ∀ q, q ≠ (bd 16) → M q = M q := fun q _ => rfl
  refine lv_aload_n hx hb d_MM_divides_0 rfl (lv_at hl 0 rfl) ?_
  refine lv_iload_n hx hb d_MM_divides_1 rfl (lv_at hl 1 rfl) ?_
  refine zq_callV (As := [.int (iI mi)]) (rest := []) ⟨hx, hb, hml, hown, hts⟩ (c_MM_lowest l D K M o bd th put wr nn cir oN oC lbs fcs arcs mns kn av  mi h_o hbd h_av hmi hav) (cwV 1 hts (zg_V tw_793 tw_795 ts_49 tw_10 tw_796) rfl rfl rfl (by decide +kernel) ⟨Nat.le_of_ble_eq_true rfl, Nat.le_of_ble_eq_true rfl⟩) hZ hw hA h_o rfl rfl rfl rfl hl.1 (Nat.le_of_ble_eq_true rfl) d_MM_divides_2 ⟨Nat.le_of_ble_eq_true rfl, Nat.le_of_ble_eq_true rfl⟩ (fun v M1 H locs hp hw => ?_)
  obtain ⟨lo, rfl, hOlo, hMe⟩ := hp
  rw [hMe] at hw
  refine W.eq (g2 := F0 m 5 ls [.int (iI lo)]) rfl ?_
  have hBlo := hOlo.1
  refine lv_istore_n (lv' := [(3, .int (iI lo)), (0, .ref o), (1, .int (iI mi)), (2, .int (iI ki))]) hx hb d_MM_divides_5 rfl hl (by decide) rfl (fun ls hl => ?_)
  refine lv_aload_n hx hb d_MM_divides_6 rfl (lv_at hl 1 rfl) ?_
  refine lv_iload_n hx hb d_MM_divides_7 rfl (lv_at hl 3 rfl) ?_
  refine zq_callV (As := [.int (iI ki)]) (rest := []) ⟨hx, hb, hml, hown, hts⟩ (c_MM_lowest l D K M o bd th put wr nn cir oN oC lbs fcs arcs mns kn av  ki h_o hbd h_av hki hak) (cwV 1 hts (zg_V tw_793 tw_795 ts_49 tw_10 tw_796) rfl rfl rfl (by decide +kernel) ⟨Nat.le_of_ble_eq_true rfl, Nat.le_of_ble_eq_true rfl⟩) hZ hw hA h_o rfl rfl rfl rfl hl.1 (Nat.le_of_ble_eq_true rfl) d_MM_divides_8 ⟨Nat.le_of_ble_eq_true rfl, Nat.le_of_ble_eq_true rfl⟩ (fun v M2 H locs hp hw => ?_)
  obtain ⟨fm, rfl, hOfm, hMe⟩ := hp
  rw [hMe] at hw
  refine W.eq (g2 := F0 m 11 ls [.int (iI fm)]) rfl ?_
  have hBfm := hOfm.1
  refine lv_istore (lv' := [(4, .int (iI fm)), (3, .int (iI lo)), (0, .ref o), (1, .int (iI mi)), (2, .int (iI ki))]) hx hb d_MM_divides_11 hl (by decide) rfl (fun ls hl => ?_)
  obtain ⟨q0, hq1, hq2⟩ := hq lo fm hOlo hOfm
  have hlo14 := hlw lo hOlo
  have hL2 : ∀ (n : Nat) (e0 : Int) (g : Int → Int) (Mq : zq_M) (H : Heap) (locs : List Loc) (ls : Array Slot), (0 ≤ e0 ∧ e0 ≤ 14) → ((e0 = 0 ∧ ∀ z, 0 ≤ z → z < 28 → g z = q0 * zRw av mi lo z) ∨ (1 ≤ e0 ∧ ∀ z, 0 ≤ z → z < 28 → g z = 0)) → (14 - e0).toNat < n → (∀ q, q ≠ (bd 16) → Mq q = M q) → Mq o = some (.inr (9, [.int (iI th), .int (iI put), .int (iI wr), .ref (bd 0), .ref (bd 1), .int (iI nn), .int (iI cir), .int (iI oN), .int (iI oC), .ref (bd 2), .ref (bd 3), .ref (bd 4), .ref (bd 5), .int (iI lbs), .ref (bd 6), .ref (bd 7), .ref (bd 8), .int (iI fcs), .ref (bd 9), .int (iI arcs), .ref (bd 10), .ref (bd 11), .ref (bd 12), .ref (bd 13), .int (iI mns), .ref (bd 14), .ref (bd 15), .ref (bd 16), .int (iI kn), .ref (bd 17)])) → Mq (bd 14) = some (cJ (K 1) 2100 av) → Mq (bd 16) = some (cJ (K 1) 28 g) → zq_W D vwCl A s.heap Mq H locs → lv_has ls 11 [(0, .ref o), (1, .int (iI mi)), (2, .int (iI ki)), (3, .int (iI lo)), (5, .int (iI e0))] → W p l e ({ frames := 1, cells := 0, slots := 0, locals := 22 } : Room) s m [.ref o, .int (iI mi), .int (iI ki)].toArray below meth co H locs 0 0 (MQ below (zq_Q D vwCl (zT K) (P_MM_divides K M o bd th put wr nn cir oN oC lbs fcs arcs mns kn av le mi ki) A) [.ref o, .int (iI mi), .int (iI ki)].toArray s 0 0 A) (F0 m 68 ls []) := by
    intro n
    induction n with
    | zero =>
      intro e0 g Mq H locs ls he hg hms hfr h_o h_av h_le hw hl
      exact absurd hms (Nat.not_lt_zero _)
    | succ n ih_hL2 =>
      intro e0 g Mq H locs ls he hg hms hfr h_o h_av h_le hw hl
      refine lv_iload hx hb d_MM_divides_68 (lv_at hl 4 rfl) ?_
      refine lv_bipush (v := iI 14) hx hb d_MM_divides_70 (by decide) ?_
      refine zq_icmp_ge (tgt := 189) hx hb d_MM_divides_72 (by decide) ⟨by omega, by omega⟩ (by decide) (fun hc3 => ?_) (fun hc3 => ?_)
      · have hzg : ∀ z, 0 ≤ z → z < 28 → g z = 0 := fun z h1 h2 => by rcases hg with q | q; omega; exact q.2 z h1 h2
        have hL4 : ∀ (n : Nat) (e1 : Int) (Mq : zq_M) (H : Heap) (locs : List Loc) (ls : Array Slot), (0 ≤ e1 ∧ e1 ≤ 28) → (28 - e1).toNat < n → (∀ q, q ≠ (bd 16) → Mq q = M q) → Mq o = some (.inr (9, [.int (iI th), .int (iI put), .int (iI wr), .ref (bd 0), .ref (bd 1), .int (iI nn), .int (iI cir), .int (iI oN), .int (iI oC), .ref (bd 2), .ref (bd 3), .ref (bd 4), .ref (bd 5), .int (iI lbs), .ref (bd 6), .ref (bd 7), .ref (bd 8), .int (iI fcs), .ref (bd 9), .int (iI arcs), .ref (bd 10), .ref (bd 11), .ref (bd 12), .ref (bd 13), .int (iI mns), .ref (bd 14), .ref (bd 15), .ref (bd 16), .int (iI kn), .ref (bd 17)])) → Mq (bd 14) = some (cJ (K 1) 2100 av) → Mq (bd 16) = some (cJ (K 1) 28 g) → zq_W D vwCl A s.heap Mq H locs → lv_has ls 11 [(0, .ref o), (5, .int (iI e1))] → W p l e ({ frames := 1, cells := 0, slots := 0, locals := 22 } : Room) s m [.ref o, .int (iI mi), .int (iI ki)].toArray below meth co H locs 0 0 (MQ below (zq_Q D vwCl (zT K) (P_MM_divides K M o bd th put wr nn cir oN oC lbs fcs arcs mns kn av le mi ki) A) [.ref o, .int (iI mi), .int (iI ki)].toArray s 0 0 A) (F0 m 192 ls []) := by
          intro n
          induction n with
          | zero =>
            intro e1 Mq H locs ls he1 hms hfr h_o h_av h_le hw hl
            exact absurd hms (Nat.not_lt_zero _)
          | succ n ih_hL4 =>
            intro e1 Mq H locs ls he1 hms hfr h_o h_av h_le hw hl
            refine lv_iload hx hb d_MM_divides_192 (lv_at hl 1 rfl) ?_
            refine lv_bipush (v := iI 28) hx hb d_MM_divides_194 (by decide) ?_
            refine zq_icmp_ge (tgt := 219) hx hb d_MM_divides_196 (by decide) ⟨by omega, by omega⟩ (by decide) (fun hc4 => ?_) (fun hc4 => ?_)
            · refine lv_iconst (v := iI 1) hx hb d_MM_divides_219 rfl ?_
              exact zq_zret hx hb hr rfl hlocks hZ hw ⟨rfl, g, h_le, hfr⟩ d_MM_divides_220
            · refine lv_aload_n hx hb d_MM_divides_199 rfl (lv_at hl 0 rfl) ?_
              refine zq_get hx hb hts i_MM hown hK hw h_o rfl 27 (by decide) (hts _ tw_613) rfl d_MM_divides_200 ?_
              refine lv_iload hx hb d_MM_divides_203 (lv_at hl 1 rfl) ?_
              refine zq_lald hx hb hK hw 1 h_le rfl (by omega) (by omega) (by decide) d_MM_divides_205 ?_
              refine lv_lconst (v := iL 0) hx hb d_MM_divides_206 (by decide) ?_
              refine zq_lcmp_eq (tgt := 213) hx hb d_MM_divides_207 d_MM_divides_208 (by decide) (by rw [hzg e1 (by omega) (by omega)]; decide) (by decide) (fun hc5 => ?_) (fun hc5 => ?_)
              · refine lv_iinc (v := iI (e1 + 1)) (lv' := [(5, .int (iI (e1 + 1))), (0, .ref o)]) hx hb d_MM_divides_213 hl (k := 1) rfl (iI_add _ _) (by decide) rfl (fun ls hl => ?_)
                refine lv_goto (tgt := 192) hx hb d_MM_divides_216 (by decide) ?_
                exact ih_hL4 (e1 + 1) Mq _ _ _ (by omega) (by omega) hfr h_o h_av h_le hw (lv_sub hl [1, 0] rfl)
              · exact absurd (hzg e1 (by omega) (by omega)) hc5
        refine lv_iconst (v := iI 0) hx hb d_MM_divides_189 rfl ?_
        refine lv_istore (lv' := [(5, .int (iI 0)), (0, .ref o), (1, .int (iI mi)), (2, .int (iI ki)), (3, .int (iI lo))]) hx hb d_MM_divides_190 hl (by decide) rfl (fun ls hl => ?_)
        exact hL4 _ 0 Mq _ _ _ ⟨by omega, by omega⟩ (Nat.lt_succ_self _) hfr h_o h_av h_le hw (lv_sub hl [1, 0] rfl)
      · have hby : ¬ av (14 * mi + lo) = 0 := hOlo.2.2 hlo14
        have hbr := hav lo hOlo.1.1 hlo14
        have hR0 : zRw av mi lo 0 = av (14 * mi + lo) := by rw [zRw_p (by omega), Int.add_zero]
        have hge : g e0 = (if e0 = 0 then q0 else 0) * av (14 * mi + lo) := by rcases hg with q | q; rw [q.2 e0 (by omega) (by omega), if_pos q.1, q.1, hR0]; rw [q.2 e0 (by omega) (by omega), if_neg (by omega), Int.zero_mul]
        have hqq : (if e0 = 0 then q0 else 0) = 0 ∨ (if e0 = 0 then q0 else 0) = 1 ∨ (if e0 = 0 then q0 else 0) = -1 := by split; exact hq1; exact Or.inl rfl
        have hgr := zsg0 hqq hbr
        have htm : Int.tmod (g e0) (av (14 * mi + lo)) = 0 := by rw [hge]; exact Int.mul_tmod_left _ _
        have htd : Int.tdiv (g e0) (av (14 * mi + lo)) = if e0 = 0 then q0 else 0 := by rw [hge]; exact Int.mul_tdiv_cancel _ hby
        rw [← hge] at hgr
        refine lv_aload_n hx hb d_MM_divides_75 rfl (lv_at hl 0 rfl) ?_
        refine zq_get hx hb hts i_MM hown hK hw h_o rfl 25 (by decide) (hts _ tw_611) rfl d_MM_divides_76 ?_
        refine lv_bipush (v := iI 14) hx hb d_MM_divides_79 (by decide) ?_
        refine lv_iload_n hx hb d_MM_divides_81 rfl (lv_at hl 1 rfl) ?_
        refine zq_imul hx hb d_MM_divides_82 ?_
        refine lv_iload_n hx hb d_MM_divides_83 rfl (lv_at hl 3 rfl) ?_
        refine zq_iadd hx hb d_MM_divides_84 ?_
        refine zq_lald hx hb hK hw 1 h_av rfl (by omega) (by omega) (by decide) d_MM_divides_85 ?_
        refine lv_lstore (lv' := [(6, .long (iL (av ((14 * mi) + lo)))), (0, .ref o), (1, .int (iI mi)), (2, .int (iI ki)), (3, .int (iI lo)), (5, .int (iI e0))]) hx hb d_MM_divides_86 hl (by decide) rfl (fun ls hl => ?_)
        refine lv_aload_n hx hb d_MM_divides_88 rfl (lv_at hl 1 rfl) ?_
        refine zq_get hx hb hts i_MM hown hK hw h_o rfl 27 (by decide) (hts _ tw_613) rfl d_MM_divides_89 ?_
        refine lv_iload hx hb d_MM_divides_92 (lv_at hl 5 rfl) ?_
        refine zq_lald hx hb hK hw 1 h_le rfl (by omega) (by omega) (by decide) d_MM_divides_94 ?_
        refine lv_lload hx hb d_MM_divides_95 (lv_at hl 0 rfl) ?_
        refine zq_lrem hx hb ⟨by omega, by omega⟩ (by omega) hby ⟨by omega, by omega⟩ d_MM_divides_97 ?_
        refine lv_lconst (v := iL 0) hx hb d_MM_divides_98 (by decide) ?_
        refine zq_lcmp_eq (tgt := 105) hx hb d_MM_divides_99 d_MM_divides_100 (by decide) (by rw [htm]; decide) (by decide) (fun hc6 => ?_) (fun hc6 => ?_)
        · refine lv_aload_n hx hb d_MM_divides_105 rfl (lv_at hl 1 rfl) ?_
          refine zq_get hx hb hts i_MM hown hK hw h_o rfl 27 (by decide) (hts _ tw_613) rfl d_MM_divides_106 ?_
          refine lv_iload hx hb d_MM_divides_109 (lv_at hl 5 rfl) ?_
          refine zq_lald hx hb hK hw 1 h_le rfl (by omega) (by omega) (by decide) d_MM_divides_111 ?_
          refine lv_lload hx hb d_MM_divides_112 (lv_at hl 0 rfl) ?_
          refine zq_ldiv hx hb ⟨by omega, by omega⟩ (by omega) hby ⟨by omega, by omega⟩ d_MM_divides_114 ?_
          refine lv_lstore (lv' := [(8, .long (iL (Int.tdiv (g e0) (av ((14 * mi) + lo))))), (6, .long (iL (av ((14 * mi) + lo)))), (0, .ref o), (1, .int (iI mi)), (2, .int (iI ki)), (3, .int (iI lo)), (5, .int (iI e0))]) hx hb d_MM_divides_115 hl (by decide) rfl (fun ls hl => ?_)
          obtain ⟨qv, hqv⟩ : ∃ z, z = Int.tdiv (g e0) (av ((14 * mi) + lo)) := ⟨_, rfl⟩
          rw [← hqv] at hl
          have hqv : qv = if e0 = 0 then q0 else 0 := by rw [hqv]; exact htd
          have hL3 : ∀ (n : Nat) (i : Int) (g2 : Int → Int) (Mq : zq_M) (H : Heap) (locs : List Loc) (ls : Array Slot), (0 ≤ i ∧ i ≤ 28) → ((e0 = 0 ∧ ∀ z, 0 ≤ z → z < 28 → g2 z = if z < i then 0 else q0 * zRw av mi lo z) ∨ (1 ≤ e0 ∧ ∀ z, 0 ≤ z → z < 28 → g2 z = 0)) → (28 - i).toNat < n → (∀ q, q ≠ (bd 16) → Mq q = M q) → Mq o = some (.inr (9, [.int (iI th), .int (iI put), .int (iI wr), .ref (bd 0), .ref (bd 1), .int (iI nn), .int (iI cir), .int (iI oN), .int (iI oC), .ref (bd 2), .ref (bd 3), .ref (bd 4), .ref (bd 5), .int (iI lbs), .ref (bd 6), .ref (bd 7), .ref (bd 8), .int (iI fcs), .ref (bd 9), .int (iI arcs), .ref (bd 10), .ref (bd 11), .ref (bd 12), .ref (bd 13), .int (iI mns), .ref (bd 14), .ref (bd 15), .ref (bd 16), .int (iI kn), .ref (bd 17)])) → Mq (bd 14) = some (cJ (K 1) 2100 av) → Mq (bd 16) = some (cJ (K 1) 28 g2) → zq_W D vwCl A s.heap Mq H locs → lv_has ls 11 [(0, .ref o), (1, .int (iI mi)), (2, .int (iI ki)), (3, .int (iI lo)), (5, .int (iI e0)), (8, .long (iL qv)), (10, .int (iI i))] → W p l e ({ frames := 1, cells := 0, slots := 0, locals := 22 } : Room) s m [.ref o, .int (iI mi), .int (iI ki)].toArray below meth co H locs 0 0 (MQ below (zq_Q D vwCl (zT K) (P_MM_divides K M o bd th put wr nn cir oN oC lbs fcs arcs mns kn av le mi ki) A) [.ref o, .int (iI mi), .int (iI ki)].toArray s 0 0 A) (F0 m 120 ls []) := by
            intro n
            induction n with
            | zero =>
              intro i g2 Mq H locs ls hi hg2 hms hfr h_o h_av h_le hw hl
              exact absurd hms (Nat.not_lt_zero _)
            | succ n ih_hL3 =>
              intro i g2 Mq H locs ls hi hg2 hms hfr h_o h_av h_le hw hl
              refine lv_iload_n hx hb d_MM_divides_120 rfl (lv_at hl 3 rfl) ?_
              refine lv_iload hx hb d_MM_divides_121 (lv_at hl 6 rfl) ?_
              refine zq_iadd hx hb d_MM_divides_123 ?_
              refine lv_bipush (v := iI 14) hx hb d_MM_divides_124 (by decide) ?_
              refine zq_icmp_ge (tgt := 183) hx hb d_MM_divides_126 (by decide) ⟨by omega, by omega⟩ (by decide) (fun hc7 => ?_) (fun hc7 => ?_)
              · have hzz : ∀ z, 0 ≤ z → z < 28 → g2 z = 0 := fun z h1 h2 => by rcases hg2 with q | q; rw [q.2 z h1 h2]; by_cases e : z < i; exact if_pos e; rw [if_neg e, zRw_n (by omega), Int.mul_zero]; exact q.2 z h1 h2
                refine lv_iinc (v := iI (e0 + 1)) (lv' := [(5, .int (iI (e0 + 1))), (0, .ref o), (1, .int (iI mi)), (2, .int (iI ki)), (3, .int (iI lo)), (8, .long (iL qv)), (10, .int (iI i))]) hx hb d_MM_divides_183 hl (k := 4) rfl (iI_add _ _) (by decide) rfl (fun ls hl => ?_)
                refine lv_goto (tgt := 68) hx hb d_MM_divides_186 (by decide) ?_
                exact ih_hL2 (e0 + 1) g2 Mq _ _ _ (by omega) (Or.inr ⟨by omega, hzz⟩) (by omega) hfr h_o h_av h_le hw (lv_sub hl [1, 2, 3, 4, 0] rfl)
              · refine lv_iload hx hb d_MM_divides_129 (lv_at hl 4 rfl) ?_
                refine lv_iload hx hb d_MM_divides_131 (lv_at hl 6 rfl) ?_
                refine zq_iadd hx hb d_MM_divides_133 ?_
                refine lv_bipush (v := iI 28) hx hb d_MM_divides_134 (by decide) ?_
                refine zq_icmp_ge (tgt := 183) hx hb d_MM_divides_136 (by decide) ⟨by omega, by omega⟩ (by decide) (fun hc8 => ?_) (fun hc8 => ?_)
                · have hzz : ∀ z, 0 ≤ z → z < 28 → g2 z = 0 := fun z h1 h2 => by rcases hg2 with q | q; rw [q.2 z h1 h2]; by_cases e : z < i; exact if_pos e; rw [if_neg e, zRw_n (by omega), Int.mul_zero]; exact q.2 z h1 h2
                  refine lv_iinc (v := iI (e0 + 1)) (lv' := [(5, .int (iI (e0 + 1))), (0, .ref o), (1, .int (iI mi)), (2, .int (iI ki)), (3, .int (iI lo)), (8, .long (iL qv)), (10, .int (iI i))]) hx hb d_MM_divides_183 hl (k := 4) rfl (iI_add _ _) (by decide) rfl (fun ls hl => ?_)
                  refine lv_goto (tgt := 68) hx hb d_MM_divides_186 (by decide) ?_
                  exact ih_hL2 (e0 + 1) g2 Mq _ _ _ (by omega) (Or.inr ⟨by omega, hzz⟩) (by omega) hfr h_o h_av h_le hw (lv_sub hl [1, 2, 3, 4, 0] rfl)
                · refine lv_aload_n hx hb d_MM_divides_139 rfl (lv_at hl 0 rfl) ?_
                  refine zq_get hx hb hts i_MM hown hK hw h_o rfl 27 (by decide) (hts _ tw_613) rfl d_MM_divides_140 ?_
                  refine lv_iload hx hb d_MM_divides_143 (lv_at hl 4 rfl) ?_
                  refine lv_iload hx hb d_MM_divides_145 (lv_at hl 6 rfl) ?_
                  refine zq_iadd hx hb d_MM_divides_147 ?_
                  refine lv_aload_n hx hb d_MM_divides_148 rfl (lv_at hl 0 rfl) ?_
                  refine zq_get hx hb hts i_MM hown hK hw h_o rfl 27 (by decide) (hts _ tw_613) rfl d_MM_divides_149 ?_
                  refine lv_iload hx hb d_MM_divides_152 (lv_at hl 4 rfl) ?_
                  refine lv_iload hx hb d_MM_divides_154 (lv_at hl 6 rfl) ?_
                  refine zq_iadd hx hb d_MM_divides_156 ?_
                  refine zq_lald hx hb hK hw 1 h_le rfl (by omega) (by omega) (by decide) d_MM_divides_157 ?_
                  refine lv_lload hx hb d_MM_divides_158 (lv_at hl 5 rfl) ?_
                  refine lv_aload_n hx hb d_MM_divides_160 rfl (lv_at hl 0 rfl) ?_
                  refine zq_get hx hb hts i_MM hown hK hw h_o rfl 25 (by decide) (hts _ tw_611) rfl d_MM_divides_161 ?_
                  refine lv_bipush (v := iI 14) hx hb d_MM_divides_164 (by decide) ?_
                  refine lv_iload_n hx hb d_MM_divides_166 rfl (lv_at hl 1 rfl) ?_
                  refine zq_imul hx hb d_MM_divides_167 ?_
                  refine lv_iload_n hx hb d_MM_divides_168 rfl (lv_at hl 3 rfl) ?_
                  refine zq_iadd hx hb d_MM_divides_169 ?_
                  refine lv_iload hx hb d_MM_divides_170 (lv_at hl 6 rfl) ?_
                  refine zq_iadd hx hb d_MM_divides_172 ?_
                  refine zq_lald hx hb hK hw 1 h_av rfl (by omega) (by omega) (by decide) d_MM_divides_173 ?_
                  refine zq_lmul hx hb d_MM_divides_174 ?_
                  refine zq_lsub hx hb d_MM_divides_175 ?_
                  refine zq_last hx hb hK hw 1 h_le rfl (by omega) (by omega) (by decide) d_MM_divides_176 (fun M9 H locs hs ho hw => ?_)
                  have h_o : M9 o = some (.inr (9, [.int (iI th), .int (iI put), .int (iI wr), .ref (bd 0), .ref (bd 1), .int (iI nn), .int (iI cir), .int (iI oN), .int (iI oC), .ref (bd 2), .ref (bd 3), .ref (bd 4), .ref (bd 5), .int (iI lbs), .ref (bd 6), .ref (bd 7), .ref (bd 8), .int (iI fcs), .ref (bd 9), .int (iI arcs), .ref (bd 10), .ref (bd 11), .ref (bd 12), .ref (bd 13), .int (iI mns), .ref (bd 14), .ref (bd 15), .ref (bd 16), .int (iI kn), .ref (bd 17)])) := (ho _ (zq_ne h_o h_le (by simp))).trans h_o
                  have h_av : M9 (bd 14) = some (cJ (K 1) 2100 av) := (ho _ (zbd hbd 14 16)).trans h_av
                  have h_le : M9 (bd 16) = some (cJ (K 1) 28 (zu g2 (e0 + i) ((g2 (e0 + i)) - (qv * (av (((14 * mi) + lo) + i)))))) := hs
                  have hfr : ∀ q, q ≠ (bd 16) → M9 q = M q := fun q g0 => (ho q g0).trans (hfr q g0)
                  have hgn : (e0 = 0 ∧ ∀ z, 0 ≤ z → z < 28 → (zu g2 (e0 + i) ((g2 (e0 + i)) - (qv * (av (((14 * mi) + lo) + i))))) z = if z < i + 1 then 0 else q0 * zRw av mi lo z) ∨ (1 ≤ e0 ∧ ∀ z, 0 ≤ z → z < 28 → (zu g2 (e0 + i) ((g2 (e0 + i)) - (qv * (av (((14 * mi) + lo) + i))))) z = 0) := by
                    rcases hg2 with q | q
                    · refine Or.inl ⟨q.1, fun z h1 h2 => ?_⟩
                      by_cases e : z = e0 + i
                      · rw [e, zu_self, q.2 (e0 + i) (by omega) (by omega), if_neg (by omega), if_pos (by omega), hqv, if_pos q.1, q.1, Int.zero_add, zRw_p (by omega)]; exact Int.sub_self _
                      · rw [zu_ne _ _ e, q.2 z h1 h2]; by_cases e2 : z < i; rw [if_pos e2, if_pos (by omega)]; rw [if_neg e2, if_neg (by omega)]
                    · refine Or.inr ⟨q.1, fun z h1 h2 => ?_⟩
                      by_cases e : z = e0 + i
                      · rw [e, zu_self, q.2 (e0 + i) (by omega) (by omega), hqv, if_neg (by omega), Int.zero_mul, Int.sub_zero]
                      · rw [zu_ne _ _ e]; exact q.2 z h1 h2
                  refine lv_iinc (v := iI (i + 1)) (lv' := [(10, .int (iI (i + 1))), (0, .ref o), (1, .int (iI mi)), (2, .int (iI ki)), (3, .int (iI lo)), (5, .int (iI e0)), (8, .long (iL qv))]) hx hb d_MM_divides_177 hl (k := 6) rfl (iI_add _ _) (by decide) rfl (fun ls hl => ?_)
                  refine lv_goto (tgt := 120) hx hb d_MM_divides_180 (by decide) ?_
                  exact ih_hL3 (i + 1) (zu g2 (e0 + i) ((g2 (e0 + i)) - (qv * (av (((14 * mi) + lo) + i))))) M9 _ _ _ (by omega) hgn (by omega) hfr h_o h_av h_le hw (lv_sub hl [1, 2, 3, 4, 5, 6, 0] rfl)
          refine lv_iconst (v := iI 0) hx hb d_MM_divides_117 rfl ?_
          refine lv_istore (lv' := [(10, .int (iI 0)), (8, .long (iL qv)), (6, .long (iL (av ((14 * mi) + lo)))), (0, .ref o), (1, .int (iI mi)), (2, .int (iI ki)), (3, .int (iI lo)), (5, .int (iI e0))]) hx hb d_MM_divides_118 hl (by decide) rfl (fun ls hl => ?_)
          exact hL3 _ 0 g Mq _ _ _ ⟨by omega, by omega⟩ (by rcases hg with q | q; exact Or.inl ⟨q.1, fun z h1 h2 => by rw [if_neg (by omega)]; exact q.2 z h1 h2⟩; exact Or.inr q) (Nat.lt_succ_self _) hfr h_o h_av h_le hw (lv_sub hl [3, 4, 5, 6, 7, 1, 0] rfl)
        · exact absurd htm hc6
  have hL1 : ∀ (n : Nat) (e0 : Int) (g : Int → Int) (Mq : zq_M) (H : Heap) (locs : List Loc) (ls : Array Slot), (0 ≤ e0 ∧ e0 ≤ 28) → (∀ z, g z = if 0 ≤ z ∧ z < e0 then zRw av ki fm z else le z) → (28 - e0).toNat < n → (∀ q, q ≠ (bd 16) → Mq q = M q) → Mq o = some (.inr (9, [.int (iI th), .int (iI put), .int (iI wr), .ref (bd 0), .ref (bd 1), .int (iI nn), .int (iI cir), .int (iI oN), .int (iI oC), .ref (bd 2), .ref (bd 3), .ref (bd 4), .ref (bd 5), .int (iI lbs), .ref (bd 6), .ref (bd 7), .ref (bd 8), .int (iI fcs), .ref (bd 9), .int (iI arcs), .ref (bd 10), .ref (bd 11), .ref (bd 12), .ref (bd 13), .int (iI mns), .ref (bd 14), .ref (bd 15), .ref (bd 16), .int (iI kn), .ref (bd 17)])) → Mq (bd 14) = some (cJ (K 1) 2100 av) → Mq (bd 16) = some (cJ (K 1) 28 g) → zq_W D vwCl A s.heap Mq H locs → lv_has ls 11 [(0, .ref o), (1, .int (iI mi)), (2, .int (iI ki)), (3, .int (iI lo)), (4, .int (iI fm)), (5, .int (iI e0))] → W p l e ({ frames := 1, cells := 0, slots := 0, locals := 22 } : Room) s m [.ref o, .int (iI mi), .int (iI ki)].toArray below meth co H locs 0 0 (MQ below (zq_Q D vwCl (zT K) (P_MM_divides K M o bd th put wr nn cir oN oC lbs fcs arcs mns kn av le mi ki) A) [.ref o, .int (iI mi), .int (iI ki)].toArray s 0 0 A) (F0 m 16 ls []) := by
    intro n
    induction n with
    | zero =>
      intro e0 g Mq H locs ls he hg hms hfr h_o h_av h_le hw hl
      exact absurd hms (Nat.not_lt_zero _)
    | succ n ih_hL1 =>
      intro e0 g Mq H locs ls he hg hms hfr h_o h_av h_le hw hl
      refine lv_iload hx hb d_MM_divides_16 (lv_at hl 5 rfl) ?_
      refine lv_bipush (v := iI 28) hx hb d_MM_divides_18 (by decide) ?_
      refine zq_icmp_ge (tgt := 65) hx hb d_MM_divides_20 (by decide) ⟨by omega, by omega⟩ (by decide) (fun hc10 => ?_) (fun hc10 => ?_)
      · refine lv_iconst (v := iI 0) hx hb d_MM_divides_65 rfl ?_
        refine lv_istore (lv' := [(5, .int (iI 0)), (0, .ref o), (1, .int (iI mi)), (2, .int (iI ki)), (3, .int (iI lo)), (4, .int (iI fm))]) hx hb d_MM_divides_66 hl (by decide) rfl (fun ls hl => ?_)
        exact hL2 _ 0 g Mq _ _ _ ⟨by omega, by omega⟩ (Or.inl ⟨rfl, fun z h1 h2 => by rw [hg, if_pos ⟨h1, by omega⟩]; exact hq2 z h1 h2⟩) (Nat.lt_succ_self _) hfr h_o h_av h_le hw (lv_sub hl [1, 2, 3, 4, 0] rfl)
      · refine lv_aload_n hx hb d_MM_divides_23 rfl (lv_at hl 0 rfl) ?_
        refine zq_get hx hb hts i_MM hown hK hw h_o rfl 27 (by decide) (hts _ tw_613) rfl d_MM_divides_24 ?_
        refine lv_iload hx hb d_MM_divides_27 (lv_at hl 5 rfl) ?_
        refine lv_iload hx hb d_MM_divides_29 (lv_at hl 5 rfl) ?_
        refine lv_iload hx hb d_MM_divides_31 (lv_at hl 4 rfl) ?_
        refine zq_iadd hx hb d_MM_divides_33 ?_
        refine lv_bipush (v := iI 14) hx hb d_MM_divides_34 (by decide) ?_
        refine zq_icmp_ge (tgt := 57) hx hb d_MM_divides_36 (by decide) ⟨by omega, by omega⟩ (by decide) (fun hc11 => ?_) (fun hc11 => ?_)
        · refine lv_lconst (v := iL 0) hx hb d_MM_divides_57 (by decide) ?_
          refine zq_last hx hb hK hw 1 h_le rfl (by omega) (by omega) (by decide) d_MM_divides_58 (fun M12 H locs hs ho hw => ?_)
          have h_o : M12 o = some (.inr (9, [.int (iI th), .int (iI put), .int (iI wr), .ref (bd 0), .ref (bd 1), .int (iI nn), .int (iI cir), .int (iI oN), .int (iI oC), .ref (bd 2), .ref (bd 3), .ref (bd 4), .ref (bd 5), .int (iI lbs), .ref (bd 6), .ref (bd 7), .ref (bd 8), .int (iI fcs), .ref (bd 9), .int (iI arcs), .ref (bd 10), .ref (bd 11), .ref (bd 12), .ref (bd 13), .int (iI mns), .ref (bd 14), .ref (bd 15), .ref (bd 16), .int (iI kn), .ref (bd 17)])) := (ho _ (zq_ne h_o h_le (by simp))).trans h_o
          have h_av : M12 (bd 14) = some (cJ (K 1) 2100 av) := (ho _ (zbd hbd 14 16)).trans h_av
          have h_le : M12 (bd 16) = some (cJ (K 1) 28 (zu g e0 0)) := hs
          have hfr : ∀ q, q ≠ (bd 16) → M12 q = M q := fun q g0 => (ho q g0).trans (hfr q g0)
          refine lv_iinc (v := iI (e0 + 1)) (lv' := [(5, .int (iI (e0 + 1))), (0, .ref o), (1, .int (iI mi)), (2, .int (iI ki)), (3, .int (iI lo)), (4, .int (iI fm))]) hx hb d_MM_divides_59 hl (k := 5) rfl (iI_add _ _) (by decide) rfl (fun ls hl => ?_)
          refine lv_goto (tgt := 16) hx hb d_MM_divides_62 (by decide) ?_
          exact ih_hL1 (e0 + 1) (zu g e0 0) M12 _ _ _ (by omega) (by have h9 := zcp_step hg he.1; rw [zRw_n (by omega)] at h9; exact h9) (by omega) hfr h_o h_av h_le hw (lv_sub hl [1, 2, 3, 4, 5, 0] rfl)
        · refine lv_aload_n hx hb d_MM_divides_39 rfl (lv_at hl 0 rfl) ?_
          refine zq_get hx hb hts i_MM hown hK hw h_o rfl 25 (by decide) (hts _ tw_611) rfl d_MM_divides_40 ?_
          refine lv_bipush (v := iI 14) hx hb d_MM_divides_43 (by decide) ?_
          refine lv_iload_n hx hb d_MM_divides_45 rfl (lv_at hl 2 rfl) ?_
          refine zq_imul hx hb d_MM_divides_46 ?_
          refine lv_iload hx hb d_MM_divides_47 (lv_at hl 4 rfl) ?_
          refine zq_iadd hx hb d_MM_divides_49 ?_
          refine lv_iload hx hb d_MM_divides_50 (lv_at hl 5 rfl) ?_
          refine zq_iadd hx hb d_MM_divides_52 ?_
          refine zq_lald hx hb hK hw 1 h_av rfl (by omega) (by omega) (by decide) d_MM_divides_53 ?_
          refine lv_goto (tgt := 58) hx hb d_MM_divides_54 (by decide) ?_
          refine zq_last hx hb hK hw 1 h_le rfl (by omega) (by omega) (by decide) d_MM_divides_58 (fun M13 H locs hs ho hw => ?_)
          have h_o : M13 o = some (.inr (9, [.int (iI th), .int (iI put), .int (iI wr), .ref (bd 0), .ref (bd 1), .int (iI nn), .int (iI cir), .int (iI oN), .int (iI oC), .ref (bd 2), .ref (bd 3), .ref (bd 4), .ref (bd 5), .int (iI lbs), .ref (bd 6), .ref (bd 7), .ref (bd 8), .int (iI fcs), .ref (bd 9), .int (iI arcs), .ref (bd 10), .ref (bd 11), .ref (bd 12), .ref (bd 13), .int (iI mns), .ref (bd 14), .ref (bd 15), .ref (bd 16), .int (iI kn), .ref (bd 17)])) := (ho _ (zq_ne h_o h_le (by simp))).trans h_o
          have h_av : M13 (bd 14) = some (cJ (K 1) 2100 av) := (ho _ (zbd hbd 14 16)).trans h_av
          have h_le : M13 (bd 16) = some (cJ (K 1) 28 (zu g e0 (av (((14 * ki) + fm) + e0)))) := hs
          have hfr : ∀ q, q ≠ (bd 16) → M13 q = M q := fun q g0 => (ho q g0).trans (hfr q g0)
          refine lv_iinc (v := iI (e0 + 1)) (lv' := [(5, .int (iI (e0 + 1))), (0, .ref o), (1, .int (iI mi)), (2, .int (iI ki)), (3, .int (iI lo)), (4, .int (iI fm))]) hx hb d_MM_divides_59 hl (k := 5) rfl (iI_add _ _) (by decide) rfl (fun ls hl => ?_)
          refine lv_goto (tgt := 16) hx hb d_MM_divides_62 (by decide) ?_
          exact ih_hL1 (e0 + 1) (zu g e0 (av (((14 * ki) + fm) + e0))) M13 _ _ _ (by omega) (by have h9 := zcp_step hg he.1; rw [zRw_p (by omega)] at h9; exact h9) (by omega) hfr h_o h_av h_le hw (lv_sub hl [1, 2, 3, 4, 5, 0] rfl)
  refine lv_iconst (v := iI 0) hx hb d_MM_divides_13 rfl ?_
  refine lv_istore (lv' := [(5, .int (iI 0)), (4, .int (iI fm)), (3, .int (iI lo)), (0, .ref o), (1, .int (iI mi)), (2, .int (iI ki))]) hx hb d_MM_divides_14 hl (by decide) rfl (fun ls hl => ?_)
  exact hL1 _ 0 le M _ _ _ ⟨by omega, by omega⟩ (fun z => (if_neg (by omega)).symm) (Nat.lt_succ_self _) hfr h_o h_av h_le hw (lv_sub hl [3, 4, 5, 2, 1, 0] rfl)
abbrev P_MM_findDivisor (K : Nat → ClassId) (M : zq_M) (o : Nat) (bd : Nat → Nat) (th : Int) (put : Int) (wr : Int) (nn : Int) (cir : Int) (oN : Int) (oC : Int) (lbs : Int) (fcs : Int) (arcs : Int) (mns : Int) (kn : Int) (av : Int → Int) (le : Int → Int) (po : Int → Int) : Option Value → zq_M → Prop := fun v M' => v = none ∧ ∃ le' po', ((po' = po ∧ ∀ j, 0 ≤ j → j < mns → zLo av j 14) ∨ ∃ m0 lw, (0 ≤ m0 ∧ m0 < mns) ∧ (∀ j, 0 ≤ j → j < m0 → zLo av j 14) ∧ zLo av m0 lw ∧ lw < 14 ∧ ∃ sv, ((sv = 1 ∧ 0 < av (14 * m0 + lw)) ∨ (sv = -1 ∧ av (14 * m0 + lw) < 0)) ∧ ∀ z, po' z = if 0 ≤ z ∧ z < 14 - lw then sv * av (14 * m0 + lw + z) else po z) ∧ M' (bd 16) = some (cJ (K 1) 28 le') ∧ M' (bd 15) = some (cJ (K 1) 14 po') ∧ ∀ q, q ≠ (bd 16) → q ≠ (bd 15) → M' q = M q
set_option maxHeartbeats 4000000 in
set_option maxRecDepth 100000 in
theorem c_MM_findDivisor (l : Launch) (D : va_G) (K : Nat → ClassId) (M : zq_M) (o : Nat) (bd : Nat → Nat) (th : Int) (put : Int) (wr : Int) (nn : Int) (cir : Int) (oN : Int) (oC : Int) (lbs : Int) (fcs : Int) (arcs : Int) (mns : Int) (kn : Int) (av : Int → Int) (le : Int → Int) (po : Int → Int) (h_o : M o = some (.inr (9, [.int (iI th), .int (iI put), .int (iI wr), .ref (bd 0), .ref (bd 1), .int (iI nn), .int (iI cir), .int (iI oN), .int (iI oC), .ref (bd 2), .ref (bd 3), .ref (bd 4), .ref (bd 5), .int (iI lbs), .ref (bd 6), .ref (bd 7), .ref (bd 8), .int (iI fcs), .ref (bd 9), .int (iI arcs), .ref (bd 10), .ref (bd 11), .ref (bd 12), .ref (bd 13), .int (iI mns), .ref (bd 14), .ref (bd 15), .ref (bd 16), .int (iI kn), .ref (bd 17)]))) (hbd : ∀ i j, i < 18 → j < 18 → bd i = bd j → i = j) (h_av : M (bd 14) = some (cJ (K 1) 2100 av)) (h_le : M (bd 16) = some (cJ (K 1) 28 le)) (h_po : M (bd 15) = some (cJ (K 1) 14 po)) (hmns : 0 ≤ mns ∧ mns ≤ 150) (hav : ∀ j, 0 ≤ j → j < mns → ∀ e, 0 ≤ e → e < 14 → -9223372036854775807 ≤ av (14 * j + e) ∧ av (14 * j + e) ≤ 9223372036854775807) (hq : ∀ mi ki lo fm, 0 ≤ mi → mi < mns → 0 ≤ ki → ki < mns → zLo av mi lo → lo < 14 → zLo av ki fm → ∃ q0, (q0 = 0 ∨ q0 = 1 ∨ q0 = -1) ∧ ∀ z, 0 ≤ z → z < 28 → zRw av ki fm z = q0 * zRw av mi lo z) : zq_Met l y_MM_findDivisor (.code y_MM_findDivisor b_MM_findDivisor 5 none :: lw_gd) { frames := 2, cells := 0, slots := 0, locals := 52 } D vwCl (zT K) [.ref o] M (P_MM_findDivisor K M o bd th put wr nn cir oN oC lbs fcs arcs mns kn av le po) 0 0 := by
  refine zq_start (cc := b_MM_findDivisor) (maxL := 5) (ret := none) (by decide) rfl (Nat.le_of_ble_eq_true rfl) ?_
  intro p e s m below meth co A ls hx hb hr hml hts hown hnm hlocks hA hZ hw hl
  have hts : ∀ w ∈ lw_gd, w.before [.ref o].toArray s = true := fun w h => hts w (List.mem_cons_of_mem _ h)
  have hown : s.vm.findClass R_MM = some m.cls := hown
  have hK := hZ.1
  have hl : lv_has ls 5 [(0, .ref o)] := hl
  have hfr : ∀ q, q ≠ (bd 16) → q ≠ (bd 15) → M q = M q := fun q _ _ => rfl
  have hL1 : ∀ (n : Nat) (mi : Int) (fnd : Int) (gl : Int → Int) (Mq : zq_M) (H : Heap) (locs : List Loc) (ls : Array Slot), (0 ≤ mi ∧ mi ≤ mns) → ((fnd = -1 ∧ ∀ j, 0 ≤ j → j < mi → zLo av j 14) ∨ ((0 ≤ fnd ∧ fnd < mns) ∧ (∀ j, 0 ≤ j → j < fnd → zLo av j 14) ∧ ∃ r, zLo av fnd r ∧ r < 14)) → (mns - mi).toNat < n → (∀ q, q ≠ (bd 16) → q ≠ (bd 15) → Mq q = M q) → Mq o = some (.inr (9, [.int (iI th), .int (iI put), .int (iI wr), .ref (bd 0), .ref (bd 1), .int (iI nn), .int (iI cir), .int (iI oN), .int (iI oC), .ref (bd 2), .ref (bd 3), .ref (bd 4), .ref (bd 5), .int (iI lbs), .ref (bd 6), .ref (bd 7), .ref (bd 8), .int (iI fcs), .ref (bd 9), .int (iI arcs), .ref (bd 10), .ref (bd 11), .ref (bd 12), .ref (bd 13), .int (iI mns), .ref (bd 14), .ref (bd 15), .ref (bd 16), .int (iI kn), .ref (bd 17)])) → Mq (bd 14) = some (cJ (K 1) 2100 av) → Mq (bd 16) = some (cJ (K 1) 28 gl) → Mq (bd 15) = some (cJ (K 1) 14 po) → zq_W D vwCl A s.heap Mq H locs → lv_has ls 5 [(0, .ref o), (1, .int (iI fnd)), (2, .int (iI mi))] → W p l e ({ frames := 2, cells := 0, slots := 0, locals := 52 } : Room) s m [.ref o].toArray below meth co H locs 0 0 (MQ below (zq_Q D vwCl (zT K) (P_MM_findDivisor K M o bd th put wr nn cir oN oC lbs fcs arcs mns kn av le po) A) [.ref o].toArray s 0 0 A) (F0 m 4 ls []) := by
    intro n
    induction n with
    | zero =>
      intro mi fnd gl Mq H locs ls hmi hf hms hfr h_o h_av h_le h_po hw hl
      exact absurd hms (Nat.not_lt_zero _)
    | succ n ih_hL1 =>
      intro mi fnd gl Mq H locs ls hmi hf hms hfr h_o h_av h_le h_po hw hl
      refine lv_iload_n hx hb d_MM_findDivisor_4 rfl (lv_at hl 2 rfl) ?_
      refine lv_aload_n hx hb d_MM_findDivisor_5 rfl (lv_at hl 0 rfl) ?_
      refine zq_get hx hb hts i_MM hown hK hw h_o rfl 24 (by decide) (hts _ tw_610) rfl d_MM_findDivisor_6 ?_
      refine zq_icmp_ge (tgt := 78) hx hb d_MM_findDivisor_9 (by decide) ⟨by omega, by omega⟩ ⟨by omega, by omega⟩ (fun hc1 => ?_) (fun hc1 => ?_)
      · refine lv_iload_n hx hb d_MM_findDivisor_78 rfl (lv_at hl 1 rfl) ?_
        refine zq_if_ge (tgt := 83) hx hb d_MM_findDivisor_79 (by decide) (by rcases hf with q | q <;> exact ⟨by omega, by omega⟩) (fun hc2 => ?_) (fun hc2 => ?_)
        · obtain ⟨hfr0, hf1, rx, hrx1, hrx2⟩ := hf.resolve_left (fun q => by omega)
          refine lv_aload_n hx hb d_MM_findDivisor_83 rfl (lv_at hl 0 rfl) ?_
          refine lv_iload_n hx hb d_MM_findDivisor_84 rfl (lv_at hl 1 rfl) ?_
          refine zq_callV (As := [.int (iI fnd)]) (rest := []) ⟨hx, hb, hml, hown, hts⟩ (c_MM_lowest l D K Mq o bd th put wr nn cir oN oC lbs fcs arcs mns kn av  fnd h_o hbd h_av ⟨by omega, by omega⟩ (hav fnd hfr0.1 hfr0.2)) (cwV 1 hts (zg_V tw_793 tw_795 ts_49 tw_10 tw_796) rfl rfl rfl (by decide +kernel) ⟨Nat.le_of_ble_eq_true rfl, Nat.le_of_ble_eq_true rfl⟩) hZ hw hA h_o rfl rfl rfl rfl hl.1 (Nat.le_of_ble_eq_true rfl) d_MM_findDivisor_85 ⟨Nat.le_of_ble_eq_true rfl, Nat.le_of_ble_eq_true rfl⟩ (fun v M3 H locs hp hw => ?_)
          obtain ⟨lw, rfl, hOlw, hMe⟩ := hp
          rw [hMe] at hw
          refine W.eq (g2 := F0 m 88 ls [.int (iI lw)]) rfl ?_
          have hBlw := hOlw.1
          refine lv_istore_n (lv' := [(2, .int (iI lw)), (0, .ref o), (1, .int (iI fnd))]) hx hb d_MM_findDivisor_88 rfl hl (by decide) rfl (fun ls hl => ?_)
          have hlw14 : lw < 14 := by rw [zLo_un hOlw hrx1]; exact hrx2
          have hnz := hOlw.2.2 hlw14
          have hbr := hav fnd hfr0.1 hfr0.2 lw hOlw.1.1 hlw14
          refine lv_aload_n hx hb d_MM_findDivisor_89 rfl (lv_at hl 1 rfl) ?_
          refine zq_get hx hb hts i_MM hown hK hw h_o rfl 25 (by decide) (hts _ tw_611) rfl d_MM_findDivisor_90 ?_
          refine lv_bipush (v := iI 14) hx hb d_MM_findDivisor_93 (by decide) ?_
          refine lv_iload_n hx hb d_MM_findDivisor_95 rfl (lv_at hl 2 rfl) ?_
          refine zq_imul hx hb d_MM_findDivisor_96 ?_
          refine lv_iload_n hx hb d_MM_findDivisor_97 rfl (lv_at hl 0 rfl) ?_
          refine zq_iadd hx hb d_MM_findDivisor_98 ?_
          refine zq_lald hx hb hK hw 1 h_av rfl (by omega) (by omega) (by decide) d_MM_findDivisor_99 ?_
          refine lv_lconst (v := iL 0) hx hb d_MM_findDivisor_100 (by decide) ?_
          refine zq_lcmp_ge (tgt := 109) hx hb d_MM_findDivisor_101 d_MM_findDivisor_102 (by decide) ⟨by omega, by omega⟩ (by decide) (fun hc4 => ?_) (fun hc4 => ?_)
          · refine lv_iconst (v := iI 1) hx hb d_MM_findDivisor_109 rfl ?_
            refine lv_istore_n (lv' := [(3, .int (iI 1)), (2, .int (iI lw)), (0, .ref o), (1, .int (iI fnd))]) hx hb d_MM_findDivisor_110 rfl hl (by decide) rfl (fun ls hl => ?_)
            obtain ⟨sv, hsv⟩ : ∃ z : Int, z = 1 := ⟨_, rfl⟩
            rw [← hsv] at hl
            have hsv2 : (sv = 1 ∧ 0 < av (14 * fnd + lw)) ∨ (sv = -1 ∧ av (14 * fnd + lw) < 0) := by omega
            have hL3 : ∀ (n : Nat) (e0 : Int) (gp : Int → Int) (Mq : zq_M) (H : Heap) (locs : List Loc) (ls : Array Slot), (0 ≤ e0 ∧ lw + e0 ≤ 14) → (∀ z, gp z = if 0 ≤ z ∧ z < e0 then sv * av (14 * fnd + lw + z) else po z) → (14 - lw - e0).toNat < n → (∀ q, q ≠ (bd 16) → q ≠ (bd 15) → Mq q = M q) → Mq o = some (.inr (9, [.int (iI th), .int (iI put), .int (iI wr), .ref (bd 0), .ref (bd 1), .int (iI nn), .int (iI cir), .int (iI oN), .int (iI oC), .ref (bd 2), .ref (bd 3), .ref (bd 4), .ref (bd 5), .int (iI lbs), .ref (bd 6), .ref (bd 7), .ref (bd 8), .int (iI fcs), .ref (bd 9), .int (iI arcs), .ref (bd 10), .ref (bd 11), .ref (bd 12), .ref (bd 13), .int (iI mns), .ref (bd 14), .ref (bd 15), .ref (bd 16), .int (iI kn), .ref (bd 17)])) → Mq (bd 14) = some (cJ (K 1) 2100 av) → Mq (bd 16) = some (cJ (K 1) 28 gl) → Mq (bd 15) = some (cJ (K 1) 14 gp) → zq_W D vwCl A s.heap Mq H locs → lv_has ls 5 [(0, .ref o), (1, .int (iI fnd)), (2, .int (iI lw)), (3, .int (iI sv)), (4, .int (iI e0))] → W p l e ({ frames := 2, cells := 0, slots := 0, locals := 52 } : Room) s m [.ref o].toArray below meth co H locs 0 0 (MQ below (zq_Q D vwCl (zT K) (P_MM_findDivisor K M o bd th put wr nn cir oN oC lbs fcs arcs mns kn av le po) A) [.ref o].toArray s 0 0 A) (F0 m 114 ls []) := by
              intro n
              induction n with
              | zero =>
                intro e0 gp Mq H locs ls he hgp hms hfr h_o h_av h_le h_po hw hl
                exact absurd hms (Nat.not_lt_zero _)
              | succ n ih_hL3 =>
                intro e0 gp Mq H locs ls he hgp hms hfr h_o h_av h_le h_po hw hl
                refine lv_iload_n hx hb d_MM_findDivisor_114 rfl (lv_at hl 2 rfl) ?_
                refine lv_iload hx hb d_MM_findDivisor_115 (lv_at hl 4 rfl) ?_
                refine zq_iadd hx hb d_MM_findDivisor_117 ?_
                refine lv_bipush (v := iI 14) hx hb d_MM_findDivisor_118 (by decide) ?_
                refine zq_icmp_ge (tgt := 153) hx hb d_MM_findDivisor_120 (by decide) ⟨by omega, by omega⟩ (by decide) (fun hc5 => ?_) (fun hc5 => ?_)
                · exact zq_vret hx hb hr hlocks hZ hw ⟨rfl, gl, gp, Or.inr ⟨fnd, lw, hfr0, hf1, hOlw, hlw14, sv, hsv2, fun z => by rw [hgp z, show e0 = 14 - lw by omega]⟩, h_le, h_po, hfr⟩ d_MM_findDivisor_153
                · refine lv_aload_n hx hb d_MM_findDivisor_123 rfl (lv_at hl 0 rfl) ?_
                  refine zq_get hx hb hts i_MM hown hK hw h_o rfl 26 (by decide) (hts _ tw_612) rfl d_MM_findDivisor_124 ?_
                  refine lv_iload hx hb d_MM_findDivisor_127 (lv_at hl 4 rfl) ?_
                  refine lv_iload_n hx hb d_MM_findDivisor_129 rfl (lv_at hl 3 rfl) ?_
                  refine zq_i2l hx hb ⟨by omega, by omega⟩ d_MM_findDivisor_130 ?_
                  refine lv_aload_n hx hb d_MM_findDivisor_131 rfl (lv_at hl 0 rfl) ?_
                  refine zq_get hx hb hts i_MM hown hK hw h_o rfl 25 (by decide) (hts _ tw_611) rfl d_MM_findDivisor_132 ?_
                  refine lv_bipush (v := iI 14) hx hb d_MM_findDivisor_135 (by decide) ?_
                  refine lv_iload_n hx hb d_MM_findDivisor_137 rfl (lv_at hl 1 rfl) ?_
                  refine zq_imul hx hb d_MM_findDivisor_138 ?_
                  refine lv_iload_n hx hb d_MM_findDivisor_139 rfl (lv_at hl 2 rfl) ?_
                  refine zq_iadd hx hb d_MM_findDivisor_140 ?_
                  refine lv_iload hx hb d_MM_findDivisor_141 (lv_at hl 4 rfl) ?_
                  refine zq_iadd hx hb d_MM_findDivisor_143 ?_
                  refine zq_lald hx hb hK hw 1 h_av rfl (by omega) (by omega) (by decide) d_MM_findDivisor_144 ?_
                  refine zq_lmul hx hb d_MM_findDivisor_145 ?_
                  refine zq_last hx hb hK hw 1 h_po rfl (by omega) (by omega) (by decide) d_MM_findDivisor_146 (fun M6 H locs hs ho hw => ?_)
                  have h_o : M6 o = some (.inr (9, [.int (iI th), .int (iI put), .int (iI wr), .ref (bd 0), .ref (bd 1), .int (iI nn), .int (iI cir), .int (iI oN), .int (iI oC), .ref (bd 2), .ref (bd 3), .ref (bd 4), .ref (bd 5), .int (iI lbs), .ref (bd 6), .ref (bd 7), .ref (bd 8), .int (iI fcs), .ref (bd 9), .int (iI arcs), .ref (bd 10), .ref (bd 11), .ref (bd 12), .ref (bd 13), .int (iI mns), .ref (bd 14), .ref (bd 15), .ref (bd 16), .int (iI kn), .ref (bd 17)])) := (ho _ (zq_ne h_o h_po (by simp))).trans h_o
                  have h_av : M6 (bd 14) = some (cJ (K 1) 2100 av) := (ho _ (zbd hbd 14 15)).trans h_av
                  have h_le : M6 (bd 16) = some (cJ (K 1) 28 gl) := (ho _ (Ne.symm (zbd hbd 15 16))).trans h_le
                  have h_po : M6 (bd 15) = some (cJ (K 1) 14 (zu gp e0 (sv * (av (((14 * fnd) + lw) + e0))))) := hs
                  have hfr : ∀ q, q ≠ (bd 16) → q ≠ (bd 15) → M6 q = M q := fun q g0 g1 => (ho q g1).trans (hfr q g0 g1)
                  refine lv_iinc (v := iI (e0 + 1)) (lv' := [(4, .int (iI (e0 + 1))), (0, .ref o), (1, .int (iI fnd)), (2, .int (iI lw)), (3, .int (iI sv))]) hx hb d_MM_findDivisor_147 hl (k := 4) rfl (iI_add _ _) (by decide) rfl (fun ls hl => ?_)
                  refine lv_goto (tgt := 114) hx hb d_MM_findDivisor_150 (by decide) ?_
                  exact ih_hL3 (e0 + 1) (zu gp e0 (sv * (av (((14 * fnd) + lw) + e0)))) M6 _ _ _ (by omega) (zcp_step hgp he.1) (by omega) hfr h_o h_av h_le h_po hw (lv_sub hl [1, 2, 3, 4, 0] rfl)
            refine lv_iconst (v := iI 0) hx hb d_MM_findDivisor_111 rfl ?_
            refine lv_istore (lv' := [(4, .int (iI 0)), (3, .int (iI sv)), (2, .int (iI lw)), (0, .ref o), (1, .int (iI fnd))]) hx hb d_MM_findDivisor_112 hl (by decide) rfl (fun ls hl => ?_)
            exact hL3 _ 0 po Mq _ _ _ ⟨by omega, by omega⟩ (fun z => (if_neg (by omega)).symm) (Nat.lt_succ_self _) hfr h_o h_av h_le h_po hw (lv_sub hl [3, 4, 2, 1, 0] rfl)
          · refine lv_iconst (v := iI (-1)) hx hb d_MM_findDivisor_105 rfl ?_
            refine lv_goto (tgt := 110) hx hb d_MM_findDivisor_106 (by decide) ?_
            refine lv_istore_n (lv' := [(3, .int (iI (-1))), (2, .int (iI lw)), (0, .ref o), (1, .int (iI fnd))]) hx hb d_MM_findDivisor_110 rfl hl (by decide) rfl (fun ls hl => ?_)
            obtain ⟨sv, hsv⟩ : ∃ z : Int, z = (-1) := ⟨_, rfl⟩
            rw [← hsv] at hl
            have hsv2 : (sv = 1 ∧ 0 < av (14 * fnd + lw)) ∨ (sv = -1 ∧ av (14 * fnd + lw) < 0) := by omega
            have hL3 : ∀ (n : Nat) (e0 : Int) (gp : Int → Int) (Mq : zq_M) (H : Heap) (locs : List Loc) (ls : Array Slot), (0 ≤ e0 ∧ lw + e0 ≤ 14) → (∀ z, gp z = if 0 ≤ z ∧ z < e0 then sv * av (14 * fnd + lw + z) else po z) → (14 - lw - e0).toNat < n → (∀ q, q ≠ (bd 16) → q ≠ (bd 15) → Mq q = M q) → Mq o = some (.inr (9, [.int (iI th), .int (iI put), .int (iI wr), .ref (bd 0), .ref (bd 1), .int (iI nn), .int (iI cir), .int (iI oN), .int (iI oC), .ref (bd 2), .ref (bd 3), .ref (bd 4), .ref (bd 5), .int (iI lbs), .ref (bd 6), .ref (bd 7), .ref (bd 8), .int (iI fcs), .ref (bd 9), .int (iI arcs), .ref (bd 10), .ref (bd 11), .ref (bd 12), .ref (bd 13), .int (iI mns), .ref (bd 14), .ref (bd 15), .ref (bd 16), .int (iI kn), .ref (bd 17)])) → Mq (bd 14) = some (cJ (K 1) 2100 av) → Mq (bd 16) = some (cJ (K 1) 28 gl) → Mq (bd 15) = some (cJ (K 1) 14 gp) → zq_W D vwCl A s.heap Mq H locs → lv_has ls 5 [(0, .ref o), (1, .int (iI fnd)), (2, .int (iI lw)), (3, .int (iI sv)), (4, .int (iI e0))] → W p l e ({ frames := 2, cells := 0, slots := 0, locals := 52 } : Room) s m [.ref o].toArray below meth co H locs 0 0 (MQ below (zq_Q D vwCl (zT K) (P_MM_findDivisor K M o bd th put wr nn cir oN oC lbs fcs arcs mns kn av le po) A) [.ref o].toArray s 0 0 A) (F0 m 114 ls []) := by
              intro n
              induction n with
              | zero =>
                intro e0 gp Mq H locs ls he hgp hms hfr h_o h_av h_le h_po hw hl
                exact absurd hms (Nat.not_lt_zero _)
              | succ n ih_hL3 =>
                intro e0 gp Mq H locs ls he hgp hms hfr h_o h_av h_le h_po hw hl
                refine lv_iload_n hx hb d_MM_findDivisor_114 rfl (lv_at hl 2 rfl) ?_
                refine lv_iload hx hb d_MM_findDivisor_115 (lv_at hl 4 rfl) ?_
                refine zq_iadd hx hb d_MM_findDivisor_117 ?_
                refine lv_bipush (v := iI 14) hx hb d_MM_findDivisor_118 (by decide) ?_
                refine zq_icmp_ge (tgt := 153) hx hb d_MM_findDivisor_120 (by decide) ⟨by omega, by omega⟩ (by decide) (fun hc7 => ?_) (fun hc7 => ?_)
                · exact zq_vret hx hb hr hlocks hZ hw ⟨rfl, gl, gp, Or.inr ⟨fnd, lw, hfr0, hf1, hOlw, hlw14, sv, hsv2, fun z => by rw [hgp z, show e0 = 14 - lw by omega]⟩, h_le, h_po, hfr⟩ d_MM_findDivisor_153
                · refine lv_aload_n hx hb d_MM_findDivisor_123 rfl (lv_at hl 0 rfl) ?_
                  refine zq_get hx hb hts i_MM hown hK hw h_o rfl 26 (by decide) (hts _ tw_612) rfl d_MM_findDivisor_124 ?_
                  refine lv_iload hx hb d_MM_findDivisor_127 (lv_at hl 4 rfl) ?_
                  refine lv_iload_n hx hb d_MM_findDivisor_129 rfl (lv_at hl 3 rfl) ?_
                  refine zq_i2l hx hb ⟨by omega, by omega⟩ d_MM_findDivisor_130 ?_
                  refine lv_aload_n hx hb d_MM_findDivisor_131 rfl (lv_at hl 0 rfl) ?_
                  refine zq_get hx hb hts i_MM hown hK hw h_o rfl 25 (by decide) (hts _ tw_611) rfl d_MM_findDivisor_132 ?_
                  refine lv_bipush (v := iI 14) hx hb d_MM_findDivisor_135 (by decide) ?_
                  refine lv_iload_n hx hb d_MM_findDivisor_137 rfl (lv_at hl 1 rfl) ?_
                  refine zq_imul hx hb d_MM_findDivisor_138 ?_
                  refine lv_iload_n hx hb d_MM_findDivisor_139 rfl (lv_at hl 2 rfl) ?_
                  refine zq_iadd hx hb d_MM_findDivisor_140 ?_
                  refine lv_iload hx hb d_MM_findDivisor_141 (lv_at hl 4 rfl) ?_
                  refine zq_iadd hx hb d_MM_findDivisor_143 ?_
                  refine zq_lald hx hb hK hw 1 h_av rfl (by omega) (by omega) (by decide) d_MM_findDivisor_144 ?_
                  refine zq_lmul hx hb d_MM_findDivisor_145 ?_
                  refine zq_last hx hb hK hw 1 h_po rfl (by omega) (by omega) (by decide) d_MM_findDivisor_146 (fun M8 H locs hs ho hw => ?_)
                  have h_o : M8 o = some (.inr (9, [.int (iI th), .int (iI put), .int (iI wr), .ref (bd 0), .ref (bd 1), .int (iI nn), .int (iI cir), .int (iI oN), .int (iI oC), .ref (bd 2), .ref (bd 3), .ref (bd 4), .ref (bd 5), .int (iI lbs), .ref (bd 6), .ref (bd 7), .ref (bd 8), .int (iI fcs), .ref (bd 9), .int (iI arcs), .ref (bd 10), .ref (bd 11), .ref (bd 12), .ref (bd 13), .int (iI mns), .ref (bd 14), .ref (bd 15), .ref (bd 16), .int (iI kn), .ref (bd 17)])) := (ho _ (zq_ne h_o h_po (by simp))).trans h_o
                  have h_av : M8 (bd 14) = some (cJ (K 1) 2100 av) := (ho _ (zbd hbd 14 15)).trans h_av
                  have h_le : M8 (bd 16) = some (cJ (K 1) 28 gl) := (ho _ (Ne.symm (zbd hbd 15 16))).trans h_le
                  have h_po : M8 (bd 15) = some (cJ (K 1) 14 (zu gp e0 (sv * (av (((14 * fnd) + lw) + e0))))) := hs
                  have hfr : ∀ q, q ≠ (bd 16) → q ≠ (bd 15) → M8 q = M q := fun q g0 g1 => (ho q g1).trans (hfr q g0 g1)
                  refine lv_iinc (v := iI (e0 + 1)) (lv' := [(4, .int (iI (e0 + 1))), (0, .ref o), (1, .int (iI fnd)), (2, .int (iI lw)), (3, .int (iI sv))]) hx hb d_MM_findDivisor_147 hl (k := 4) rfl (iI_add _ _) (by decide) rfl (fun ls hl => ?_)
                  refine lv_goto (tgt := 114) hx hb d_MM_findDivisor_150 (by decide) ?_
                  exact ih_hL3 (e0 + 1) (zu gp e0 (sv * (av (((14 * fnd) + lw) + e0)))) M8 _ _ _ (by omega) (zcp_step hgp he.1) (by omega) hfr h_o h_av h_le h_po hw (lv_sub hl [1, 2, 3, 4, 0] rfl)
            refine lv_iconst (v := iI 0) hx hb d_MM_findDivisor_111 rfl ?_
            refine lv_istore (lv' := [(4, .int (iI 0)), (3, .int (iI sv)), (2, .int (iI lw)), (0, .ref o), (1, .int (iI fnd))]) hx hb d_MM_findDivisor_112 hl (by decide) rfl (fun ls hl => ?_)
            exact hL3 _ 0 po Mq _ _ _ ⟨by omega, by omega⟩ (fun z => (if_neg (by omega)).symm) (Nat.lt_succ_self _) hfr h_o h_av h_le h_po hw (lv_sub hl [3, 4, 2, 1, 0] rfl)
        · exact zq_vret hx hb hr hlocks hZ hw ⟨rfl, gl, po, Or.inl ⟨rfl, fun j h1 h2 => (hf.resolve_right (fun q => by omega)).2 j h1 (by omega)⟩, h_le, h_po, hfr⟩ d_MM_findDivisor_82
      · refine lv_iload_n hx hb d_MM_findDivisor_12 rfl (lv_at hl 1 rfl) ?_
        refine zq_if_ge (tgt := 78) hx hb d_MM_findDivisor_13 (by decide) (by rcases hf with q | q <;> exact ⟨by omega, by omega⟩) (fun hc9 => ?_) (fun hc9 => ?_)
        · refine lv_iload_n hx hb d_MM_findDivisor_78 rfl (lv_at hl 1 rfl) ?_
          refine zq_if_ge (tgt := 83) hx hb d_MM_findDivisor_79 (by decide) (by rcases hf with q | q <;> exact ⟨by omega, by omega⟩) (fun hc10 => ?_) (fun hc10 => ?_)
          · obtain ⟨hfr0, hf1, rx, hrx1, hrx2⟩ := hf.resolve_left (fun q => by omega)
            refine lv_aload_n hx hb d_MM_findDivisor_83 rfl (lv_at hl 0 rfl) ?_
            refine lv_iload_n hx hb d_MM_findDivisor_84 rfl (lv_at hl 1 rfl) ?_
            refine zq_callV (As := [.int (iI fnd)]) (rest := []) ⟨hx, hb, hml, hown, hts⟩ (c_MM_lowest l D K Mq o bd th put wr nn cir oN oC lbs fcs arcs mns kn av  fnd h_o hbd h_av ⟨by omega, by omega⟩ (hav fnd hfr0.1 hfr0.2)) (cwV 1 hts (zg_V tw_793 tw_795 ts_49 tw_10 tw_796) rfl rfl rfl (by decide +kernel) ⟨Nat.le_of_ble_eq_true rfl, Nat.le_of_ble_eq_true rfl⟩) hZ hw hA h_o rfl rfl rfl rfl hl.1 (Nat.le_of_ble_eq_true rfl) d_MM_findDivisor_85 ⟨Nat.le_of_ble_eq_true rfl, Nat.le_of_ble_eq_true rfl⟩ (fun v M11 H locs hp hw => ?_)
            obtain ⟨lw, rfl, hOlw, hMe⟩ := hp
            rw [hMe] at hw
            refine W.eq (g2 := F0 m 88 ls [.int (iI lw)]) rfl ?_
            have hBlw := hOlw.1
            refine lv_istore_n (lv' := [(2, .int (iI lw)), (0, .ref o), (1, .int (iI fnd))]) hx hb d_MM_findDivisor_88 rfl hl (by decide) rfl (fun ls hl => ?_)
            have hlw14 : lw < 14 := by rw [zLo_un hOlw hrx1]; exact hrx2
            have hnz := hOlw.2.2 hlw14
            have hbr := hav fnd hfr0.1 hfr0.2 lw hOlw.1.1 hlw14
            refine lv_aload_n hx hb d_MM_findDivisor_89 rfl (lv_at hl 1 rfl) ?_
            refine zq_get hx hb hts i_MM hown hK hw h_o rfl 25 (by decide) (hts _ tw_611) rfl d_MM_findDivisor_90 ?_
            refine lv_bipush (v := iI 14) hx hb d_MM_findDivisor_93 (by decide) ?_
            refine lv_iload_n hx hb d_MM_findDivisor_95 rfl (lv_at hl 2 rfl) ?_
            refine zq_imul hx hb d_MM_findDivisor_96 ?_
            refine lv_iload_n hx hb d_MM_findDivisor_97 rfl (lv_at hl 0 rfl) ?_
            refine zq_iadd hx hb d_MM_findDivisor_98 ?_
            refine zq_lald hx hb hK hw 1 h_av rfl (by omega) (by omega) (by decide) d_MM_findDivisor_99 ?_
            refine lv_lconst (v := iL 0) hx hb d_MM_findDivisor_100 (by decide) ?_
            refine zq_lcmp_ge (tgt := 109) hx hb d_MM_findDivisor_101 d_MM_findDivisor_102 (by decide) ⟨by omega, by omega⟩ (by decide) (fun hc12 => ?_) (fun hc12 => ?_)
            · refine lv_iconst (v := iI 1) hx hb d_MM_findDivisor_109 rfl ?_
              refine lv_istore_n (lv' := [(3, .int (iI 1)), (2, .int (iI lw)), (0, .ref o), (1, .int (iI fnd))]) hx hb d_MM_findDivisor_110 rfl hl (by decide) rfl (fun ls hl => ?_)
              obtain ⟨sv, hsv⟩ : ∃ z : Int, z = 1 := ⟨_, rfl⟩
              rw [← hsv] at hl
              have hsv2 : (sv = 1 ∧ 0 < av (14 * fnd + lw)) ∨ (sv = -1 ∧ av (14 * fnd + lw) < 0) := by omega
              have hL3 : ∀ (n : Nat) (e0 : Int) (gp : Int → Int) (Mq : zq_M) (H : Heap) (locs : List Loc) (ls : Array Slot), (0 ≤ e0 ∧ lw + e0 ≤ 14) → (∀ z, gp z = if 0 ≤ z ∧ z < e0 then sv * av (14 * fnd + lw + z) else po z) → (14 - lw - e0).toNat < n → (∀ q, q ≠ (bd 16) → q ≠ (bd 15) → Mq q = M q) → Mq o = some (.inr (9, [.int (iI th), .int (iI put), .int (iI wr), .ref (bd 0), .ref (bd 1), .int (iI nn), .int (iI cir), .int (iI oN), .int (iI oC), .ref (bd 2), .ref (bd 3), .ref (bd 4), .ref (bd 5), .int (iI lbs), .ref (bd 6), .ref (bd 7), .ref (bd 8), .int (iI fcs), .ref (bd 9), .int (iI arcs), .ref (bd 10), .ref (bd 11), .ref (bd 12), .ref (bd 13), .int (iI mns), .ref (bd 14), .ref (bd 15), .ref (bd 16), .int (iI kn), .ref (bd 17)])) → Mq (bd 14) = some (cJ (K 1) 2100 av) → Mq (bd 16) = some (cJ (K 1) 28 gl) → Mq (bd 15) = some (cJ (K 1) 14 gp) → zq_W D vwCl A s.heap Mq H locs → lv_has ls 5 [(0, .ref o), (1, .int (iI fnd)), (2, .int (iI lw)), (3, .int (iI sv)), (4, .int (iI e0))] → W p l e ({ frames := 2, cells := 0, slots := 0, locals := 52 } : Room) s m [.ref o].toArray below meth co H locs 0 0 (MQ below (zq_Q D vwCl (zT K) (P_MM_findDivisor K M o bd th put wr nn cir oN oC lbs fcs arcs mns kn av le po) A) [.ref o].toArray s 0 0 A) (F0 m 114 ls []) := by
                intro n
                induction n with
                | zero =>
                  intro e0 gp Mq H locs ls he hgp hms hfr h_o h_av h_le h_po hw hl
                  exact absurd hms (Nat.not_lt_zero _)
                | succ n ih_hL3 =>
                  intro e0 gp Mq H locs ls he hgp hms hfr h_o h_av h_le h_po hw hl
                  refine lv_iload_n hx hb d_MM_findDivisor_114 rfl (lv_at hl 2 rfl) ?_
                  refine lv_iload hx hb d_MM_findDivisor_115 (lv_at hl 4 rfl) ?_
                  refine zq_iadd hx hb d_MM_findDivisor_117 ?_
                  refine lv_bipush (v := iI 14) hx hb d_MM_findDivisor_118 (by decide) ?_
                  refine zq_icmp_ge (tgt := 153) hx hb d_MM_findDivisor_120 (by decide) ⟨by omega, by omega⟩ (by decide) (fun hc13 => ?_) (fun hc13 => ?_)
                  · exact zq_vret hx hb hr hlocks hZ hw ⟨rfl, gl, gp, Or.inr ⟨fnd, lw, hfr0, hf1, hOlw, hlw14, sv, hsv2, fun z => by rw [hgp z, show e0 = 14 - lw by omega]⟩, h_le, h_po, hfr⟩ d_MM_findDivisor_153
                  · refine lv_aload_n hx hb d_MM_findDivisor_123 rfl (lv_at hl 0 rfl) ?_
                    refine zq_get hx hb hts i_MM hown hK hw h_o rfl 26 (by decide) (hts _ tw_612) rfl d_MM_findDivisor_124 ?_
                    refine lv_iload hx hb d_MM_findDivisor_127 (lv_at hl 4 rfl) ?_
                    refine lv_iload_n hx hb d_MM_findDivisor_129 rfl (lv_at hl 3 rfl) ?_
                    refine zq_i2l hx hb ⟨by omega, by omega⟩ d_MM_findDivisor_130 ?_
                    refine lv_aload_n hx hb d_MM_findDivisor_131 rfl (lv_at hl 0 rfl) ?_
                    refine zq_get hx hb hts i_MM hown hK hw h_o rfl 25 (by decide) (hts _ tw_611) rfl d_MM_findDivisor_132 ?_
                    refine lv_bipush (v := iI 14) hx hb d_MM_findDivisor_135 (by decide) ?_
                    refine lv_iload_n hx hb d_MM_findDivisor_137 rfl (lv_at hl 1 rfl) ?_
                    refine zq_imul hx hb d_MM_findDivisor_138 ?_
                    refine lv_iload_n hx hb d_MM_findDivisor_139 rfl (lv_at hl 2 rfl) ?_
                    refine zq_iadd hx hb d_MM_findDivisor_140 ?_
                    refine lv_iload hx hb d_MM_findDivisor_141 (lv_at hl 4 rfl) ?_
                    refine zq_iadd hx hb d_MM_findDivisor_143 ?_
                    refine zq_lald hx hb hK hw 1 h_av rfl (by omega) (by omega) (by decide) d_MM_findDivisor_144 ?_
                    refine zq_lmul hx hb d_MM_findDivisor_145 ?_
                    refine zq_last hx hb hK hw 1 h_po rfl (by omega) (by omega) (by decide) d_MM_findDivisor_146 (fun M14 H locs hs ho hw => ?_)
                    have h_o : M14 o = some (.inr (9, [.int (iI th), .int (iI put), .int (iI wr), .ref (bd 0), .ref (bd 1), .int (iI nn), .int (iI cir), .int (iI oN), .int (iI oC), .ref (bd 2), .ref (bd 3), .ref (bd 4), .ref (bd 5), .int (iI lbs), .ref (bd 6), .ref (bd 7), .ref (bd 8), .int (iI fcs), .ref (bd 9), .int (iI arcs), .ref (bd 10), .ref (bd 11), .ref (bd 12), .ref (bd 13), .int (iI mns), .ref (bd 14), .ref (bd 15), .ref (bd 16), .int (iI kn), .ref (bd 17)])) := (ho _ (zq_ne h_o h_po (by simp))).trans h_o
                    have h_av : M14 (bd 14) = some (cJ (K 1) 2100 av) := (ho _ (zbd hbd 14 15)).trans h_av
                    have h_le : M14 (bd 16) = some (cJ (K 1) 28 gl) := (ho _ (Ne.symm (zbd hbd 15 16))).trans h_le
                    have h_po : M14 (bd 15) = some (cJ (K 1) 14 (zu gp e0 (sv * (av (((14 * fnd) + lw) + e0))))) := hs
                    have hfr : ∀ q, q ≠ (bd 16) → q ≠ (bd 15) → M14 q = M q := fun q g0 g1 => (ho q g1).trans (hfr q g0 g1)
                    refine lv_iinc (v := iI (e0 + 1)) (lv' := [(4, .int (iI (e0 + 1))), (0, .ref o), (1, .int (iI fnd)), (2, .int (iI lw)), (3, .int (iI sv))]) hx hb d_MM_findDivisor_147 hl (k := 4) rfl (iI_add _ _) (by decide) rfl (fun ls hl => ?_)
                    refine lv_goto (tgt := 114) hx hb d_MM_findDivisor_150 (by decide) ?_
                    exact ih_hL3 (e0 + 1) (zu gp e0 (sv * (av (((14 * fnd) + lw) + e0)))) M14 _ _ _ (by omega) (zcp_step hgp he.1) (by omega) hfr h_o h_av h_le h_po hw (lv_sub hl [1, 2, 3, 4, 0] rfl)
              refine lv_iconst (v := iI 0) hx hb d_MM_findDivisor_111 rfl ?_
              refine lv_istore (lv' := [(4, .int (iI 0)), (3, .int (iI sv)), (2, .int (iI lw)), (0, .ref o), (1, .int (iI fnd))]) hx hb d_MM_findDivisor_112 hl (by decide) rfl (fun ls hl => ?_)
              exact hL3 _ 0 po Mq _ _ _ ⟨by omega, by omega⟩ (fun z => (if_neg (by omega)).symm) (Nat.lt_succ_self _) hfr h_o h_av h_le h_po hw (lv_sub hl [3, 4, 2, 1, 0] rfl)
            · refine lv_iconst (v := iI (-1)) hx hb d_MM_findDivisor_105 rfl ?_
              refine lv_goto (tgt := 110) hx hb d_MM_findDivisor_106 (by decide) ?_
              refine lv_istore_n (lv' := [(3, .int (iI (-1))), (2, .int (iI lw)), (0, .ref o), (1, .int (iI fnd))]) hx hb d_MM_findDivisor_110 rfl hl (by decide) rfl (fun ls hl => ?_)
              obtain ⟨sv, hsv⟩ : ∃ z : Int, z = (-1) := ⟨_, rfl⟩
              rw [← hsv] at hl
              have hsv2 : (sv = 1 ∧ 0 < av (14 * fnd + lw)) ∨ (sv = -1 ∧ av (14 * fnd + lw) < 0) := by omega
              have hL3 : ∀ (n : Nat) (e0 : Int) (gp : Int → Int) (Mq : zq_M) (H : Heap) (locs : List Loc) (ls : Array Slot), (0 ≤ e0 ∧ lw + e0 ≤ 14) → (∀ z, gp z = if 0 ≤ z ∧ z < e0 then sv * av (14 * fnd + lw + z) else po z) → (14 - lw - e0).toNat < n → (∀ q, q ≠ (bd 16) → q ≠ (bd 15) → Mq q = M q) → Mq o = some (.inr (9, [.int (iI th), .int (iI put), .int (iI wr), .ref (bd 0), .ref (bd 1), .int (iI nn), .int (iI cir), .int (iI oN), .int (iI oC), .ref (bd 2), .ref (bd 3), .ref (bd 4), .ref (bd 5), .int (iI lbs), .ref (bd 6), .ref (bd 7), .ref (bd 8), .int (iI fcs), .ref (bd 9), .int (iI arcs), .ref (bd 10), .ref (bd 11), .ref (bd 12), .ref (bd 13), .int (iI mns), .ref (bd 14), .ref (bd 15), .ref (bd 16), .int (iI kn), .ref (bd 17)])) → Mq (bd 14) = some (cJ (K 1) 2100 av) → Mq (bd 16) = some (cJ (K 1) 28 gl) → Mq (bd 15) = some (cJ (K 1) 14 gp) → zq_W D vwCl A s.heap Mq H locs → lv_has ls 5 [(0, .ref o), (1, .int (iI fnd)), (2, .int (iI lw)), (3, .int (iI sv)), (4, .int (iI e0))] → W p l e ({ frames := 2, cells := 0, slots := 0, locals := 52 } : Room) s m [.ref o].toArray below meth co H locs 0 0 (MQ below (zq_Q D vwCl (zT K) (P_MM_findDivisor K M o bd th put wr nn cir oN oC lbs fcs arcs mns kn av le po) A) [.ref o].toArray s 0 0 A) (F0 m 114 ls []) := by
                intro n
                induction n with
                | zero =>
                  intro e0 gp Mq H locs ls he hgp hms hfr h_o h_av h_le h_po hw hl
                  exact absurd hms (Nat.not_lt_zero _)
                | succ n ih_hL3 =>
                  intro e0 gp Mq H locs ls he hgp hms hfr h_o h_av h_le h_po hw hl
                  refine lv_iload_n hx hb d_MM_findDivisor_114 rfl (lv_at hl 2 rfl) ?_
                  refine lv_iload hx hb d_MM_findDivisor_115 (lv_at hl 4 rfl) ?_
                  refine zq_iadd hx hb d_MM_findDivisor_117 ?_
                  refine lv_bipush (v := iI 14) hx hb d_MM_findDivisor_118 (by decide) ?_
                  refine zq_icmp_ge (tgt := 153) hx hb d_MM_findDivisor_120 (by decide) ⟨by omega, by omega⟩ (by decide) (fun hc15 => ?_) (fun hc15 => ?_)
                  · exact zq_vret hx hb hr hlocks hZ hw ⟨rfl, gl, gp, Or.inr ⟨fnd, lw, hfr0, hf1, hOlw, hlw14, sv, hsv2, fun z => by rw [hgp z, show e0 = 14 - lw by omega]⟩, h_le, h_po, hfr⟩ d_MM_findDivisor_153
                  · refine lv_aload_n hx hb d_MM_findDivisor_123 rfl (lv_at hl 0 rfl) ?_
                    refine zq_get hx hb hts i_MM hown hK hw h_o rfl 26 (by decide) (hts _ tw_612) rfl d_MM_findDivisor_124 ?_
                    refine lv_iload hx hb d_MM_findDivisor_127 (lv_at hl 4 rfl) ?_
                    refine lv_iload_n hx hb d_MM_findDivisor_129 rfl (lv_at hl 3 rfl) ?_
                    refine zq_i2l hx hb ⟨by omega, by omega⟩ d_MM_findDivisor_130 ?_
                    refine lv_aload_n hx hb d_MM_findDivisor_131 rfl (lv_at hl 0 rfl) ?_
                    refine zq_get hx hb hts i_MM hown hK hw h_o rfl 25 (by decide) (hts _ tw_611) rfl d_MM_findDivisor_132 ?_
                    refine lv_bipush (v := iI 14) hx hb d_MM_findDivisor_135 (by decide) ?_
                    refine lv_iload_n hx hb d_MM_findDivisor_137 rfl (lv_at hl 1 rfl) ?_
                    refine zq_imul hx hb d_MM_findDivisor_138 ?_
                    refine lv_iload_n hx hb d_MM_findDivisor_139 rfl (lv_at hl 2 rfl) ?_
                    refine zq_iadd hx hb d_MM_findDivisor_140 ?_
                    refine lv_iload hx hb d_MM_findDivisor_141 (lv_at hl 4 rfl) ?_
                    refine zq_iadd hx hb d_MM_findDivisor_143 ?_
                    refine zq_lald hx hb hK hw 1 h_av rfl (by omega) (by omega) (by decide) d_MM_findDivisor_144 ?_
                    refine zq_lmul hx hb d_MM_findDivisor_145 ?_
                    refine zq_last hx hb hK hw 1 h_po rfl (by omega) (by omega) (by decide) d_MM_findDivisor_146 (fun M16 H locs hs ho hw => ?_)
                    have h_o : M16 o = some (.inr (9, [.int (iI th), .int (iI put), .int (iI wr), .ref (bd 0), .ref (bd 1), .int (iI nn), .int (iI cir), .int (iI oN), .int (iI oC), .ref (bd 2), .ref (bd 3), .ref (bd 4), .ref (bd 5), .int (iI lbs), .ref (bd 6), .ref (bd 7), .ref (bd 8), .int (iI fcs), .ref (bd 9), .int (iI arcs), .ref (bd 10), .ref (bd 11), .ref (bd 12), .ref (bd 13), .int (iI mns), .ref (bd 14), .ref (bd 15), .ref (bd 16), .int (iI kn), .ref (bd 17)])) := (ho _ (zq_ne h_o h_po (by simp))).trans h_o
                    have h_av : M16 (bd 14) = some (cJ (K 1) 2100 av) := (ho _ (zbd hbd 14 15)).trans h_av
                    have h_le : M16 (bd 16) = some (cJ (K 1) 28 gl) := (ho _ (Ne.symm (zbd hbd 15 16))).trans h_le
                    have h_po : M16 (bd 15) = some (cJ (K 1) 14 (zu gp e0 (sv * (av (((14 * fnd) + lw) + e0))))) := hs
                    have hfr : ∀ q, q ≠ (bd 16) → q ≠ (bd 15) → M16 q = M q := fun q g0 g1 => (ho q g1).trans (hfr q g0 g1)
                    refine lv_iinc (v := iI (e0 + 1)) (lv' := [(4, .int (iI (e0 + 1))), (0, .ref o), (1, .int (iI fnd)), (2, .int (iI lw)), (3, .int (iI sv))]) hx hb d_MM_findDivisor_147 hl (k := 4) rfl (iI_add _ _) (by decide) rfl (fun ls hl => ?_)
                    refine lv_goto (tgt := 114) hx hb d_MM_findDivisor_150 (by decide) ?_
                    exact ih_hL3 (e0 + 1) (zu gp e0 (sv * (av (((14 * fnd) + lw) + e0)))) M16 _ _ _ (by omega) (zcp_step hgp he.1) (by omega) hfr h_o h_av h_le h_po hw (lv_sub hl [1, 2, 3, 4, 0] rfl)
              refine lv_iconst (v := iI 0) hx hb d_MM_findDivisor_111 rfl ?_
              refine lv_istore (lv' := [(4, .int (iI 0)), (3, .int (iI sv)), (2, .int (iI lw)), (0, .ref o), (1, .int (iI fnd))]) hx hb d_MM_findDivisor_112 hl (by decide) rfl (fun ls hl => ?_)
              exact hL3 _ 0 po Mq _ _ _ ⟨by omega, by omega⟩ (fun z => (if_neg (by omega)).symm) (Nat.lt_succ_self _) hfr h_o h_av h_le h_po hw (lv_sub hl [3, 4, 2, 1, 0] rfl)
          · exact zq_vret hx hb hr hlocks hZ hw ⟨rfl, gl, po, Or.inl ⟨rfl, fun j h1 h2 => (hf.resolve_right (fun q => by omega)).2 j h1 (by omega)⟩, h_le, h_po, hfr⟩ d_MM_findDivisor_82
        · have hf1 : ∀ j, 0 ≤ j → j < mi → zLo av j 14 := (hf.resolve_right (fun q => by omega)).2
          refine lv_aload_n hx hb d_MM_findDivisor_16 rfl (lv_at hl 0 rfl) ?_
          refine lv_iload_n hx hb d_MM_findDivisor_17 rfl (lv_at hl 2 rfl) ?_
          refine zq_callV (As := [.int (iI mi)]) (rest := []) ⟨hx, hb, hml, hown, hts⟩ (c_MM_lowest l D K Mq o bd th put wr nn cir oN oC lbs fcs arcs mns kn av  mi h_o hbd h_av ⟨by omega, by omega⟩ (hav mi (by omega) (by omega))) (cwV 1 hts (zg_V tw_793 tw_795 ts_49 tw_10 tw_796) rfl rfl rfl (by decide +kernel) ⟨Nat.le_of_ble_eq_true rfl, Nat.le_of_ble_eq_true rfl⟩) hZ hw hA h_o rfl rfl rfl rfl hl.1 (Nat.le_of_ble_eq_true rfl) d_MM_findDivisor_18 ⟨Nat.le_of_ble_eq_true rfl, Nat.le_of_ble_eq_true rfl⟩ (fun v M17 H locs hp hw => ?_)
          obtain ⟨rl, rfl, hOrl, hMe⟩ := hp
          rw [hMe] at hw
          refine W.eq (g2 := F0 m 21 ls [.int (iI rl)]) rfl ?_
          have hBrl := hOrl.1
          refine lv_bipush (v := iI 14) hx hb d_MM_findDivisor_21 (by decide) ?_
          refine zq_icmp_ge (tgt := 30) hx hb d_MM_findDivisor_23 (by decide) ⟨by omega, by omega⟩ (by decide) (fun hc18 => ?_) (fun hc18 => ?_)
          · refine lv_iconst (v := iI 0) hx hb d_MM_findDivisor_30 rfl ?_
            refine lv_istore_n (lv' := [(3, .int (iI 0)), (0, .ref o), (1, .int (iI fnd)), (2, .int (iI mi))]) hx hb d_MM_findDivisor_31 rfl hl (by decide) rfl (fun ls hl => ?_)
            have hL2 : ∀ (n : Nat) (k : Int) (iz : Int) (gl : Int → Int) (Mq : zq_M) (H : Heap) (locs : List Loc) (ls : Array Slot), (0 ≤ k ∧ k ≤ mns) → ((iz = 1 ∧ rl < 14) ∨ (iz = 0 ∧ rl = 14)) → (mns - k).toNat < n → (∀ q, q ≠ (bd 16) → q ≠ (bd 15) → Mq q = M q) → Mq o = some (.inr (9, [.int (iI th), .int (iI put), .int (iI wr), .ref (bd 0), .ref (bd 1), .int (iI nn), .int (iI cir), .int (iI oN), .int (iI oC), .ref (bd 2), .ref (bd 3), .ref (bd 4), .ref (bd 5), .int (iI lbs), .ref (bd 6), .ref (bd 7), .ref (bd 8), .int (iI fcs), .ref (bd 9), .int (iI arcs), .ref (bd 10), .ref (bd 11), .ref (bd 12), .ref (bd 13), .int (iI mns), .ref (bd 14), .ref (bd 15), .ref (bd 16), .int (iI kn), .ref (bd 17)])) → Mq (bd 14) = some (cJ (K 1) 2100 av) → Mq (bd 16) = some (cJ (K 1) 28 gl) → Mq (bd 15) = some (cJ (K 1) 14 po) → zq_W D vwCl A s.heap Mq H locs → lv_has ls 5 [(0, .ref o), (1, .int (iI fnd)), (2, .int (iI mi)), (3, .int (iI iz)), (4, .int (iI k))] → W p l e ({ frames := 2, cells := 0, slots := 0, locals := 52 } : Room) s m [.ref o].toArray below meth co H locs 0 0 (MQ below (zq_Q D vwCl (zT K) (P_MM_findDivisor K M o bd th put wr nn cir oN oC lbs fcs arcs mns kn av le po) A) [.ref o].toArray s 0 0 A) (F0 m 35 ls []) := by
              intro n
              induction n with
              | zero =>
                intro k iz gl Mq H locs ls hk hiz hms hfr h_o h_av h_le h_po hw hl
                exact absurd hms (Nat.not_lt_zero _)
              | succ n ih_hL2 =>
                intro k iz gl Mq H locs ls hk hiz hms hfr h_o h_av h_le h_po hw hl
                refine lv_iload hx hb d_MM_findDivisor_35 (lv_at hl 4 rfl) ?_
                refine lv_aload_n hx hb d_MM_findDivisor_37 rfl (lv_at hl 0 rfl) ?_
                refine zq_get hx hb hts i_MM hown hK hw h_o rfl 24 (by decide) (hts _ tw_610) rfl d_MM_findDivisor_38 ?_
                refine zq_icmp_ge (tgt := 62) hx hb d_MM_findDivisor_41 (by decide) ⟨by omega, by omega⟩ ⟨by omega, by omega⟩ (fun hc19 => ?_) (fun hc19 => ?_)
                · refine lv_iload_n hx hb d_MM_findDivisor_62 rfl (lv_at hl 3 rfl) ?_
                  refine zq_if_eq (tgt := 70) hx hb d_MM_findDivisor_63 (by decide) ⟨by omega, by omega⟩ (fun hc20 => ?_) (fun hc20 => ?_)
                  · refine lv_iconst (v := iI (-1)) hx hb d_MM_findDivisor_70 rfl ?_
                    refine lv_istore_n (lv' := [(1, .int (iI (-1))), (0, .ref o), (2, .int (iI mi)), (3, .int (iI iz)), (4, .int (iI k))]) hx hb d_MM_findDivisor_71 rfl hl (by decide) rfl (fun ls hl => ?_)
                    refine lv_iinc (v := iI (mi + 1)) (lv' := [(2, .int (iI (mi + 1))), (1, .int (iI (-1))), (0, .ref o), (3, .int (iI iz)), (4, .int (iI k))]) hx hb d_MM_findDivisor_72 hl (k := 2) rfl (iI_add _ _) (by decide) rfl (fun ls hl => ?_)
                    refine lv_goto (tgt := 4) hx hb d_MM_findDivisor_75 (by decide) ?_
                    exact ih_hL1 (mi + 1) (-1) gl Mq _ _ _ (by omega) (Or.inl ⟨rfl, fun j h1 h2 => by by_cases q : j = mi; rw [q, show (14 : Int) = rl by omega]; exact hOrl; exact hf1 j h1 (by omega)⟩) (by omega) hfr h_o h_av h_le h_po hw (lv_sub hl [2, 1, 0] rfl)
                  · refine lv_iload_n hx hb d_MM_findDivisor_66 rfl (lv_at hl 2 rfl) ?_
                    refine lv_goto (tgt := 71) hx hb d_MM_findDivisor_67 (by decide) ?_
                    refine lv_istore_n (lv' := [(1, .int (iI mi)), (0, .ref o), (2, .int (iI mi)), (3, .int (iI iz)), (4, .int (iI k))]) hx hb d_MM_findDivisor_71 rfl hl (by decide) rfl (fun ls hl => ?_)
                    refine lv_iinc (v := iI (mi + 1)) (lv' := [(2, .int (iI (mi + 1))), (1, .int (iI mi)), (0, .ref o), (3, .int (iI iz)), (4, .int (iI k))]) hx hb d_MM_findDivisor_72 hl (k := 2) rfl (iI_add _ _) (by decide) rfl (fun ls hl => ?_)
                    refine lv_goto (tgt := 4) hx hb d_MM_findDivisor_75 (by decide) ?_
                    exact ih_hL1 (mi + 1) mi gl Mq _ _ _ (by omega) (Or.inr ⟨⟨by omega, by omega⟩, hf1, rl, hOrl, by omega⟩) (by omega) hfr h_o h_av h_le h_po hw (lv_sub hl [2, 1, 0] rfl)
                · refine lv_iload_n hx hb d_MM_findDivisor_44 rfl (lv_at hl 3 rfl) ?_
                  refine zq_if_eq (tgt := 62) hx hb d_MM_findDivisor_45 (by decide) ⟨by omega, by omega⟩ (fun hc21 => ?_) (fun hc21 => ?_)
                  · refine lv_iload_n hx hb d_MM_findDivisor_62 rfl (lv_at hl 3 rfl) ?_
                    refine zq_if_eq (tgt := 70) hx hb d_MM_findDivisor_63 (by decide) ⟨by omega, by omega⟩ (fun hc22 => ?_) (fun hc22 => ?_)
                    · refine lv_iconst (v := iI (-1)) hx hb d_MM_findDivisor_70 rfl ?_
                      refine lv_istore_n (lv' := [(1, .int (iI (-1))), (0, .ref o), (2, .int (iI mi)), (3, .int (iI iz)), (4, .int (iI k))]) hx hb d_MM_findDivisor_71 rfl hl (by decide) rfl (fun ls hl => ?_)
                      refine lv_iinc (v := iI (mi + 1)) (lv' := [(2, .int (iI (mi + 1))), (1, .int (iI (-1))), (0, .ref o), (3, .int (iI iz)), (4, .int (iI k))]) hx hb d_MM_findDivisor_72 hl (k := 2) rfl (iI_add _ _) (by decide) rfl (fun ls hl => ?_)
                      refine lv_goto (tgt := 4) hx hb d_MM_findDivisor_75 (by decide) ?_
                      exact ih_hL1 (mi + 1) (-1) gl Mq _ _ _ (by omega) (Or.inl ⟨rfl, fun j h1 h2 => by by_cases q : j = mi; rw [q, show (14 : Int) = rl by omega]; exact hOrl; exact hf1 j h1 (by omega)⟩) (by omega) hfr h_o h_av h_le h_po hw (lv_sub hl [2, 1, 0] rfl)
                    · refine lv_iload_n hx hb d_MM_findDivisor_66 rfl (lv_at hl 2 rfl) ?_
                      refine lv_goto (tgt := 71) hx hb d_MM_findDivisor_67 (by decide) ?_
                      refine lv_istore_n (lv' := [(1, .int (iI mi)), (0, .ref o), (2, .int (iI mi)), (3, .int (iI iz)), (4, .int (iI k))]) hx hb d_MM_findDivisor_71 rfl hl (by decide) rfl (fun ls hl => ?_)
                      refine lv_iinc (v := iI (mi + 1)) (lv' := [(2, .int (iI (mi + 1))), (1, .int (iI mi)), (0, .ref o), (3, .int (iI iz)), (4, .int (iI k))]) hx hb d_MM_findDivisor_72 hl (k := 2) rfl (iI_add _ _) (by decide) rfl (fun ls hl => ?_)
                      refine lv_goto (tgt := 4) hx hb d_MM_findDivisor_75 (by decide) ?_
                      exact ih_hL1 (mi + 1) mi gl Mq _ _ _ (by omega) (Or.inr ⟨⟨by omega, by omega⟩, hf1, rl, hOrl, by omega⟩) (by omega) hfr h_o h_av h_le h_po hw (lv_sub hl [2, 1, 0] rfl)
                  · refine lv_aload_n hx hb d_MM_findDivisor_48 rfl (lv_at hl 0 rfl) ?_
                    refine lv_iload_n hx hb d_MM_findDivisor_49 rfl (lv_at hl 2 rfl) ?_
                    refine lv_iload hx hb d_MM_findDivisor_50 (lv_at hl 4 rfl) ?_
                    refine zq_callV (As := [.int (iI mi), .int (iI k)]) (rest := []) ⟨hx, hb, hml, hown, hts⟩ (c_MM_divides l D K Mq o bd th put wr nn cir oN oC lbs fcs arcs mns kn av gl  mi k h_o hbd h_av h_le ⟨by omega, by omega⟩ ⟨by omega, by omega⟩ (hav mi (by omega) (by omega)) (hav k (by omega) (by omega)) (fun r9 h9 => by rw [zLo_un h9 hOrl]; omega) (fun lo fm h8 h9 => hq mi k lo fm (by omega) (by omega) (by omega) (by omega) h8 (by rw [zLo_un h8 hOrl]; omega) h9)) (cwV 2 hts (zg_V tw_797 tw_799 ts_50 tw_10 tw_800) rfl rfl rfl (by decide +kernel) ⟨Nat.le_of_ble_eq_true rfl, Nat.le_of_ble_eq_true rfl⟩) hZ hw hA h_o rfl rfl rfl rfl hl.1 (Nat.le_of_ble_eq_true rfl) d_MM_findDivisor_52 ⟨Nat.le_of_ble_eq_true rfl, Nat.le_of_ble_eq_true rfl⟩ (fun v M23 H locs hp hw => ?_)
                    obtain ⟨rfl, leD, hs1, ho⟩ := hp
                    have h_o : M23 o = some (.inr (9, [.int (iI th), .int (iI put), .int (iI wr), .ref (bd 0), .ref (bd 1), .int (iI nn), .int (iI cir), .int (iI oN), .int (iI oC), .ref (bd 2), .ref (bd 3), .ref (bd 4), .ref (bd 5), .int (iI lbs), .ref (bd 6), .ref (bd 7), .ref (bd 8), .int (iI fcs), .ref (bd 9), .int (iI arcs), .ref (bd 10), .ref (bd 11), .ref (bd 12), .ref (bd 13), .int (iI mns), .ref (bd 14), .ref (bd 15), .ref (bd 16), .int (iI kn), .ref (bd 17)])) := (ho _ (zq_ne h_o h_le (by simp))).trans h_o
                    have h_av : M23 (bd 14) = some (cJ (K 1) 2100 av) := (ho _ (zbd hbd 14 16)).trans h_av
                    have h_po : M23 (bd 15) = some (cJ (K 1) 14 po) := (ho _ (zbd hbd 15 16)).trans h_po
                    have h_le : M23 (bd 16) = some (cJ (K 1) 28 leD) := hs1
                    have hfr : ∀ q, q ≠ (bd 16) → q ≠ (bd 15) → M23 q = M q := fun q g0 g1 => (ho q g0).trans (hfr q g0 g1)
                    refine W.eq (g2 := F0 m 55 ls [.int (iI 1)]) rfl ?_
                    refine lv_istore_n (lv' := [(3, .int (iI 1)), (0, .ref o), (1, .int (iI fnd)), (2, .int (iI mi)), (4, .int (iI k))]) hx hb d_MM_findDivisor_55 rfl hl (by decide) rfl (fun ls hl => ?_)
                    refine lv_iinc (v := iI (k + 1)) (lv' := [(4, .int (iI (k + 1))), (3, .int (iI 1)), (0, .ref o), (1, .int (iI fnd)), (2, .int (iI mi))]) hx hb d_MM_findDivisor_56 hl (k := 4) rfl (iI_add _ _) (by decide) rfl (fun ls hl => ?_)
                    refine lv_goto (tgt := 35) hx hb d_MM_findDivisor_59 (by decide) ?_
                    exact ih_hL2 (k + 1) 1 leD M23 _ _ _ (by omega) (Or.inl ⟨rfl, by omega⟩) (by omega) hfr h_o h_av h_le h_po hw (lv_sub hl [2, 3, 4, 1, 0] rfl)
            refine lv_iconst (v := iI 0) hx hb d_MM_findDivisor_32 rfl ?_
            refine lv_istore (lv' := [(4, .int (iI 0)), (3, .int (iI 0)), (0, .ref o), (1, .int (iI fnd)), (2, .int (iI mi))]) hx hb d_MM_findDivisor_33 hl (by decide) rfl (fun ls hl => ?_)
            exact hL2 _ 0 0 gl Mq _ _ _ ⟨by omega, by omega⟩ (by omega) (Nat.lt_succ_self _) hfr h_o h_av h_le h_po hw (lv_sub hl [2, 3, 4, 1, 0] rfl)
          · refine lv_iconst (v := iI 1) hx hb d_MM_findDivisor_26 rfl ?_
            refine lv_goto (tgt := 31) hx hb d_MM_findDivisor_27 (by decide) ?_
            refine lv_istore_n (lv' := [(3, .int (iI 1)), (0, .ref o), (1, .int (iI fnd)), (2, .int (iI mi))]) hx hb d_MM_findDivisor_31 rfl hl (by decide) rfl (fun ls hl => ?_)
            have hL2 : ∀ (n : Nat) (k : Int) (iz : Int) (gl : Int → Int) (Mq : zq_M) (H : Heap) (locs : List Loc) (ls : Array Slot), (0 ≤ k ∧ k ≤ mns) → ((iz = 1 ∧ rl < 14) ∨ (iz = 0 ∧ rl = 14)) → (mns - k).toNat < n → (∀ q, q ≠ (bd 16) → q ≠ (bd 15) → Mq q = M q) → Mq o = some (.inr (9, [.int (iI th), .int (iI put), .int (iI wr), .ref (bd 0), .ref (bd 1), .int (iI nn), .int (iI cir), .int (iI oN), .int (iI oC), .ref (bd 2), .ref (bd 3), .ref (bd 4), .ref (bd 5), .int (iI lbs), .ref (bd 6), .ref (bd 7), .ref (bd 8), .int (iI fcs), .ref (bd 9), .int (iI arcs), .ref (bd 10), .ref (bd 11), .ref (bd 12), .ref (bd 13), .int (iI mns), .ref (bd 14), .ref (bd 15), .ref (bd 16), .int (iI kn), .ref (bd 17)])) → Mq (bd 14) = some (cJ (K 1) 2100 av) → Mq (bd 16) = some (cJ (K 1) 28 gl) → Mq (bd 15) = some (cJ (K 1) 14 po) → zq_W D vwCl A s.heap Mq H locs → lv_has ls 5 [(0, .ref o), (1, .int (iI fnd)), (2, .int (iI mi)), (3, .int (iI iz)), (4, .int (iI k))] → W p l e ({ frames := 2, cells := 0, slots := 0, locals := 52 } : Room) s m [.ref o].toArray below meth co H locs 0 0 (MQ below (zq_Q D vwCl (zT K) (P_MM_findDivisor K M o bd th put wr nn cir oN oC lbs fcs arcs mns kn av le po) A) [.ref o].toArray s 0 0 A) (F0 m 35 ls []) := by
              intro n
              induction n with
              | zero =>
                intro k iz gl Mq H locs ls hk hiz hms hfr h_o h_av h_le h_po hw hl
                exact absurd hms (Nat.not_lt_zero _)
              | succ n ih_hL2 =>
                intro k iz gl Mq H locs ls hk hiz hms hfr h_o h_av h_le h_po hw hl
                refine lv_iload hx hb d_MM_findDivisor_35 (lv_at hl 4 rfl) ?_
                refine lv_aload_n hx hb d_MM_findDivisor_37 rfl (lv_at hl 0 rfl) ?_
                refine zq_get hx hb hts i_MM hown hK hw h_o rfl 24 (by decide) (hts _ tw_610) rfl d_MM_findDivisor_38 ?_
                refine zq_icmp_ge (tgt := 62) hx hb d_MM_findDivisor_41 (by decide) ⟨by omega, by omega⟩ ⟨by omega, by omega⟩ (fun hc24 => ?_) (fun hc24 => ?_)
                · refine lv_iload_n hx hb d_MM_findDivisor_62 rfl (lv_at hl 3 rfl) ?_
                  refine zq_if_eq (tgt := 70) hx hb d_MM_findDivisor_63 (by decide) ⟨by omega, by omega⟩ (fun hc25 => ?_) (fun hc25 => ?_)
                  · refine lv_iconst (v := iI (-1)) hx hb d_MM_findDivisor_70 rfl ?_
                    refine lv_istore_n (lv' := [(1, .int (iI (-1))), (0, .ref o), (2, .int (iI mi)), (3, .int (iI iz)), (4, .int (iI k))]) hx hb d_MM_findDivisor_71 rfl hl (by decide) rfl (fun ls hl => ?_)
                    refine lv_iinc (v := iI (mi + 1)) (lv' := [(2, .int (iI (mi + 1))), (1, .int (iI (-1))), (0, .ref o), (3, .int (iI iz)), (4, .int (iI k))]) hx hb d_MM_findDivisor_72 hl (k := 2) rfl (iI_add _ _) (by decide) rfl (fun ls hl => ?_)
                    refine lv_goto (tgt := 4) hx hb d_MM_findDivisor_75 (by decide) ?_
                    exact ih_hL1 (mi + 1) (-1) gl Mq _ _ _ (by omega) (Or.inl ⟨rfl, fun j h1 h2 => by by_cases q : j = mi; rw [q, show (14 : Int) = rl by omega]; exact hOrl; exact hf1 j h1 (by omega)⟩) (by omega) hfr h_o h_av h_le h_po hw (lv_sub hl [2, 1, 0] rfl)
                  · refine lv_iload_n hx hb d_MM_findDivisor_66 rfl (lv_at hl 2 rfl) ?_
                    refine lv_goto (tgt := 71) hx hb d_MM_findDivisor_67 (by decide) ?_
                    refine lv_istore_n (lv' := [(1, .int (iI mi)), (0, .ref o), (2, .int (iI mi)), (3, .int (iI iz)), (4, .int (iI k))]) hx hb d_MM_findDivisor_71 rfl hl (by decide) rfl (fun ls hl => ?_)
                    refine lv_iinc (v := iI (mi + 1)) (lv' := [(2, .int (iI (mi + 1))), (1, .int (iI mi)), (0, .ref o), (3, .int (iI iz)), (4, .int (iI k))]) hx hb d_MM_findDivisor_72 hl (k := 2) rfl (iI_add _ _) (by decide) rfl (fun ls hl => ?_)
                    refine lv_goto (tgt := 4) hx hb d_MM_findDivisor_75 (by decide) ?_
                    exact ih_hL1 (mi + 1) mi gl Mq _ _ _ (by omega) (Or.inr ⟨⟨by omega, by omega⟩, hf1, rl, hOrl, by omega⟩) (by omega) hfr h_o h_av h_le h_po hw (lv_sub hl [2, 1, 0] rfl)
                · refine lv_iload_n hx hb d_MM_findDivisor_44 rfl (lv_at hl 3 rfl) ?_
                  refine zq_if_eq (tgt := 62) hx hb d_MM_findDivisor_45 (by decide) ⟨by omega, by omega⟩ (fun hc26 => ?_) (fun hc26 => ?_)
                  · refine lv_iload_n hx hb d_MM_findDivisor_62 rfl (lv_at hl 3 rfl) ?_
                    refine zq_if_eq (tgt := 70) hx hb d_MM_findDivisor_63 (by decide) ⟨by omega, by omega⟩ (fun hc27 => ?_) (fun hc27 => ?_)
                    · refine lv_iconst (v := iI (-1)) hx hb d_MM_findDivisor_70 rfl ?_
                      refine lv_istore_n (lv' := [(1, .int (iI (-1))), (0, .ref o), (2, .int (iI mi)), (3, .int (iI iz)), (4, .int (iI k))]) hx hb d_MM_findDivisor_71 rfl hl (by decide) rfl (fun ls hl => ?_)
                      refine lv_iinc (v := iI (mi + 1)) (lv' := [(2, .int (iI (mi + 1))), (1, .int (iI (-1))), (0, .ref o), (3, .int (iI iz)), (4, .int (iI k))]) hx hb d_MM_findDivisor_72 hl (k := 2) rfl (iI_add _ _) (by decide) rfl (fun ls hl => ?_)
                      refine lv_goto (tgt := 4) hx hb d_MM_findDivisor_75 (by decide) ?_
                      exact ih_hL1 (mi + 1) (-1) gl Mq _ _ _ (by omega) (Or.inl ⟨rfl, fun j h1 h2 => by by_cases q : j = mi; rw [q, show (14 : Int) = rl by omega]; exact hOrl; exact hf1 j h1 (by omega)⟩) (by omega) hfr h_o h_av h_le h_po hw (lv_sub hl [2, 1, 0] rfl)
                    · refine lv_iload_n hx hb d_MM_findDivisor_66 rfl (lv_at hl 2 rfl) ?_
                      refine lv_goto (tgt := 71) hx hb d_MM_findDivisor_67 (by decide) ?_
                      refine lv_istore_n (lv' := [(1, .int (iI mi)), (0, .ref o), (2, .int (iI mi)), (3, .int (iI iz)), (4, .int (iI k))]) hx hb d_MM_findDivisor_71 rfl hl (by decide) rfl (fun ls hl => ?_)
                      refine lv_iinc (v := iI (mi + 1)) (lv' := [(2, .int (iI (mi + 1))), (1, .int (iI mi)), (0, .ref o), (3, .int (iI iz)), (4, .int (iI k))]) hx hb d_MM_findDivisor_72 hl (k := 2) rfl (iI_add _ _) (by decide) rfl (fun ls hl => ?_)
                      refine lv_goto (tgt := 4) hx hb d_MM_findDivisor_75 (by decide) ?_
                      exact ih_hL1 (mi + 1) mi gl Mq _ _ _ (by omega) (Or.inr ⟨⟨by omega, by omega⟩, hf1, rl, hOrl, by omega⟩) (by omega) hfr h_o h_av h_le h_po hw (lv_sub hl [2, 1, 0] rfl)
                  · refine lv_aload_n hx hb d_MM_findDivisor_48 rfl (lv_at hl 0 rfl) ?_
                    refine lv_iload_n hx hb d_MM_findDivisor_49 rfl (lv_at hl 2 rfl) ?_
                    refine lv_iload hx hb d_MM_findDivisor_50 (lv_at hl 4 rfl) ?_
                    refine zq_callV (As := [.int (iI mi), .int (iI k)]) (rest := []) ⟨hx, hb, hml, hown, hts⟩ (c_MM_divides l D K Mq o bd th put wr nn cir oN oC lbs fcs arcs mns kn av gl  mi k h_o hbd h_av h_le ⟨by omega, by omega⟩ ⟨by omega, by omega⟩ (hav mi (by omega) (by omega)) (hav k (by omega) (by omega)) (fun r9 h9 => by rw [zLo_un h9 hOrl]; omega) (fun lo fm h8 h9 => hq mi k lo fm (by omega) (by omega) (by omega) (by omega) h8 (by rw [zLo_un h8 hOrl]; omega) h9)) (cwV 2 hts (zg_V tw_797 tw_799 ts_50 tw_10 tw_800) rfl rfl rfl (by decide +kernel) ⟨Nat.le_of_ble_eq_true rfl, Nat.le_of_ble_eq_true rfl⟩) hZ hw hA h_o rfl rfl rfl rfl hl.1 (Nat.le_of_ble_eq_true rfl) d_MM_findDivisor_52 ⟨Nat.le_of_ble_eq_true rfl, Nat.le_of_ble_eq_true rfl⟩ (fun v M28 H locs hp hw => ?_)
                    obtain ⟨rfl, leD, hs1, ho⟩ := hp
                    have h_o : M28 o = some (.inr (9, [.int (iI th), .int (iI put), .int (iI wr), .ref (bd 0), .ref (bd 1), .int (iI nn), .int (iI cir), .int (iI oN), .int (iI oC), .ref (bd 2), .ref (bd 3), .ref (bd 4), .ref (bd 5), .int (iI lbs), .ref (bd 6), .ref (bd 7), .ref (bd 8), .int (iI fcs), .ref (bd 9), .int (iI arcs), .ref (bd 10), .ref (bd 11), .ref (bd 12), .ref (bd 13), .int (iI mns), .ref (bd 14), .ref (bd 15), .ref (bd 16), .int (iI kn), .ref (bd 17)])) := (ho _ (zq_ne h_o h_le (by simp))).trans h_o
                    have h_av : M28 (bd 14) = some (cJ (K 1) 2100 av) := (ho _ (zbd hbd 14 16)).trans h_av
                    have h_po : M28 (bd 15) = some (cJ (K 1) 14 po) := (ho _ (zbd hbd 15 16)).trans h_po
                    have h_le : M28 (bd 16) = some (cJ (K 1) 28 leD) := hs1
                    have hfr : ∀ q, q ≠ (bd 16) → q ≠ (bd 15) → M28 q = M q := fun q g0 g1 => (ho q g0).trans (hfr q g0 g1)
                    refine W.eq (g2 := F0 m 55 ls [.int (iI 1)]) rfl ?_
                    refine lv_istore_n (lv' := [(3, .int (iI 1)), (0, .ref o), (1, .int (iI fnd)), (2, .int (iI mi)), (4, .int (iI k))]) hx hb d_MM_findDivisor_55 rfl hl (by decide) rfl (fun ls hl => ?_)
                    refine lv_iinc (v := iI (k + 1)) (lv' := [(4, .int (iI (k + 1))), (3, .int (iI 1)), (0, .ref o), (1, .int (iI fnd)), (2, .int (iI mi))]) hx hb d_MM_findDivisor_56 hl (k := 4) rfl (iI_add _ _) (by decide) rfl (fun ls hl => ?_)
                    refine lv_goto (tgt := 35) hx hb d_MM_findDivisor_59 (by decide) ?_
                    exact ih_hL2 (k + 1) 1 leD M28 _ _ _ (by omega) (Or.inl ⟨rfl, by omega⟩) (by omega) hfr h_o h_av h_le h_po hw (lv_sub hl [2, 3, 4, 1, 0] rfl)
            refine lv_iconst (v := iI 0) hx hb d_MM_findDivisor_32 rfl ?_
            refine lv_istore (lv' := [(4, .int (iI 0)), (3, .int (iI 1)), (0, .ref o), (1, .int (iI fnd)), (2, .int (iI mi))]) hx hb d_MM_findDivisor_33 hl (by decide) rfl (fun ls hl => ?_)
            exact hL2 _ 0 1 gl Mq _ _ _ ⟨by omega, by omega⟩ (by omega) (Nat.lt_succ_self _) hfr h_o h_av h_le h_po hw (lv_sub hl [2, 3, 4, 1, 0] rfl)
  refine lv_iconst (v := iI (-1)) hx hb d_MM_findDivisor_0 rfl ?_
  refine lv_istore_n (lv' := [(1, .int (iI (-1))), (0, .ref o)]) hx hb d_MM_findDivisor_1 rfl hl (by decide) rfl (fun ls hl => ?_)
  refine lv_iconst (v := iI 0) hx hb d_MM_findDivisor_2 rfl ?_
  refine lv_istore_n (lv' := [(2, .int (iI 0)), (1, .int (iI (-1))), (0, .ref o)]) hx hb d_MM_findDivisor_3 rfl hl (by decide) rfl (fun ls hl => ?_)
  exact hL1 _ 0 (-1) le M _ _ _ ⟨by omega, by omega⟩ (Or.inl ⟨rfl, fun j h1 h2 => by omega⟩) (Nat.lt_succ_self _) hfr h_o h_av h_le h_po hw (lv_sub hl [2, 1, 0] rfl)
abbrev P_MM_degree (K : Nat → ClassId) (M : zq_M) (o : Nat) (bd : Nat → Nat) (th : Int) (put : Int) (wr : Int) (nn : Int) (cir : Int) (oN : Int) (oC : Int) (lbs : Int) (fcs : Int) (arcs : Int) (mns : Int) (kn : Int) (po : Int → Int) : Option Value → zq_M → Prop := fun v M' => ∃ r, v = some (.int (iI r)) ∧ ((-1 ≤ r ∧ r ≤ 13) ∧ (∀ e, r < e → e < 14 → po e = 0) ∧ (0 ≤ r → ¬ po r = 0)) ∧ M' = M
set_option maxHeartbeats 4000000 in
set_option maxRecDepth 100000 in
theorem c_MM_degree (l : Launch) (D : va_G) (K : Nat → ClassId) (M : zq_M) (o : Nat) (bd : Nat → Nat) (th : Int) (put : Int) (wr : Int) (nn : Int) (cir : Int) (oN : Int) (oC : Int) (lbs : Int) (fcs : Int) (arcs : Int) (mns : Int) (kn : Int) (po : Int → Int) (h_o : M o = some (.inr (9, [.int (iI th), .int (iI put), .int (iI wr), .ref (bd 0), .ref (bd 1), .int (iI nn), .int (iI cir), .int (iI oN), .int (iI oC), .ref (bd 2), .ref (bd 3), .ref (bd 4), .ref (bd 5), .int (iI lbs), .ref (bd 6), .ref (bd 7), .ref (bd 8), .int (iI fcs), .ref (bd 9), .int (iI arcs), .ref (bd 10), .ref (bd 11), .ref (bd 12), .ref (bd 13), .int (iI mns), .ref (bd 14), .ref (bd 15), .ref (bd 16), .int (iI kn), .ref (bd 17)]))) (hbd : ∀ i j, i < 18 → j < 18 → bd i = bd j → i = j) (h_po : M (bd 15) = some (cJ (K 1) 14 po)) (hpo : ∀ e, 0 ≤ e → e < 14 → inL (po e)) : zq_Met l y_MM_degree (.code y_MM_degree b_MM_degree 2 (some .int) :: lw_gd) { frames := 0, cells := 0, slots := 0, locals := 0 } D vwCl (zT K) [.ref o] M (P_MM_degree K M o bd th put wr nn cir oN oC lbs fcs arcs mns kn po) 0 0 := by
  refine zq_start (cc := b_MM_degree) (maxL := 2) (ret := (some .int)) (by decide) rfl (Nat.le_of_ble_eq_true rfl) ?_
  intro p e s m below meth co A ls hx hb hr hml hts hown hnm hlocks hA hZ hw hl
  have hts : ∀ w ∈ lw_gd, w.before [.ref o].toArray s = true := fun w h => hts w (List.mem_cons_of_mem _ h)
  have hown : s.vm.findClass R_MM = some m.cls := hown
  have hK := hZ.1
  have hl : lv_has ls 2 [(0, .ref o)] := hl
  have hL : ∀ (n : Nat) (e0 : Int) (H : Heap) (locs : List Loc) (ls : Array Slot), (-1 ≤ e0 ∧ e0 ≤ 13) → (∀ e, e0 < e → e < 14 → po e = 0) → (e0 + 1).toNat < n → zq_W D vwCl A s.heap M H locs → lv_has ls 2 [(0, .ref o), (1, .int (iI e0))] → W p l e ({ frames := 0, cells := 0, slots := 0, locals := 0 } : Room) s m [.ref o].toArray below meth co H locs 0 0 (MQ below (zq_Q D vwCl (zT K) (P_MM_degree K M o bd th put wr nn cir oN oC lbs fcs arcs mns kn po) A) [.ref o].toArray s 0 0 A) (F0 m 3 ls []) := by
    intro n
    induction n with
    | zero =>
      intro e0 H locs ls he hz hms hw hl
      exact absurd hms (Nat.not_lt_zero _)
    | succ n ih_hL =>
      intro e0 H locs ls he hz hms hw hl
      refine lv_iload_n hx hb d_MM_degree_3 rfl (lv_at hl 1 rfl) ?_
      refine zq_if_lt (tgt := 24) hx hb d_MM_degree_4 (by decide) ⟨by omega, by omega⟩ (fun hc1 => ?_) (fun hc1 => ?_)
      · skip
        refine lv_iload_n hx hb d_MM_degree_24 rfl (lv_at hl 1 rfl) ?_
        exact zq_iret hx hb hr hlocks hZ hw ⟨e0, rfl, ⟨⟨by omega, by omega⟩, hz, fun q => absurd q (by omega)⟩, rfl⟩ d_MM_degree_25
      · refine lv_aload_n hx hb d_MM_degree_7 rfl (lv_at hl 0 rfl) ?_
        refine zq_get hx hb hts i_MM hown hK hw h_o rfl 26 (by decide) (hts _ tw_612) rfl d_MM_degree_8 ?_
        refine lv_iload_n hx hb d_MM_degree_11 rfl (lv_at hl 1 rfl) ?_
        refine zq_lald hx hb hK hw 1 h_po rfl (by omega) (by omega) (by decide) d_MM_degree_12 ?_
        refine lv_lconst (v := iL 0) hx hb d_MM_degree_13 (by decide) ?_
        refine zq_lcmp_ne (tgt := 24) hx hb d_MM_degree_14 d_MM_degree_15 (by decide) (hpo _ (by omega) (by omega)) (by decide) (fun hc2 => ?_) (fun hc2 => ?_)
        · skip
          refine lv_iload_n hx hb d_MM_degree_24 rfl (lv_at hl 1 rfl) ?_
          exact zq_iret hx hb hr hlocks hZ hw ⟨e0, rfl, ⟨⟨by omega, by omega⟩, hz, fun q => by assumption⟩, rfl⟩ d_MM_degree_25
        · refine lv_iinc (v := iI (e0 - 1)) (lv' := [(1, .int (iI (e0 - 1))), (0, .ref o)]) hx hb d_MM_degree_18 hl (k := 1) rfl ((iI_add _ _).trans (congrArg iI (Int.sub_eq_add_neg).symm)) (by decide) rfl (fun ls hl => ?_)
          refine lv_goto (tgt := 3) hx hb d_MM_degree_21 (by decide) ?_
          exact ih_hL (e0 - 1) _ _ _ (by omega) (fun e h1 h2 => by by_cases q : e = e0; rw [q]; assumption; exact hz e (by omega) h2) (by omega) hw (lv_sub hl [1, 0] rfl)
  refine lv_bipush (v := iI 13) hx hb d_MM_degree_0 (by decide) ?_
  refine lv_istore_n (lv' := [(1, .int (iI 13)), (0, .ref o)]) hx hb d_MM_degree_2 rfl hl (by decide) rfl (fun ls hl => ?_)
  exact hL _ 13 _ _ _ ⟨by omega, by omega⟩ (fun e h1 h2 => by omega) (Nat.lt_succ_self _) hw (lv_sub hl [1, 0] rfl)
abbrev P_MM_valueAt (K : Nat → ClassId) (M : zq_M) (o : Nat) (bd : Nat → Nat) (th : Int) (put : Int) (wr : Int) (nn : Int) (cir : Int) (oN : Int) (oC : Int) (lbs : Int) (fcs : Int) (arcs : Int) (mns : Int) (kn : Int) (po : Int → Int) (t : Int) : Option Value → zq_M → Prop := fun v M' => v = some (.long (iL (zvl po t 14))) ∧ M' = M
set_option maxHeartbeats 4000000 in
set_option maxRecDepth 100000 in
theorem c_MM_valueAt (l : Launch) (D : va_G) (K : Nat → ClassId) (M : zq_M) (o : Nat) (bd : Nat → Nat) (th : Int) (put : Int) (wr : Int) (nn : Int) (cir : Int) (oN : Int) (oC : Int) (lbs : Int) (fcs : Int) (arcs : Int) (mns : Int) (kn : Int) (po : Int → Int) (t : Int) (h_o : M o = some (.inr (9, [.int (iI th), .int (iI put), .int (iI wr), .ref (bd 0), .ref (bd 1), .int (iI nn), .int (iI cir), .int (iI oN), .int (iI oC), .ref (bd 2), .ref (bd 3), .ref (bd 4), .ref (bd 5), .int (iI lbs), .ref (bd 6), .ref (bd 7), .ref (bd 8), .int (iI fcs), .ref (bd 9), .int (iI arcs), .ref (bd 10), .ref (bd 11), .ref (bd 12), .ref (bd 13), .int (iI mns), .ref (bd 14), .ref (bd 15), .ref (bd 16), .int (iI kn), .ref (bd 17)]))) (hbd : ∀ i j, i < 18 → j < 18 → bd i = bd j → i = j) (h_po : M (bd 15) = some (cJ (K 1) 14 po)) (ht0 : inI t) : zq_Met l y_MM_valueAt (.code y_MM_valueAt b_MM_valueAt 5 (some .long) :: lw_gd) { frames := 0, cells := 0, slots := 0, locals := 0 } D vwCl (zT K) [.ref o, .int (iI t)] M (P_MM_valueAt K M o bd th put wr nn cir oN oC lbs fcs arcs mns kn po t) 0 0 := by
  refine zq_start (cc := b_MM_valueAt) (maxL := 5) (ret := (some .long)) (by decide) rfl (Nat.le_of_ble_eq_true rfl) ?_
  intro p e s m below meth co A ls hx hb hr hml hts hown hnm hlocks hA hZ hw hl
  have hts : ∀ w ∈ lw_gd, w.before [.ref o, .int (iI t)].toArray s = true := fun w h => hts w (List.mem_cons_of_mem _ h)
  have hown : s.vm.findClass R_MM = some m.cls := hown
  have hK := hZ.1
  have hl : lv_has ls 5 [(0, .ref o), (1, .int (iI t))] := hl
  have hL : ∀ (n : Nat) (e0 : Int) (vv : Int) (H : Heap) (locs : List Loc) (ls : Array Slot), (-1 ≤ e0 ∧ e0 ≤ 13) → (vv = zvl po t (13 - e0).toNat) → (e0 + 1).toNat < n → zq_W D vwCl A s.heap M H locs → lv_has ls 5 [(0, .ref o), (1, .int (iI t)), (2, .long (iL vv)), (4, .int (iI e0))] → W p l e ({ frames := 0, cells := 0, slots := 0, locals := 0 } : Room) s m [.ref o, .int (iI t)].toArray below meth co H locs 0 0 (MQ below (zq_Q D vwCl (zT K) (P_MM_valueAt K M o bd th put wr nn cir oN oC lbs fcs arcs mns kn po t) A) [.ref o, .int (iI t)].toArray s 0 0 A) (F0 m 6 ls []) := by
    intro n
    induction n with
    | zero =>
      intro e0 vv H locs ls he hv hms hw hl
      exact absurd hms (Nat.not_lt_zero _)
    | succ n ih_hL =>
      intro e0 vv H locs ls he hv hms hw hl
      refine lv_iload hx hb d_MM_valueAt_6 (lv_at hl 3 rfl) ?_
      refine zq_if_lt (tgt := 30) hx hb d_MM_valueAt_8 (by decide) ⟨by omega, by omega⟩ (fun hc1 => ?_) (fun hc1 => ?_)
      · refine lv_lload_n hx hb d_MM_valueAt_30 rfl (lv_at hl 2 rfl) ?_
        exact zq_lret hx hb hr hlocks hZ hw ⟨(by rw [hv, show e0 = -1 by omega]; rfl), rfl⟩ d_MM_valueAt_31
      · refine lv_iload_n hx hb d_MM_valueAt_11 rfl (lv_at hl 1 rfl) ?_
        refine zq_i2l hx hb ht0 d_MM_valueAt_12 ?_
        refine lv_lload_n hx hb d_MM_valueAt_13 rfl (lv_at hl 2 rfl) ?_
        refine zq_lmul hx hb d_MM_valueAt_14 ?_
        refine lv_aload_n hx hb d_MM_valueAt_15 rfl (lv_at hl 0 rfl) ?_
        refine zq_get hx hb hts i_MM hown hK hw h_o rfl 26 (by decide) (hts _ tw_612) rfl d_MM_valueAt_16 ?_
        refine lv_iload hx hb d_MM_valueAt_19 (lv_at hl 3 rfl) ?_
        refine zq_lald hx hb hK hw 1 h_po rfl (by omega) (by omega) (by decide) d_MM_valueAt_21 ?_
        refine zq_ladd hx hb d_MM_valueAt_22 ?_
        refine lv_lstore_n (lv' := [(2, .long (iL ((t * vv) + (po e0)))), (0, .ref o), (1, .int (iI t)), (4, .int (iI e0))]) hx hb d_MM_valueAt_23 rfl hl (by decide) rfl (fun ls hl => ?_)
        refine lv_iinc (v := iI (e0 - 1)) (lv' := [(4, .int (iI (e0 - 1))), (2, .long (iL ((t * vv) + (po e0)))), (0, .ref o), (1, .int (iI t))]) hx hb d_MM_valueAt_24 hl (k := 3) rfl ((iI_add _ _).trans (congrArg iI (Int.sub_eq_add_neg).symm)) (by decide) rfl (fun ls hl => ?_)
        refine lv_goto (tgt := 6) hx hb d_MM_valueAt_27 (by decide) ?_
        exact ih_hL (e0 - 1) ((t * vv) + (po e0)) _ _ _ (by omega) (by rw [show (13 - (e0 - 1)).toNat = (13 - e0).toNat + 1 by omega]; show t * vv + po e0 = t * zvl po t (13 - e0).toNat + po (13 - ((13 - e0).toNat : Int)); rw [← hv, show 13 - (((13 - e0).toNat : Nat) : Int) = e0 by omega]) (by omega) hw (lv_sub hl [2, 3, 1, 0] rfl)
  refine lv_lconst (v := iL 0) hx hb d_MM_valueAt_0 (by decide) ?_
  refine lv_lstore_n (lv' := [(2, .long (iL 0)), (0, .ref o), (1, .int (iI t))]) hx hb d_MM_valueAt_1 rfl hl (by decide) rfl (fun ls hl => ?_)
  refine lv_bipush (v := iI 13) hx hb d_MM_valueAt_2 (by decide) ?_
  refine lv_istore (lv' := [(4, .int (iI 13)), (2, .long (iL 0)), (0, .ref o), (1, .int (iI t))]) hx hb d_MM_valueAt_4 hl (by decide) rfl (fun ls hl => ?_)
  exact hL _ 13 0 _ _ _ ⟨by omega, by omega⟩ rfl (Nat.lt_succ_self _) hw (lv_sub hl [2, 3, 1, 0] rfl)
