abbrev P_DR_pieceAt (K : Nat → ClassId) (M : zq_M) (o : Nat) (aA : Nat) (bA : Nat) (cA : Nat) (dA : Nat) (pf : Int → Int) (pcs : Int → Int) (sp : Int → Int) (sn : Int → Int) (x : Int) : Option Value → zq_M → Prop := fun v M' => v = some (.int (iI (pcs (x / 4)))) ∧ M' = M
set_option maxHeartbeats 4000000 in
set_option maxRecDepth 100000 in
theorem c_DR_pieceAt (l : Launch) (D : va_G) (K : Nat → ClassId) (M : zq_M) (o : Nat) (aA : Nat) (bA : Nat) (cA : Nat) (dA : Nat) (pf : Int → Int) (pcs : Int → Int) (sp : Int → Int) (sn : Int → Int) (x : Int) (h_o : M o = some (.inr (4, [.ref aA, .ref bA, .ref cA, .ref dA]))) (h_a : M aA = some (cI (K 0) 48 pf)) (h_b : M bA = some (cI (K 0) 12 pcs)) (h_c : M cA = some (cI (K 0) 12 sp)) (h_d : M dA = some (cI (K 2) 48 sn)) (hbc : bA ≠ cA) (had : aA ≠ dA) (hx0 : 0 ≤ x ∧ x < 48) : zq_Met l y_DR_pieceAt (.code y_DR_pieceAt b_DR_pieceAt 3 (some .int) :: lw_gd) { frames := 0, cells := 0, slots := 0, locals := 0 } D vwCl (zT K) [.ref o, .int (iI x)] M (P_DR_pieceAt K M o aA bA cA dA pf pcs sp sn x) 0 0 := by
  refine zq_start (cc := b_DR_pieceAt) (maxL := 3) (ret := (some .int)) (by decide) rfl (Nat.le_of_ble_eq_true rfl) ?_
  intro p e s m below meth co A ls hx hb hr hml hts hown hnm hlocks hA hZ hw hl
  have hts : ∀ w ∈ lw_gd, w.before [.ref o, .int (iI x)].toArray s = true := fun w h => hts w (List.mem_cons_of_mem _ h)
  have hown : s.vm.findClass R_DR = some m.cls := hown
  have hK := hZ.1
  have hl : lv_has ls 3 [(0, .ref o), (1, .int (iI x))] := hl
  refine lv_iload_n hx hb d_DR_pieceAt_0 rfl (lv_at hl 1 rfl) ?_
  refine lv_iconst (v := iI 4) hx hb d_DR_pieceAt_1 rfl ?_
  refine zq_idiv hx hb (by omega) ⟨by omega, by omega⟩ (by decide) (by decide) d_DR_pieceAt_2 ?_
  refine lv_istore_n (lv' := [(2, .int (iI (x / 4))), (0, .ref o), (1, .int (iI x))]) hx hb d_DR_pieceAt_3 rfl hl (by decide) rfl (fun ls hl => ?_)
  refine lv_iload_n hx hb d_DR_pieceAt_4 rfl (lv_at hl 0 rfl) ?_
  refine zq_if_lt (tgt := 23) hx hb d_DR_pieceAt_5 (by decide) ⟨by omega, by omega⟩ (fun hc1 => ?_) (fun hc1 => ?_)
  · exact absurd hc1 (by omega)
  · refine lv_iload_n hx hb d_DR_pieceAt_8 rfl (lv_at hl 0 rfl) ?_
    refine lv_bipush (v := iI 12) hx hb d_DR_pieceAt_9 (by decide) ?_
    refine zq_icmp_ge (tgt := 23) hx hb d_DR_pieceAt_11 (by decide) ⟨by omega, by omega⟩ (by decide) (fun hc2 => ?_) (fun hc2 => ?_)
    · exact absurd hc2 (by omega)
    · refine lv_aload_n hx hb d_DR_pieceAt_14 rfl (lv_at hl 1 rfl) ?_
      refine zq_get hx hb hts i_DR hown hK hw h_o rfl 1 (by decide) (hts _ tw_46) rfl d_DR_pieceAt_15 ?_
      refine lv_iload_n hx hb d_DR_pieceAt_18 rfl (lv_at hl 0 rfl) ?_
      refine zq_iald hx hb hK hw 0 h_b rfl (by omega) (by omega) (by decide) d_DR_pieceAt_19 ?_
      refine lv_goto (tgt := 24) hx hb d_DR_pieceAt_20 (by decide) ?_
      exact zq_iret hx hb hr hlocks hZ hw ⟨rfl, rfl⟩ d_DR_pieceAt_24
abbrev P_DR_addSurplus (K : Nat → ClassId) (M : zq_M) (o : Nat) (aA : Nat) (bA : Nat) (cA : Nat) (dA : Nat) (pf : Int → Int) (pcs : Int → Int) (sp : Int → Int) (sn : Int → Int) (x : Int) (nn : Int) : Option Value → zq_M → Prop := fun v M' => v = none ∧ M' cA = some (cI (K 0) 12 (zu sp (pcs (x / 4)) (sp (pcs (x / 4)) + nn))) ∧ ∀ q, q ≠ cA → M' q = M q
set_option maxHeartbeats 4000000 in
set_option maxRecDepth 100000 in
theorem c_DR_addSurplus (l : Launch) (D : va_G) (K : Nat → ClassId) (M : zq_M) (o : Nat) (aA : Nat) (bA : Nat) (cA : Nat) (dA : Nat) (pf : Int → Int) (pcs : Int → Int) (sp : Int → Int) (sn : Int → Int) (x : Int) (nn : Int) (h_o : M o = some (.inr (4, [.ref aA, .ref bA, .ref cA, .ref dA]))) (h_a : M aA = some (cI (K 0) 48 pf)) (h_b : M bA = some (cI (K 0) 12 pcs)) (h_c : M cA = some (cI (K 0) 12 sp)) (h_d : M dA = some (cI (K 2) 48 sn)) (hbc : bA ≠ cA) (had : aA ≠ dA) (hx0 : 0 ≤ x ∧ x < 48) (hp : 0 ≤ pcs (x / 4) ∧ pcs (x / 4) < 12) : zq_Met l y_DR_addSurplus (.code y_DR_addSurplus b_DR_addSurplus 4 none :: lw_gd) { frames := 1, cells := 0, slots := 0, locals := 22 } D vwCl (zT K) [.ref o, .int (iI x), .int (iI nn)] M (P_DR_addSurplus K M o aA bA cA dA pf pcs sp sn x nn) 0 0 := by
  refine zq_start (cc := b_DR_addSurplus) (maxL := 4) (ret := none) (by decide) rfl (Nat.le_of_ble_eq_true rfl) ?_
  intro p e s m below meth co A ls hx hb hr hml hts hown hnm hlocks hA hZ hw hl
  have hts : ∀ w ∈ lw_gd, w.before [.ref o, .int (iI x), .int (iI nn)].toArray s = true := fun w h => hts w (List.mem_cons_of_mem _ h)
  have hown : s.vm.findClass R_DR = some m.cls := hown
  have hK := hZ.1
  have hl : lv_has ls 4 [(0, .ref o), (1, .int (iI x)), (2, .int (iI nn))] := hl
  have hfr : ∀ q, q ≠ cA → M q = M q := fun q _ => rfl
  refine lv_aload_n hx hb d_DR_addSurplus_0 rfl (lv_at hl 0 rfl) ?_
  refine lv_iload_n hx hb d_DR_addSurplus_1 rfl (lv_at hl 1 rfl) ?_
  refine zq_callV (As := [.int (iI x)]) (rest := []) ⟨hx, hb, hml, hown, hts⟩ (c_DR_pieceAt l D K M o aA bA cA dA pf pcs sp sn x h_o h_a h_b h_c h_d hbc had ⟨by omega, by omega⟩) (cwV 1 hts (zg_V tw_280 tw_282 ts_5 tw_3 tw_283) rfl rfl rfl (by decide +kernel) ⟨Nat.le_of_ble_eq_true rfl, Nat.le_of_ble_eq_true rfl⟩) hZ hw hA h_o rfl rfl rfl rfl hl.1 (Nat.le_of_ble_eq_true rfl) d_DR_addSurplus_2 ⟨Nat.le_of_ble_eq_true rfl, Nat.le_of_ble_eq_true rfl⟩ (fun v M1 H locs hp hw => ?_)
  obtain ⟨rfl, hMe⟩ := hp
  rw [hMe] at hw
  refine W.eq (g2 := F0 m 5 ls [.int (iI (pcs (x / 4)))]) rfl ?_
  refine lv_istore_n (lv' := [(3, .int (iI (pcs (x / 4)))), (0, .ref o), (1, .int (iI x)), (2, .int (iI nn))]) hx hb d_DR_addSurplus_5 rfl hl (by decide) rfl (fun ls hl => ?_)
  refine lv_iload_n hx hb d_DR_addSurplus_6 rfl (lv_at hl 0 rfl) ?_
  refine zq_if_lt (tgt := 26) hx hb d_DR_addSurplus_7 (by decide) ⟨by omega, by omega⟩ (fun hc2 => ?_) (fun hc2 => ?_)
  · exact absurd hc2 (by omega)
  · refine lv_iload_n hx hb d_DR_addSurplus_10 rfl (lv_at hl 0 rfl) ?_
    refine lv_bipush (v := iI 12) hx hb d_DR_addSurplus_11 (by decide) ?_
    refine zq_icmp_ge (tgt := 26) hx hb d_DR_addSurplus_13 (by decide) ⟨by omega, by omega⟩ (by decide) (fun hc3 => ?_) (fun hc3 => ?_)
    · exact absurd hc3 (by omega)
    · refine lv_aload_n hx hb d_DR_addSurplus_16 rfl (lv_at hl 1 rfl) ?_
      refine zq_get hx hb hts i_DR hown hK hw h_o rfl 2 (by decide) (hts _ tw_47) rfl d_DR_addSurplus_17 ?_
      refine lv_iload_n hx hb d_DR_addSurplus_20 rfl (lv_at hl 0 rfl) ?_
      refine lv_dup2_11 hx hb d_DR_addSurplus_21 rfl rfl ?_
      refine zq_iald hx hb hK hw 0 h_c rfl (by omega) (by omega) (by decide) d_DR_addSurplus_22 ?_
      refine lv_iload_n hx hb d_DR_addSurplus_23 rfl (lv_at hl 3 rfl) ?_
      refine zq_iadd hx hb d_DR_addSurplus_24 ?_
      refine zq_iast hx hb hK hw 0 h_c rfl (by omega) (by omega) (by decide) d_DR_addSurplus_25 (fun M4 H locs hs ho hw => ?_)
      have h_o : M4 o = some (.inr (4, [.ref aA, .ref bA, .ref cA, .ref dA])) := (ho _ (zq_ne h_o h_c (by simp))).trans h_o
      have h_a : M4 aA = some (cI (K 0) 48 pf) := (ho _ (zq_ne h_a h_c (by simp))).trans h_a
      have h_b : M4 bA = some (cI (K 0) 12 pcs) := (ho _ hbc).trans h_b
      have h_d : M4 dA = some (cI (K 2) 48 sn) := (ho _ (zq_ne h_d h_c (by simp))).trans h_d
      have h_c : M4 cA = some (cI (K 0) 12 (zu sp (pcs (x / 4)) ((sp (pcs (x / 4))) + nn))) := hs
      have hfr : ∀ q, q ≠ cA → M4 q = M q := fun q g0 => (ho q g0).trans (hfr q g0)
      exact zq_vret hx hb hr hlocks hZ hw ⟨rfl, h_c, hfr⟩ d_DR_addSurplus_26
abbrev P_DR_goRound (K : Nat → ClassId) (M : zq_M) (o : Nat) (aA : Nat) (bA : Nat) (cA : Nat) (dA : Nat) (pf : Int → Int) (pcs : Int → Int) (sp : Int → Int) (sn : Int → Int) (cnt : Int) (x : Int) : Option Value → zq_M → Prop := fun v M' => v = none ∧ M' dA = some (cI (K 2) 48 (zgo pf 48 x sn)) ∧ ∀ q, q ≠ dA → M' q = M q
set_option maxHeartbeats 4000000 in
set_option maxRecDepth 100000 in
theorem c_DR_goRound (l : Launch) (D : va_G) (K : Nat → ClassId) (M : zq_M) (o : Nat) (aA : Nat) (bA : Nat) (cA : Nat) (dA : Nat) (pf : Int → Int) (pcs : Int → Int) (sp : Int → Int) (sn : Int → Int) (cnt : Int) (x : Int) (h_o : M o = some (.inr (4, [.ref aA, .ref bA, .ref cA, .ref dA]))) (h_a : M aA = some (cI (K 0) 48 pf)) (h_b : M bA = some (cI (K 0) 12 pcs)) (h_c : M cA = some (cI (K 0) 12 sp)) (h_d : M dA = some (cI (K 2) 48 sn)) (hbc : bA ≠ cA) (had : aA ≠ dA) (hcnt : 0 ≤ cnt ∧ cnt ≤ 12) (hpf : ∀ z, 0 ≤ z → z < 4 * cnt → 0 ≤ pf z ∧ pf z < 4 * cnt) (hsn : ∀ z, sn z = 0 ∨ sn z = 1) (hx0 : 0 ≤ x ∧ x < 4 * cnt) : zq_Met l y_DR_goRound (.code y_DR_goRound b_DR_goRound 5 none :: lw_gd) { frames := 0, cells := 0, slots := 0, locals := 0 } D vwCl (zT K) [.ref o, .int (iI x)] M (P_DR_goRound K M o aA bA cA dA pf pcs sp sn cnt x) 0 0 := by
  refine zq_start (cc := b_DR_goRound) (maxL := 5) (ret := none) (by decide) rfl (Nat.le_of_ble_eq_true rfl) ?_
  intro p e s m below meth co A ls hx hb hr hml hts hown hnm hlocks hA hZ hw hl
  have hts : ∀ w ∈ lw_gd, w.before [.ref o, .int (iI x)].toArray s = true := fun w h => hts w (List.mem_cons_of_mem _ h)
  have hown : s.vm.findClass R_DR = some m.cls := hown
  have hK := hZ.1
  have hl : lv_has ls 5 [(0, .ref o), (1, .int (iI x))] := hl
  have hfr : ∀ q, q ≠ dA → M q = M q := fun q _ => rfl
  have hL : ∀ (n : Nat) (k : Nat) (i : Int) (y : Int) (g : Int → Int) (Mq : zq_M) (H : Heap) (locs : List Loc) (ls : Array Slot), (i + k = 48) → (0 ≤ i) → (0 ≤ y ∧ y < 4 * cnt) → (zgo pf k y g = zgo pf 48 x sn) → (∀ z, g z = 0 ∨ g z = 1) → (48 - i).toNat < n → (∀ q, q ≠ dA → Mq q = M q) → Mq o = some (.inr (4, [.ref aA, .ref bA, .ref cA, .ref dA])) → Mq aA = some (cI (K 0) 48 pf) → Mq bA = some (cI (K 0) 12 pcs) → Mq cA = some (cI (K 0) 12 sp) → Mq dA = some (cI (K 2) 48 g) → zq_W D vwCl A s.heap Mq H locs → lv_has ls 5 [(0, .ref o), (2, .int (iI y)), (3, .int (iI i))] → W p l e ({ frames := 0, cells := 0, slots := 0, locals := 0 } : Room) s m [.ref o, .int (iI x)].toArray below meth co H locs 0 0 (MQ below (zq_Q D vwCl (zT K) (P_DR_goRound K M o aA bA cA dA pf pcs sp sn cnt x) A) [.ref o, .int (iI x)].toArray s 0 0 A) (F0 m 4 ls []) := by
    intro n
    induction n with
    | zero =>
      intro k i y g Mq H locs ls hik hi hy hg h01 hms hfr h_o h_a h_b h_c h_d hw hl
      exact absurd hms (Nat.not_lt_zero _)
    | succ n ih_hL =>
      intro k i y g Mq H locs ls hik hi hy hg h01 hms hfr h_o h_a h_b h_c h_d hw hl
      refine lv_iload_n hx hb d_DR_goRound_4 rfl (lv_at hl 2 rfl) ?_
      refine lv_bipush (v := iI 48) hx hb d_DR_goRound_5 (by decide) ?_
      refine zq_icmp_ge (tgt := 66) hx hb d_DR_goRound_7 (by decide) ⟨by omega, by omega⟩ (by decide) (fun hc1 => ?_) (fun hc1 => ?_)
      · exact zq_vret hx hb hr hlocks hZ hw ⟨rfl, (by rw [← hg, show k = 0 from by omega]; exact h_d), hfr⟩ d_DR_goRound_66
      · refine lv_iload_n hx hb d_DR_goRound_10 rfl (lv_at hl 1 rfl) ?_
        refine zq_if_lt (tgt := 29) hx hb d_DR_goRound_11 (by decide) ⟨by omega, by omega⟩ (fun hc2 => ?_) (fun hc2 => ?_)
        · exact absurd hc2 (by omega)
        · refine lv_iload_n hx hb d_DR_goRound_14 rfl (lv_at hl 1 rfl) ?_
          refine lv_bipush (v := iI 48) hx hb d_DR_goRound_15 (by decide) ?_
          refine zq_icmp_ge (tgt := 29) hx hb d_DR_goRound_17 (by decide) ⟨by omega, by omega⟩ (by decide) (fun hc3 => ?_) (fun hc3 => ?_)
          · exact absurd hc3 (by omega)
          · refine lv_aload_n hx hb d_DR_goRound_20 rfl (lv_at hl 0 rfl) ?_
            refine zq_get hx hb hts i_DR hown hK hw h_o rfl 3 (by decide) (hts _ tw_48) rfl d_DR_goRound_21 ?_
            refine lv_iload_n hx hb d_DR_goRound_24 rfl (lv_at hl 1 rfl) ?_
            refine zq_zald hx hb hK hw 2 h_d rfl (by omega) (by omega) (by decide) d_DR_goRound_25 ?_
            refine zq_if_eq (tgt := 30) hx hb d_DR_goRound_26 (by decide) (by rcases h01 y with h | h <;> rw [h] <;> decide) (fun hc4 => ?_) (fun hc4 => ?_)
            · have hz : g y = 0 := by rcases h01 y with h | h; exact h; omega
              refine lv_aload_n hx hb d_DR_goRound_30 rfl (lv_at hl 0 rfl) ?_
              refine zq_get hx hb hts i_DR hown hK hw h_o rfl 3 (by decide) (hts _ tw_48) rfl d_DR_goRound_31 ?_
              refine lv_iload_n hx hb d_DR_goRound_34 rfl (lv_at hl 1 rfl) ?_
              refine lv_iconst (v := iI 1) hx hb d_DR_goRound_35 rfl ?_
              refine zq_zast hx hb hK hw 2 h_d rfl (by omega) (by omega) (by decide) (by decide) d_DR_goRound_36 (fun M5 H locs hs ho hw => ?_)
              have h_o : M5 o = some (.inr (4, [.ref aA, .ref bA, .ref cA, .ref dA])) := (ho _ (zq_ne h_o h_d (by simp))).trans h_o
              have h_a : M5 aA = some (cI (K 0) 48 pf) := (ho _ had).trans h_a
              have h_b : M5 bA = some (cI (K 0) 12 pcs) := (ho _ (zq_ne h_b h_d (by simp))).trans h_b
              have h_c : M5 cA = some (cI (K 0) 12 sp) := (ho _ (zq_ne h_c h_d (by simp))).trans h_c
              have h_d : M5 dA = some (cI (K 2) 48 (zu g y 1)) := hs
              have hfr : ∀ q, q ≠ dA → M5 q = M q := fun q g0 => (ho q g0).trans (hfr q g0)
              refine lv_iload_n hx hb d_DR_goRound_37 rfl (lv_at hl 1 rfl) ?_
              refine lv_iload_n hx hb d_DR_goRound_38 rfl (lv_at hl 1 rfl) ?_
              refine lv_iconst (v := iI 4) hx hb d_DR_goRound_39 rfl ?_
              refine zq_irem hx hb (by omega) ⟨by omega, by omega⟩ (by decide) (by decide) d_DR_goRound_40 ?_
              refine zq_isub hx hb d_DR_goRound_41 ?_
              refine lv_istore (lv' := [(4, .int (iI (y - (y % 4)))), (0, .ref o), (2, .int (iI y)), (3, .int (iI i))]) hx hb d_DR_goRound_42 hl (by decide) rfl (fun ls hl => ?_)
              refine lv_aload_n hx hb d_DR_goRound_44 rfl (lv_at hl 1 rfl) ?_
              refine zq_get hx hb hts i_DR hown hK hw h_o rfl 0 (by decide) (hts _ tw_45) rfl d_DR_goRound_45 ?_
              refine lv_iload hx hb d_DR_goRound_48 (lv_at hl 0 rfl) ?_
              refine lv_iload_n hx hb d_DR_goRound_50 rfl (lv_at hl 2 rfl) ?_
              refine lv_iconst (v := iI 4) hx hb d_DR_goRound_51 rfl ?_
              refine zq_iadd hx hb d_DR_goRound_52 ?_
              refine lv_iconst (v := iI 1) hx hb d_DR_goRound_53 rfl ?_
              refine zq_isub hx hb d_DR_goRound_54 ?_
              refine lv_iconst (v := iI 4) hx hb d_DR_goRound_55 rfl ?_
              refine zq_irem hx hb (by omega) ⟨by omega, by omega⟩ (by decide) (by decide) d_DR_goRound_56 ?_
              refine zq_iadd hx hb d_DR_goRound_57 ?_
              refine zq_iald hx hb hK hw 0 h_a rfl (by omega) (by omega) (by decide) d_DR_goRound_58 ?_
              refine lv_istore_n (lv' := [(2, .int (iI (pf ((y - (y % 4)) + (((y + 4) - 1) % 4))))), (4, .int (iI (y - (y % 4)))), (0, .ref o), (3, .int (iI i))]) hx hb d_DR_goRound_59 rfl hl (by decide) rfl (fun ls hl => ?_)
              refine lv_iinc (v := iI (i + 1)) (lv' := [(3, .int (iI (i + 1))), (2, .int (iI (pf ((y - (y % 4)) + (((y + 4) - 1) % 4))))), (4, .int (iI (y - (y % 4)))), (0, .ref o)]) hx hb d_DR_goRound_60 hl (k := 3) rfl (iI_add _ _) (by decide) rfl (fun ls hl => ?_)
              refine lv_goto (tgt := 4) hx hb d_DR_goRound_63 (by decide) ?_
              exact ih_hL (k - 1) (i + 1) (pf ((y - (y % 4)) + (((y + 4) - 1) % 4))) (zu g y 1) M5 _ _ _ (by omega) (by omega) (hpf _ (by omega) (by omega)) (by rw [← hg]; obtain ⟨k1, rfl⟩ : ∃ k1, k = k1 + 1 := ⟨k - 1, by omega⟩; exact (if_pos hz).symm) (fun z => by unfold zu; split; exact Or.inr rfl; exact h01 z) (by omega) hfr h_o h_a h_b h_c h_d hw (lv_sub hl [3, 1, 0] rfl)
            · exact zq_vret hx hb hr hlocks hZ hw ⟨rfl, (by rw [← hg]; obtain ⟨k1, rfl⟩ : ∃ k1, k = k1 + 1 := ⟨k - 1, by omega⟩; rw [show zgo pf (k1 + 1) y g = g from if_neg (by assumption)]; exact h_d), hfr⟩ d_DR_goRound_29
  refine lv_iload_n hx hb d_DR_goRound_0 rfl (lv_at hl 1 rfl) ?_
  refine lv_istore_n (lv' := [(2, .int (iI x)), (0, .ref o), (1, .int (iI x))]) hx hb d_DR_goRound_1 rfl hl (by decide) rfl (fun ls hl => ?_)
  refine lv_iconst (v := iI 0) hx hb d_DR_goRound_2 rfl ?_
  refine lv_istore_n (lv' := [(3, .int (iI 0)), (2, .int (iI x)), (0, .ref o), (1, .int (iI x))]) hx hb d_DR_goRound_3 rfl hl (by decide) rfl (fun ls hl => ?_)
  exact hL _ 48 0 x sn M _ _ _ rfl (by omega) hx0 rfl hsn (Nat.lt_succ_self _) hfr h_o h_a h_b h_c h_d hw (lv_sub hl [2, 1, 0] rfl)
abbrev P_DR_countFaces (K : Nat → ClassId) (M : zq_M) (o : Nat) (aA : Nat) (bA : Nat) (cA : Nat) (dA : Nat) (pf : Int → Int) (pcs : Int → Int) (sn : Int → Int) (cnt : Int) : Option Value → zq_M → Prop := fun v M' => v = none ∧ M' dA = some (cI (K 2) 48 (zcf pf pcs (fun z => if 0 ≤ z ∧ z < 4 * cnt then 0 else sn z) (4 * cnt).toNat).1) ∧ M' cA = some (cI (K 0) 12 (zcf pf pcs (fun z => if 0 ≤ z ∧ z < 4 * cnt then 0 else sn z) (4 * cnt).toNat).2) ∧ ∀ q, q ≠ dA → q ≠ cA → M' q = M q
set_option maxHeartbeats 4000000 in
set_option maxRecDepth 100000 in
theorem c_DR_countFaces (l : Launch) (D : va_G) (K : Nat → ClassId) (M : zq_M) (o : Nat) (aA : Nat) (bA : Nat) (cA : Nat) (dA : Nat) (pf : Int → Int) (pcs : Int → Int) (sn : Int → Int) (cnt : Int) (h_o : M o = some (.inr (4, [.ref aA, .ref bA, .ref cA, .ref dA]))) (h_a : M aA = some (cI (K 0) 48 pf)) (h_b : M bA = some (cI (K 0) 12 pcs)) (h_c : M cA = some (cI (K 0) 12 (fun _ => 0))) (h_d : M dA = some (cI (K 2) 48 sn)) (hbc : bA ≠ cA) (had : aA ≠ dA) (hcnt : 0 ≤ cnt ∧ cnt ≤ 12) (hpf : ∀ z, 0 ≤ z → z < 4 * cnt → 0 ≤ pf z ∧ pf z < 4 * cnt) (hsn : ∀ z, sn z = 0 ∨ sn z = 1) (hpc : ∀ z, 0 ≤ z → z < 12 → 0 ≤ pcs z ∧ pcs z < 12) : zq_Met l y_DR_countFaces (.code y_DR_countFaces b_DR_countFaces 3 none :: lw_gd) { frames := 2, cells := 0, slots := 0, locals := 45 } D vwCl (zT K) [.ref o, .int (iI (4 * cnt))] M (P_DR_countFaces K M o aA bA cA dA pf pcs sn cnt) 0 0 := by
  refine zq_start (cc := b_DR_countFaces) (maxL := 3) (ret := none) (by decide) rfl (Nat.le_of_ble_eq_true rfl) ?_
  intro p e s m below meth co A ls hx hb hr hml hts hown hnm hlocks hA hZ hw hl
  have hts : ∀ w ∈ lw_gd, w.before [.ref o, .int (iI (4 * cnt))].toArray s = true := fun w h => hts w (List.mem_cons_of_mem _ h)
  have hown : s.vm.findClass R_DR = some m.cls := hown
  have hK := hZ.1
  have hl : lv_has ls 3 [(0, .ref o), (1, .int (iI (4 * cnt)))] := hl
  have hfr : ∀ q, q ≠ dA → q ≠ cA → M q = M q := fun q _ _ => rfl
  have h01 : ∀ z, (fun z => if 0 ≤ z ∧ z < 4 * cnt then 0 else sn z) z = 0 ∨ (fun z => if 0 ≤ z ∧ z < 4 * cnt then 0 else sn z) z = 1 := fun z => by show (if 0 ≤ z ∧ z < 4 * cnt then (0 : Int) else sn z) = 0 ∨ (if 0 ≤ z ∧ z < 4 * cnt then (0 : Int) else sn z) = 1; split; exact Or.inl rfl; exact hsn z
  have hL2 : ∀ (n : Nat) (k : Nat) (i : Int) (g : Int → Int) (sp1 : Int → Int) (Mq : zq_M) (H : Heap) (locs : List Loc) (ls : Array Slot), (i = k) → (i ≤ 4 * cnt) → (g = (zcf pf pcs (fun z => if 0 ≤ z ∧ z < 4 * cnt then 0 else sn z) k).1) → (sp1 = (zcf pf pcs (fun z => if 0 ≤ z ∧ z < 4 * cnt then 0 else sn z) k).2) → (4 * cnt - i).toNat < n → (∀ q, q ≠ dA → q ≠ cA → Mq q = M q) → Mq o = some (.inr (4, [.ref aA, .ref bA, .ref cA, .ref dA])) → Mq aA = some (cI (K 0) 48 pf) → Mq bA = some (cI (K 0) 12 pcs) → Mq cA = some (cI (K 0) 12 sp1) → Mq dA = some (cI (K 2) 48 g) → zq_W D vwCl A s.heap Mq H locs → lv_has ls 3 [(0, .ref o), (1, .int (iI (4 * cnt))), (2, .int (iI i))] → W p l e ({ frames := 2, cells := 0, slots := 0, locals := 45 } : Room) s m [.ref o, .int (iI (4 * cnt))].toArray below meth co H locs 0 0 (MQ below (zq_Q D vwCl (zT K) (P_DR_countFaces K M o aA bA cA dA pf pcs sn cnt) A) [.ref o, .int (iI (4 * cnt))].toArray s 0 0 A) (F0 m 22 ls []) := by
    intro n
    induction n with
    | zero =>
      intro k i g sp1 Mq H locs ls hik hi hg hs hms hfr h_o h_a h_b h_c h_d hw hl
      exact absurd hms (Nat.not_lt_zero _)
    | succ n ih_hL2 =>
      intro k i g sp1 Mq H locs ls hik hi hg hs hms hfr h_o h_a h_b h_c h_d hw hl
      refine lv_iload_n hx hb d_DR_countFaces_22 rfl (lv_at hl 2 rfl) ?_
      refine lv_iload_n hx hb d_DR_countFaces_23 rfl (lv_at hl 1 rfl) ?_
      refine zq_icmp_ge (tgt := 53) hx hb d_DR_countFaces_24 (by decide) ⟨by omega, by omega⟩ ⟨by omega, by omega⟩ (fun hc1 => ?_) (fun hc1 => ?_)
      · exact zq_vret hx hb hr hlocks hZ hw ⟨rfl, (by rw [show (4 * cnt).toNat = k from by omega, ← hg]; exact h_d), (by rw [show (4 * cnt).toNat = k from by omega, ← hs]; exact h_c), hfr⟩ d_DR_countFaces_53
      · refine lv_aload_n hx hb d_DR_countFaces_27 rfl (lv_at hl 0 rfl) ?_
        refine zq_get hx hb hts i_DR hown hK hw h_o rfl 3 (by decide) (hts _ tw_48) rfl d_DR_countFaces_28 ?_
        refine lv_iload_n hx hb d_DR_countFaces_31 rfl (lv_at hl 2 rfl) ?_
        refine zq_zald hx hb hK hw 2 h_d rfl (by omega) (by omega) (by decide) d_DR_countFaces_32 ?_
        refine zq_if_ne (tgt := 47) hx hb d_DR_countFaces_33 (by decide) (by rw [hg]; rcases zcf_01 h01 k i with h | h <;> rw [h] <;> decide) (fun hc2 => ?_) (fun hc2 => ?_)
        · refine lv_iinc (v := iI (i + 1)) (lv' := [(2, .int (iI (i + 1))), (0, .ref o), (1, .int (iI (4 * cnt)))]) hx hb d_DR_countFaces_47 hl (k := 2) rfl (iI_add _ _) (by decide) rfl (fun ls hl => ?_)
          refine lv_goto (tgt := 22) hx hb d_DR_countFaces_50 (by decide) ?_
          exact ih_hL2 (k + 1) (i + 1) g sp1 Mq _ _ _ (by omega) (by omega) (by rw [zcf_neg (by rw [← hg, ← hik]; assumption), hg]) (by rw [zcf_neg (by rw [← hg, ← hik]; assumption), hs]) (by omega) hfr h_o h_a h_b h_c h_d hw (lv_sub hl [1, 2, 0] rfl)
        · refine lv_aload_n hx hb d_DR_countFaces_36 rfl (lv_at hl 0 rfl) ?_
          refine lv_iload_n hx hb d_DR_countFaces_37 rfl (lv_at hl 2 rfl) ?_
          refine zq_callV (As := [.int (iI i)]) (rest := []) ⟨hx, hb, hml, hown, hts⟩ (c_DR_goRound l D K Mq o aA bA cA dA pf pcs sp1 g cnt i h_o h_a h_b h_c h_d hbc had hcnt hpf (by rw [hg]; exact zcf_01 h01 k) ⟨by omega, by omega⟩) (cwV 1 hts (zg_V tw_295 tw_297 ts_8 tw_3 tw_298) rfl rfl rfl (by decide +kernel) ⟨Nat.le_of_ble_eq_true rfl, Nat.le_of_ble_eq_true rfl⟩) hZ hw hA h_o rfl rfl rfl rfl hl.1 (Nat.le_of_ble_eq_true rfl) d_DR_countFaces_38 ⟨Nat.le_of_ble_eq_true rfl, Nat.le_of_ble_eq_true rfl⟩ (fun v M3 H locs hp hw => ?_)
          obtain ⟨rfl, hs1, ho⟩ := hp
          have h_o : M3 o = some (.inr (4, [.ref aA, .ref bA, .ref cA, .ref dA])) := (ho _ (zq_ne h_o h_d (by simp))).trans h_o
          have h_a : M3 aA = some (cI (K 0) 48 pf) := (ho _ had).trans h_a
          have h_b : M3 bA = some (cI (K 0) 12 pcs) := (ho _ (zq_ne h_b h_d (by simp))).trans h_b
          have h_c : M3 cA = some (cI (K 0) 12 sp1) := (ho _ (zq_ne h_c h_d (by simp))).trans h_c
          have h_d : M3 dA = some (cI (K 2) 48 (zgo pf 48 i g)) := hs1
          have hfr : ∀ q, q ≠ dA → q ≠ cA → M3 q = M q := fun q g0 g1 => (ho q g0).trans (hfr q g0 g1)
          refine W.eq (g2 := F0 m 41 ls []) rfl ?_
          refine lv_aload_n hx hb d_DR_countFaces_41 rfl (lv_at hl 0 rfl) ?_
          refine lv_iload_n hx hb d_DR_countFaces_42 rfl (lv_at hl 2 rfl) ?_
          refine lv_iconst (v := iI 1) hx hb d_DR_countFaces_43 rfl ?_
          refine zq_callV (As := [.int (iI i), .int (iI 1)]) (rest := []) ⟨hx, hb, hml, hown, hts⟩ (c_DR_addSurplus l D K M3 o aA bA cA dA pf pcs sp1 (zgo pf 48 i g) i 1 h_o h_a h_b h_c h_d hbc had ⟨by omega, by omega⟩ (hpc _ (by omega) (by omega))) (cwV 2 hts (zg_V tw_299 tw_301 ts_9 tw_3 tw_302) rfl rfl rfl (by decide +kernel) ⟨Nat.le_of_ble_eq_true rfl, Nat.le_of_ble_eq_true rfl⟩) hZ hw hA h_o rfl rfl rfl rfl hl.1 (Nat.le_of_ble_eq_true rfl) d_DR_countFaces_44 ⟨Nat.le_of_ble_eq_true rfl, Nat.le_of_ble_eq_true rfl⟩ (fun v M4 H locs hp hw => ?_)
          obtain ⟨rfl, hs1, ho⟩ := hp
          have h_o : M4 o = some (.inr (4, [.ref aA, .ref bA, .ref cA, .ref dA])) := (ho _ (zq_ne h_o h_c (by simp))).trans h_o
          have h_a : M4 aA = some (cI (K 0) 48 pf) := (ho _ (zq_ne h_a h_c (by simp))).trans h_a
          have h_b : M4 bA = some (cI (K 0) 12 pcs) := (ho _ hbc).trans h_b
          have h_d : M4 dA = some (cI (K 2) 48 (zgo pf 48 i g)) := (ho _ (zq_ne h_d h_c (by simp))).trans h_d
          have h_c : M4 cA = some (cI (K 0) 12 (zu sp1 (pcs (i / 4)) (sp1 (pcs (i / 4)) + 1))) := hs1
          have hfr : ∀ q, q ≠ dA → q ≠ cA → M4 q = M q := fun q g0 g1 => (ho q g1).trans (hfr q g0 g1)
          refine W.eq (g2 := F0 m 47 ls []) rfl ?_
          refine lv_iinc (v := iI (i + 1)) (lv' := [(2, .int (iI (i + 1))), (0, .ref o), (1, .int (iI (4 * cnt)))]) hx hb d_DR_countFaces_47 hl (k := 2) rfl (iI_add _ _) (by decide) rfl (fun ls hl => ?_)
          refine lv_goto (tgt := 22) hx hb d_DR_countFaces_50 (by decide) ?_
          exact ih_hL2 (k + 1) (i + 1) (zgo pf 48 i g) (zu sp1 (pcs (i / 4)) (sp1 (pcs (i / 4)) + 1)) M4 _ _ _ (by omega) (by omega) (by rw [zcf_pos (by rw [← hg, ← hik]; assumption), hg, hik]) (by rw [zcf_pos (by rw [← hg, ← hik]; assumption), hs, hik]) (by omega) hfr h_o h_a h_b h_c h_d hw (lv_sub hl [1, 2, 0] rfl)
  have hL1 : ∀ (n : Nat) (i : Int) (g : Int → Int) (Mq : zq_M) (H : Heap) (locs : List Loc) (ls : Array Slot), (0 ≤ i ∧ i ≤ 4 * cnt) → (∀ z, g z = if 0 ≤ z ∧ z < i then 0 else sn z) → (4 * cnt - i).toNat < n → (∀ q, q ≠ dA → q ≠ cA → Mq q = M q) → Mq o = some (.inr (4, [.ref aA, .ref bA, .ref cA, .ref dA])) → Mq aA = some (cI (K 0) 48 pf) → Mq bA = some (cI (K 0) 12 pcs) → Mq cA = some (cI (K 0) 12 (fun _ => 0)) → Mq dA = some (cI (K 2) 48 g) → zq_W D vwCl A s.heap Mq H locs → lv_has ls 3 [(0, .ref o), (1, .int (iI (4 * cnt))), (2, .int (iI i))] → W p l e ({ frames := 2, cells := 0, slots := 0, locals := 45 } : Room) s m [.ref o, .int (iI (4 * cnt))].toArray below meth co H locs 0 0 (MQ below (zq_Q D vwCl (zT K) (P_DR_countFaces K M o aA bA cA dA pf pcs sn cnt) A) [.ref o, .int (iI (4 * cnt))].toArray s 0 0 A) (F0 m 2 ls []) := by
    intro n
    induction n with
    | zero =>
      intro i g Mq H locs ls hi hg hms hfr h_o h_a h_b h_c h_d hw hl
      exact absurd hms (Nat.not_lt_zero _)
    | succ n ih_hL1 =>
      intro i g Mq H locs ls hi hg hms hfr h_o h_a h_b h_c h_d hw hl
      refine lv_iload_n hx hb d_DR_countFaces_2 rfl (lv_at hl 2 rfl) ?_
      refine lv_iload_n hx hb d_DR_countFaces_3 rfl (lv_at hl 1 rfl) ?_
      refine zq_icmp_ge (tgt := 20) hx hb d_DR_countFaces_4 (by decide) ⟨by omega, by omega⟩ ⟨by omega, by omega⟩ (fun hc5 => ?_) (fun hc5 => ?_)
      · refine lv_iconst (v := iI 0) hx hb d_DR_countFaces_20 rfl ?_
        refine lv_istore_n (lv' := [(2, .int (iI 0)), (0, .ref o), (1, .int (iI (4 * cnt)))]) hx hb d_DR_countFaces_21 rfl hl (by decide) rfl (fun ls hl => ?_)
        exact hL2 _ 0 0 g (fun _ => 0) Mq _ _ _ rfl (by omega) (funext fun z => by rw [hg, show i = 4 * cnt from by omega]; rfl) rfl (Nat.lt_succ_self _) hfr h_o h_a h_b h_c h_d hw (lv_sub hl [1, 2, 0] rfl)
      · refine lv_aload_n hx hb d_DR_countFaces_7 rfl (lv_at hl 0 rfl) ?_
        refine zq_get hx hb hts i_DR hown hK hw h_o rfl 3 (by decide) (hts _ tw_48) rfl d_DR_countFaces_8 ?_
        refine lv_iload_n hx hb d_DR_countFaces_11 rfl (lv_at hl 2 rfl) ?_
        refine lv_iconst (v := iI 0) hx hb d_DR_countFaces_12 rfl ?_
        refine zq_zast hx hb hK hw 2 h_d rfl (by omega) (by omega) (by decide) (by decide) d_DR_countFaces_13 (fun M6 H locs hs ho hw => ?_)
        have h_o : M6 o = some (.inr (4, [.ref aA, .ref bA, .ref cA, .ref dA])) := (ho _ (zq_ne h_o h_d (by simp))).trans h_o
        have h_a : M6 aA = some (cI (K 0) 48 pf) := (ho _ had).trans h_a
        have h_b : M6 bA = some (cI (K 0) 12 pcs) := (ho _ (zq_ne h_b h_d (by simp))).trans h_b
        have h_c : M6 cA = some (cI (K 0) 12 (fun _ => 0)) := (ho _ (zq_ne h_c h_d (by simp))).trans h_c
        have h_d : M6 dA = some (cI (K 2) 48 (zu g i 0)) := hs
        have hfr : ∀ q, q ≠ dA → q ≠ cA → M6 q = M q := fun q g0 g1 => (ho q g0).trans (hfr q g0 g1)
        refine lv_iinc (v := iI (i + 1)) (lv' := [(2, .int (iI (i + 1))), (0, .ref o), (1, .int (iI (4 * cnt)))]) hx hb d_DR_countFaces_14 hl (k := 2) rfl (iI_add _ _) (by decide) rfl (fun ls hl => ?_)
        refine lv_goto (tgt := 2) hx hb d_DR_countFaces_17 (by decide) ?_
        exact ih_hL1 (i + 1) (zu g i 0) M6 _ _ _ (by omega) (fun z => by by_cases q : z = i; rw [q, zu_self, if_pos (by omega)]; rw [zu_ne _ _ q, hg]; by_cases q2 : 0 ≤ z ∧ z < i; rw [if_pos q2, if_pos (by omega)]; rw [if_neg q2, if_neg (by omega)]) (by omega) hfr h_o h_a h_b h_c h_d hw (lv_sub hl [1, 2, 0] rfl)
  refine lv_iconst (v := iI 0) hx hb d_DR_countFaces_0 rfl ?_
  refine lv_istore_n (lv' := [(2, .int (iI 0)), (0, .ref o), (1, .int (iI (4 * cnt)))]) hx hb d_DR_countFaces_1 rfl hl (by decide) rfl (fun ls hl => ?_)
  exact hL1 _ 0 sn M _ _ _ (by omega) (fun z => by rw [if_neg (by omega)]) (Nat.lt_succ_self _) hfr h_o h_a h_b h_c h_d hw (lv_sub hl [1, 2, 0] rfl)
abbrev P_DR_piecesAreSpheres (K : Nat → ClassId) (M : zq_M) (o : Nat) (aA : Nat) (bA : Nat) (cA : Nat) (dA : Nat) (pf : Int → Int) (pcs : Int → Int) (sp : Int → Int) (sn : Int → Int) (cnt : Int) : Option Value → zq_M → Prop := fun v M' => ∃ r sn' sp', v = some (.int (iI r)) ∧ ((r = 1 ∧ ∀ j, 0 ≤ j → j < cnt → zsb pcs (zcf pf pcs (fun z => if 0 ≤ z ∧ z < 4 * cnt then 0 else sn z) (4 * cnt).toNat).2 cnt.toNat (pcs j) = 2) ∨ (r = 0 ∧ ¬ ∀ j, 0 ≤ j → j < cnt → zsb pcs (zcf pf pcs (fun z => if 0 ≤ z ∧ z < 4 * cnt then 0 else sn z) (4 * cnt).toNat).2 cnt.toNat (pcs j) = 2)) ∧ (∀ z, sn' z = 0 ∨ sn' z = 1) ∧ (∀ z, inI (sp' z)) ∧ M' dA = some (cI (K 2) 48 sn') ∧ M' cA = some (cI (K 0) 12 sp') ∧ ∀ q, q ≠ dA → q ≠ cA → M' q = M q
set_option maxHeartbeats 4000000 in
set_option maxRecDepth 100000 in
theorem c_DR_piecesAreSpheres (l : Launch) (D : va_G) (K : Nat → ClassId) (M : zq_M) (o : Nat) (aA : Nat) (bA : Nat) (cA : Nat) (dA : Nat) (pf : Int → Int) (pcs : Int → Int) (sp : Int → Int) (sn : Int → Int) (cnt : Int) (h_o : M o = some (.inr (4, [.ref aA, .ref bA, .ref cA, .ref dA]))) (h_a : M aA = some (cI (K 0) 48 pf)) (h_b : M bA = some (cI (K 0) 12 pcs)) (h_c : M cA = some (cI (K 0) 12 sp)) (h_d : M dA = some (cI (K 2) 48 sn)) (hbc : bA ≠ cA) (had : aA ≠ dA) (hcnt : 0 ≤ cnt ∧ cnt ≤ 12) (hpf : ∀ z, 0 ≤ z → z < 4 * cnt → 0 ≤ pf z ∧ pf z < 4 * cnt) (hsn : ∀ z, sn z = 0 ∨ sn z = 1) (hpc : ∀ z, 0 ≤ z → z < 12 → 0 ≤ pcs z ∧ pcs z < 12) : zq_Met l y_DR_piecesAreSpheres (.code y_DR_piecesAreSpheres b_DR_piecesAreSpheres 4 (some .boolean) :: lw_gd) { frames := 3, cells := 0, slots := 0, locals := 67 } D vwCl (zT K) [.ref o, .int (iI (4 * cnt))] M (P_DR_piecesAreSpheres K M o aA bA cA dA pf pcs sp sn cnt) 0 0 := by
  refine zq_start (cc := b_DR_piecesAreSpheres) (maxL := 4) (ret := (some .boolean)) (by decide) rfl (Nat.le_of_ble_eq_true rfl) ?_
  intro p e s m below meth co A ls hx hb hr hml hts hown hnm hlocks hA hZ hw hl
  have hts : ∀ w ∈ lw_gd, w.before [.ref o, .int (iI (4 * cnt))].toArray s = true := fun w h => hts w (List.mem_cons_of_mem _ h)
  have hown : s.vm.findClass R_DR = some m.cls := hown
  have hK := hZ.1
  have hl : lv_has ls 4 [(0, .ref o), (1, .int (iI (4 * cnt)))] := hl
  have hfr : ∀ q, q ≠ dA → q ≠ cA → M q = M q := fun q _ _ => rfl
  have h01 : ∀ z, (fun z => if 0 ≤ z ∧ z < 4 * cnt then 0 else sn z) z = 0 ∨ (fun z => if 0 ≤ z ∧ z < 4 * cnt then 0 else sn z) z = 1 := fun z => by show (if 0 ≤ z ∧ z < 4 * cnt then (0 : Int) else sn z) = 0 ∨ (if 0 ≤ z ∧ z < 4 * cnt then (0 : Int) else sn z) = 1; split; exact Or.inl rfl; exact hsn z
  have hbd : ∀ (k : Nat) z, -(k : Int) ≤ zsb pcs (zcf pf pcs (fun z => if 0 ≤ z ∧ z < 4 * cnt then 0 else sn z) (4 * cnt).toNat).2 k z ∧ zsb pcs (zcf pf pcs (fun z => if 0 ≤ z ∧ z < 4 * cnt then 0 else sn z) (4 * cnt).toNat).2 k z ≤ (4 * cnt).toNat := fun k z => zsb_bd (fun z => zcf_bd _ z) k z
  have hpp : ∀ z, inI (zsb pcs (zcf pf pcs (fun z => if 0 ≤ z ∧ z < 4 * cnt then 0 else sn z) (4 * cnt).toNat).2 cnt.toNat z) := fun z => by have := hbd cnt.toNat z; exact ⟨by omega, by omega⟩
  have hL2 : ∀ (n : Nat) (k : Nat) (i : Int) (sp1 : Int → Int) (Mq : zq_M) (H : Heap) (locs : List Loc) (ls : Array Slot), (i = 4 * k) → (i ≤ 4 * cnt) → (sp1 = zsb pcs (zcf pf pcs (fun z => if 0 ≤ z ∧ z < 4 * cnt then 0 else sn z) (4 * cnt).toNat).2 cnt.toNat) → (∀ j, 0 ≤ j → j < (k : Int) → sp1 (pcs j) = 2) → (4 * cnt - i).toNat < n → (∀ q, q ≠ dA → q ≠ cA → Mq q = M q) → Mq o = some (.inr (4, [.ref aA, .ref bA, .ref cA, .ref dA])) → Mq aA = some (cI (K 0) 48 pf) → Mq bA = some (cI (K 0) 12 pcs) → Mq cA = some (cI (K 0) 12 sp1) → Mq dA = some (cI (K 2) 48 ((zcf pf pcs (fun z => if 0 ≤ z ∧ z < 4 * cnt then 0 else sn z) (4 * cnt).toNat).1)) → zq_W D vwCl A s.heap Mq H locs → lv_has ls 4 [(0, .ref o), (1, .int (iI (4 * cnt))), (2, .int (iI i))] → W p l e ({ frames := 3, cells := 0, slots := 0, locals := 67 } : Room) s m [.ref o, .int (iI (4 * cnt))].toArray below meth co H locs 0 0 (MQ below (zq_Q D vwCl (zT K) (P_DR_piecesAreSpheres K M o aA bA cA dA pf pcs sp sn cnt) A) [.ref o, .int (iI (4 * cnt))].toArray s 0 0 A) (F0 m 34 ls []) := by
    intro n
    induction n with
    | zero =>
      intro k i sp1 Mq H locs ls hik hi hs h2 hms hfr h_o h_a h_b h_c h_d hw hl
      exact absurd hms (Nat.not_lt_zero _)
    | succ n ih_hL2 =>
      intro k i sp1 Mq H locs ls hik hi hs h2 hms hfr h_o h_a h_b h_c h_d hw hl
      refine lv_iload_n hx hb d_DR_piecesAreSpheres_34 rfl (lv_at hl 2 rfl) ?_
      refine lv_iload_n hx hb d_DR_piecesAreSpheres_35 rfl (lv_at hl 1 rfl) ?_
      refine zq_icmp_ge (tgt := 73) hx hb d_DR_piecesAreSpheres_36 (by decide) ⟨by omega, by omega⟩ ⟨by omega, by omega⟩ (fun hc1 => ?_) (fun hc1 => ?_)
      · refine lv_iconst (v := iI 1) hx hb d_DR_piecesAreSpheres_73 rfl ?_
        exact zq_zret hx hb hr rfl hlocks hZ hw ⟨_, _, _, rfl, Or.inl ⟨rfl, fun j h1 h3 => by rw [← hs]; exact h2 j h1 (by omega)⟩, zcf_01 h01 _, (by rw [hs]; exact hpp), h_d, h_c, hfr⟩ d_DR_piecesAreSpheres_74
      · refine lv_aload_n hx hb d_DR_piecesAreSpheres_39 rfl (lv_at hl 0 rfl) ?_
        refine lv_iload_n hx hb d_DR_piecesAreSpheres_40 rfl (lv_at hl 2 rfl) ?_
        refine zq_callV (As := [.int (iI i)]) (rest := []) ⟨hx, hb, hml, hown, hts⟩ (c_DR_pieceAt l D K Mq o aA bA cA dA pf pcs sp1 ((zcf pf pcs (fun z => if 0 ≤ z ∧ z < 4 * cnt then 0 else sn z) (4 * cnt).toNat).1) i h_o h_a h_b h_c h_d hbc had ⟨by omega, by omega⟩) (cwV 1 hts (zg_V tw_280 tw_282 ts_5 tw_3 tw_283) rfl rfl rfl (by decide +kernel) ⟨Nat.le_of_ble_eq_true rfl, Nat.le_of_ble_eq_true rfl⟩) hZ hw hA h_o rfl rfl rfl rfl hl.1 (Nat.le_of_ble_eq_true rfl) d_DR_piecesAreSpheres_41 ⟨Nat.le_of_ble_eq_true rfl, Nat.le_of_ble_eq_true rfl⟩ (fun v M2 H locs hp hw => ?_)
        obtain ⟨rfl, hMe⟩ := hp
        rw [hMe] at hw
        refine W.eq (g2 := F0 m 44 ls [.int (iI (pcs (i / 4)))]) rfl ?_
        refine lv_istore_n (lv' := [(3, .int (iI (pcs (i / 4)))), (0, .ref o), (1, .int (iI (4 * cnt))), (2, .int (iI i))]) hx hb d_DR_piecesAreSpheres_44 rfl hl (by decide) rfl (fun ls hl => ?_)
        have hpi := hpc (i / 4) (by omega) (by omega)
        refine lv_iload_n hx hb d_DR_piecesAreSpheres_45 rfl (lv_at hl 0 rfl) ?_
        refine zq_if_lt (tgt := 65) hx hb d_DR_piecesAreSpheres_46 (by decide) ⟨by omega, by omega⟩ (fun hc3 => ?_) (fun hc3 => ?_)
        · exact absurd hc3 (by omega)
        · refine lv_iload_n hx hb d_DR_piecesAreSpheres_49 rfl (lv_at hl 0 rfl) ?_
          refine lv_bipush (v := iI 12) hx hb d_DR_piecesAreSpheres_50 (by decide) ?_
          refine zq_icmp_ge (tgt := 65) hx hb d_DR_piecesAreSpheres_52 (by decide) ⟨by omega, by omega⟩ (by decide) (fun hc4 => ?_) (fun hc4 => ?_)
          · exact absurd hc4 (by omega)
          · refine lv_aload_n hx hb d_DR_piecesAreSpheres_55 rfl (lv_at hl 1 rfl) ?_
            refine zq_get hx hb hts i_DR hown hK hw h_o rfl 2 (by decide) (hts _ tw_47) rfl d_DR_piecesAreSpheres_56 ?_
            refine lv_iload_n hx hb d_DR_piecesAreSpheres_59 rfl (lv_at hl 0 rfl) ?_
            refine zq_iald hx hb hK hw 0 h_c rfl (by omega) (by omega) (by decide) d_DR_piecesAreSpheres_60 ?_
            refine lv_iconst (v := iI 2) hx hb d_DR_piecesAreSpheres_61 rfl ?_
            refine zq_icmp_eq (tgt := 67) hx hb d_DR_piecesAreSpheres_62 (by decide) (by rw [hs]; exact hpp _) (by decide) (fun hc5 => ?_) (fun hc5 => ?_)
            · refine lv_iinc (v := iI (i + 4)) (lv' := [(2, .int (iI (i + 4))), (3, .int (iI (pcs (i / 4)))), (0, .ref o), (1, .int (iI (4 * cnt)))]) hx hb d_DR_piecesAreSpheres_67 hl (k := 3) rfl (iI_add _ _) (by decide) rfl (fun ls hl => ?_)
              refine lv_goto (tgt := 34) hx hb d_DR_piecesAreSpheres_70 (by decide) ?_
              exact ih_hL2 (k + 1) (i + 4) sp1 Mq _ _ _ (by omega) (by omega) hs (fun j h1 h3 => by by_cases q : j = k; rw [q, ← show i / 4 = (k : Int) from by omega]; assumption; exact h2 j h1 (by omega)) (by omega) hfr h_o h_a h_b h_c h_d hw (lv_sub hl [2, 3, 0] rfl)
            · refine lv_iconst (v := iI 0) hx hb d_DR_piecesAreSpheres_65 rfl ?_
              exact zq_zret hx hb hr rfl hlocks hZ hw ⟨_, _, _, rfl, Or.inr ⟨rfl, fun z => by have z2 := z (i / 4) (by omega) (by omega); rw [← hs] at z2; exact absurd z2 (by assumption)⟩, zcf_01 h01 _, (by rw [hs]; exact hpp), h_d, h_c, hfr⟩ d_DR_piecesAreSpheres_66
  have hL1 : ∀ (n : Nat) (k : Nat) (i : Int) (sp1 : Int → Int) (Mq : zq_M) (H : Heap) (locs : List Loc) (ls : Array Slot), (i = 4 * k) → (i ≤ 4 * cnt) → (sp1 = zsb pcs (zcf pf pcs (fun z => if 0 ≤ z ∧ z < 4 * cnt then 0 else sn z) (4 * cnt).toNat).2 k) → (4 * cnt - i).toNat < n → (∀ q, q ≠ dA → q ≠ cA → Mq q = M q) → Mq o = some (.inr (4, [.ref aA, .ref bA, .ref cA, .ref dA])) → Mq aA = some (cI (K 0) 48 pf) → Mq bA = some (cI (K 0) 12 pcs) → Mq cA = some (cI (K 0) 12 sp1) → Mq dA = some (cI (K 2) 48 ((zcf pf pcs (fun z => if 0 ≤ z ∧ z < 4 * cnt then 0 else sn z) (4 * cnt).toNat).1)) → zq_W D vwCl A s.heap Mq H locs → lv_has ls 4 [(0, .ref o), (1, .int (iI (4 * cnt))), (2, .int (iI i))] → W p l e ({ frames := 3, cells := 0, slots := 0, locals := 67 } : Room) s m [.ref o, .int (iI (4 * cnt))].toArray below meth co H locs 0 0 (MQ below (zq_Q D vwCl (zT K) (P_DR_piecesAreSpheres K M o aA bA cA dA pf pcs sp sn cnt) A) [.ref o, .int (iI (4 * cnt))].toArray s 0 0 A) (F0 m 15 ls []) := by
    intro n
    induction n with
    | zero =>
      intro k i sp1 Mq H locs ls hik hi hs hms hfr h_o h_a h_b h_c h_d hw hl
      exact absurd hms (Nat.not_lt_zero _)
    | succ n ih_hL1 =>
      intro k i sp1 Mq H locs ls hik hi hs hms hfr h_o h_a h_b h_c h_d hw hl
      refine lv_iload_n hx hb d_DR_piecesAreSpheres_15 rfl (lv_at hl 2 rfl) ?_
      refine lv_iload_n hx hb d_DR_piecesAreSpheres_16 rfl (lv_at hl 1 rfl) ?_
      refine zq_icmp_ge (tgt := 32) hx hb d_DR_piecesAreSpheres_17 (by decide) ⟨by omega, by omega⟩ ⟨by omega, by omega⟩ (fun hc6 => ?_) (fun hc6 => ?_)
      · refine lv_iconst (v := iI 0) hx hb d_DR_piecesAreSpheres_32 rfl ?_
        refine lv_istore_n (lv' := [(2, .int (iI 0)), (0, .ref o), (1, .int (iI (4 * cnt)))]) hx hb d_DR_piecesAreSpheres_33 rfl hl (by decide) rfl (fun ls hl => ?_)
        exact hL2 _ 0 0 sp1 Mq _ _ _ rfl (by omega) (by rw [hs, show cnt.toNat = k from by omega]) (fun j h1 h2 => by omega) (Nat.lt_succ_self _) hfr h_o h_a h_b h_c h_d hw (lv_sub hl [1, 2, 0] rfl)
      · refine lv_aload_n hx hb d_DR_piecesAreSpheres_20 rfl (lv_at hl 0 rfl) ?_
        refine lv_iload_n hx hb d_DR_piecesAreSpheres_21 rfl (lv_at hl 2 rfl) ?_
        refine lv_iconst (v := iI (-1)) hx hb d_DR_piecesAreSpheres_22 rfl ?_
        refine zq_callV (As := [.int (iI i), .int (iI (-1))]) (rest := []) ⟨hx, hb, hml, hown, hts⟩ (c_DR_addSurplus l D K Mq o aA bA cA dA pf pcs sp1 ((zcf pf pcs (fun z => if 0 ≤ z ∧ z < 4 * cnt then 0 else sn z) (4 * cnt).toNat).1) i (-1) h_o h_a h_b h_c h_d hbc had ⟨by omega, by omega⟩ (hpc _ (by omega) (by omega))) (cwV 2 hts (zg_V tw_299 tw_301 ts_9 tw_3 tw_302) rfl rfl rfl (by decide +kernel) ⟨Nat.le_of_ble_eq_true rfl, Nat.le_of_ble_eq_true rfl⟩) hZ hw hA h_o rfl rfl rfl rfl hl.1 (Nat.le_of_ble_eq_true rfl) d_DR_piecesAreSpheres_23 ⟨Nat.le_of_ble_eq_true rfl, Nat.le_of_ble_eq_true rfl⟩ (fun v M7 H locs hp hw => ?_)
        obtain ⟨rfl, hs1, ho⟩ := hp
        have h_o : M7 o = some (.inr (4, [.ref aA, .ref bA, .ref cA, .ref dA])) := (ho _ (zq_ne h_o h_c (by simp))).trans h_o
        have h_a : M7 aA = some (cI (K 0) 48 pf) := (ho _ (zq_ne h_a h_c (by simp))).trans h_a
        have h_b : M7 bA = some (cI (K 0) 12 pcs) := (ho _ hbc).trans h_b
        have h_d : M7 dA = some (cI (K 2) 48 ((zcf pf pcs (fun z => if 0 ≤ z ∧ z < 4 * cnt then 0 else sn z) (4 * cnt).toNat).1)) := (ho _ (zq_ne h_d h_c (by simp))).trans h_d
        have h_c : M7 cA = some (cI (K 0) 12 (zu sp1 (pcs (i / 4)) (sp1 (pcs (i / 4)) + (-1)))) := hs1
        have hfr : ∀ q, q ≠ dA → q ≠ cA → M7 q = M q := fun q g0 g1 => (ho q g1).trans (hfr q g0 g1)
        refine W.eq (g2 := F0 m 26 ls []) rfl ?_
        refine lv_iinc (v := iI (i + 4)) (lv' := [(2, .int (iI (i + 4))), (0, .ref o), (1, .int (iI (4 * cnt)))]) hx hb d_DR_piecesAreSpheres_26 hl (k := 2) rfl (iI_add _ _) (by decide) rfl (fun ls hl => ?_)
        refine lv_goto (tgt := 15) hx hb d_DR_piecesAreSpheres_29 (by decide) ?_
        exact ih_hL1 (k + 1) (i + 4) (zu sp1 (pcs (i / 4)) (sp1 (pcs (i / 4)) + (-1))) M7 _ _ _ (by omega) (by omega) (by rw [hs, show i / 4 = (k : Int) from by omega]; rfl) (by omega) hfr h_o h_a h_b h_c h_d hw (lv_sub hl [1, 2, 0] rfl)
  refine lv_aload_n hx hb d_DR_piecesAreSpheres_0 rfl (lv_at hl 0 rfl) ?_
  refine zq_get hx hb hts i_DR hown hK hw h_o rfl 2 (by decide) (hts _ tw_47) rfl d_DR_piecesAreSpheres_1 ?_
  refine lv_iconst (v := iI 0) hx hb d_DR_piecesAreSpheres_4 rfl ?_
  refine zq_callS (b := 0) (C := "") (As := [.ref cA, .int (iI 0)]) (rest := []) ⟨hx, hb, hml, hown, hts⟩ (c_JA_fill l D K M cA 12 sp 0 h_c (by decide)) (va_cwS 2 hts (zg_T tw_288 tw_289 tw_12 tw_290) rfl rfl rfl (by decide +kernel) ⟨Nat.le_of_ble_eq_true rfl, Nat.le_of_ble_eq_true rfl⟩) hZ hw hA rfl rfl hl.1 (Nat.le_of_ble_eq_true rfl) d_DR_piecesAreSpheres_5 ⟨Nat.le_of_ble_eq_true rfl, Nat.le_of_ble_eq_true rfl⟩ (fun v M8 H locs hp hw => ?_)
  obtain ⟨rfl, hs1, ho⟩ := hp
  have h_o : M8 o = some (.inr (4, [.ref aA, .ref bA, .ref cA, .ref dA])) := (ho _ (zq_ne h_o h_c (by simp))).trans h_o
  have h_a : M8 aA = some (cI (K 0) 48 pf) := (ho _ (zq_ne h_a h_c (by simp))).trans h_a
  have h_b : M8 bA = some (cI (K 0) 12 pcs) := (ho _ hbc).trans h_b
  have h_d : M8 dA = some (cI (K 2) 48 sn) := (ho _ (zq_ne h_d h_c (by simp))).trans h_d
  have h_c : M8 cA = some (cI (K 0) 12 (fun _ => 0)) := hs1
  have hfr : ∀ q, q ≠ dA → q ≠ cA → M8 q = M q := fun q g0 g1 => (ho q g1).trans (hfr q g0 g1)
  refine W.eq (g2 := F0 m 8 ls []) rfl ?_
  refine lv_aload_n hx hb d_DR_piecesAreSpheres_8 rfl (lv_at hl 0 rfl) ?_
  refine lv_iload_n hx hb d_DR_piecesAreSpheres_9 rfl (lv_at hl 1 rfl) ?_
  refine zq_callV (As := [.int (iI (4 * cnt))]) (rest := []) ⟨hx, hb, hml, hown, hts⟩ (c_DR_countFaces l D K M8 o aA bA cA dA pf pcs sn cnt h_o h_a h_b h_c h_d hbc had hcnt hpf hsn hpc) (cwV 1 hts (zg_V tw_291 tw_293 ts_7 tw_3 tw_294) rfl rfl rfl (by decide +kernel) ⟨Nat.le_of_ble_eq_true rfl, Nat.le_of_ble_eq_true rfl⟩) hZ hw hA h_o rfl rfl rfl rfl hl.1 (Nat.le_of_ble_eq_true rfl) d_DR_piecesAreSpheres_10 ⟨Nat.le_of_ble_eq_true rfl, Nat.le_of_ble_eq_true rfl⟩ (fun v M9 H locs hp hw => ?_)
  obtain ⟨rfl, hs1, hs2, ho⟩ := hp
  have h_o : M9 o = some (.inr (4, [.ref aA, .ref bA, .ref cA, .ref dA])) := (ho _ (zq_ne h_o h_d (by simp)) (zq_ne h_o h_c (by simp))).trans h_o
  have h_a : M9 aA = some (cI (K 0) 48 pf) := (ho _ had (zq_ne h_a h_c (by simp))).trans h_a
  have h_b : M9 bA = some (cI (K 0) 12 pcs) := (ho _ (zq_ne h_b h_d (by simp)) hbc).trans h_b
  have h_d : M9 dA = some (cI (K 2) 48 ((zcf pf pcs (fun z => if 0 ≤ z ∧ z < 4 * cnt then 0 else sn z) (4 * cnt).toNat).1)) := hs1
  have h_c : M9 cA = some (cI (K 0) 12 ((zcf pf pcs (fun z => if 0 ≤ z ∧ z < 4 * cnt then 0 else sn z) (4 * cnt).toNat).2)) := hs2
  have hfr : ∀ q, q ≠ dA → q ≠ cA → M9 q = M q := fun q g0 g1 => (ho q g0 g1).trans (hfr q g0 g1)
  refine W.eq (g2 := F0 m 13 ls []) rfl ?_
  refine lv_iconst (v := iI 0) hx hb d_DR_piecesAreSpheres_13 rfl ?_
  refine lv_istore_n (lv' := [(2, .int (iI 0)), (0, .ref o), (1, .int (iI (4 * cnt)))]) hx hb d_DR_piecesAreSpheres_14 rfl hl (by decide) rfl (fun ls hl => ?_)
  exact hL1 _ 0 0 ((zcf pf pcs (fun z => if 0 ≤ z ∧ z < 4 * cnt then 0 else sn z) (4 * cnt).toNat).2) M9 _ _ _ rfl (by omega) rfl (Nat.lt_succ_self _) hfr h_o h_a h_b h_c h_d hw (lv_sub hl [1, 2, 0] rfl)
