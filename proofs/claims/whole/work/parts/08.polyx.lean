abbrev P_PO_init (K : Nat → ClassId) (M : zq_M) (o : Nat) : Option Value → zq_M → Prop := fun v M' => v = none ∧ ∃ b, M b = none ∧ b ≠ o ∧ M' o = some (.inr (8, [.ref b, .int (iI (-1))])) ∧ M' b = some (cJ (K 1) 25 (fun _ => 0)) ∧ ∀ q, q ≠ o → q ≠ b → M' q = M q
set_option maxHeartbeats 4000000 in
set_option maxRecDepth 100000 in
theorem c_PO_init (l : Launch) (D : va_G) (K : Nat → ClassId) (M : zq_M) (o : Nat) (h_o : M o = some (.inr (8, [.null, .int (iI 0)]))) : zq_Met l y_PO_init (.code y_PO_init b_PO_init 1 none :: lw_gd) { frames := 1, cells := 1, slots := 25, locals := 12 } D vwCl (zT K) [.ref o] M (P_PO_init K M o) 1 25 := by
  refine zq_start (cc := b_PO_init) (maxL := 1) (ret := none) (by decide) rfl (Nat.le_of_ble_eq_true rfl) ?_
  intro p e s m below meth c A ls hx hb hr hml hts hown hnm hlocks hA hZ hw hl
  have hts : ∀ w ∈ lw_gd, w.before [.ref o].toArray s = true := fun w h => hts w (List.mem_cons_of_mem _ h)
  have hown : s.vm.findClass R_PO = some m.cls := hown
  have hK := hZ.1
  have hnm : meth.name = "<init>" := hnm
  have hl : lv_has ls 1 [(0, .ref o)] := hl
  have hfr : ∀ q, q ≠ o → M q = M q := fun q _ => rfl
  refine lv_aload_n hx hb d_PO_init_0 rfl (lv_at hl 0 rfl) ?_
  refine W.objInit hx hb hown (hts _ tw_120) (hts _ tw_20) (hts _ tw_21) rfl (by rw [hml]; exact hl.1) rfl d_PO_init_1 (Nat.le_of_ble_eq_true rfl) (Nat.le_of_ble_eq_true rfl) ?_
  refine W.eq (g2 := F0 m 4 ls []) rfl ?_
  refine lv_aload_n hx hb d_PO_init_4 rfl (lv_at hl 0 rfl) ?_
  refine lv_bipush (v := iI 25) hx hb d_PO_init_5 (by decide) ?_
  refine zq_newJ hx hb (hts _ tw_128) hK hw hA 1 rfl (N' := 25) rfl (by decide) (Nat.le_of_ble_eq_true rfl) (Nat.le_of_ble_eq_true rfl) d_PO_init_7 (fun b M1 H hqb hs ho hw => ?_)
  have hmb : M b = none := (hfr b (zq_nn hqb h_o).symm).symm.trans hqb
  have h_o : M1 o = some (.inr (8, [.null, .int (iI 0)])) := (ho _ (zq_nn hqb h_o)).trans h_o
  have h_b : M1 b = some (cJ (K 1) 25 (fun _ => 0)) := hs
  have hfr : ∀ x, x ≠ o → x ≠ b → M1 x = M x := fun x g0 g1 => (ho x g1).trans (hfr x g0)
  refine zq_putF (ci := 8) (v := .ref b) (ty := .array .long) hx hb hts i_PO t_PO t_PO_ok n_PO hown hK hw h_o rfl 0 (by decide) (hts _ tw_121) rfl hnm rfl (by decide +kernel) rfl rfl (Nat.le_of_ble_eq_true rfl) d_PO_init_9 (fun M2 H locs hs ho hw => ?_)
  have h_b : M2 b = some (cJ (K 1) 25 (fun _ => 0)) := (ho _ (zq_ne h_b h_o (by simp))).trans h_b
  have h_o : M2 o = some (.inr (8, [.ref b, .int (iI 0)])) := hs
  have hfr : ∀ q, q ≠ o → q ≠ b → M2 q = M q := fun q g0 g1 => (ho q g0).trans (hfr q g0 g1)
  refine lv_aload_n hx hb d_PO_init_12 rfl (lv_at hl 0 rfl) ?_
  refine lv_iconst (v := iI (-1)) hx hb d_PO_init_13 rfl ?_
  refine zq_put (ci := 8) (v := .int (iI (-1))) (ty := .int) hx hb hts i_PO t_PO t_PO_ok n_PO hown hK hw h_o rfl 1 (by decide) (hts _ tw_122) rfl (by decide +kernel) rfl rfl (Nat.le_of_ble_eq_true rfl) d_PO_init_14 (fun M3 H locs hs ho hw => ?_)
  have h_b : M3 b = some (cJ (K 1) 25 (fun _ => 0)) := (ho _ (zq_ne h_b h_o (by simp))).trans h_b
  have h_o : M3 o = some (.inr (8, [.ref b, .int (iI (-1))])) := hs
  have hfr : ∀ q, q ≠ o → q ≠ b → M3 q = M q := fun q g0 g1 => (ho q g0).trans (hfr q g0 g1)
  exact zq_vret hx hb hr hlocks hZ hw ⟨rfl, b, hmb, zq_ne h_b h_o (by simp), h_o, h_b, hfr⟩ d_PO_init_17
abbrev P_PO_addShifted (K : Nat → ClassId) (M : zq_M) (o : Nat) (b : Nat) (o2 : Nat) (b2 : Nat) (d : Int) (f : Int → Int) (d2 : Int) (g : Int → Int) (sh : Int) (fc : Int) : Option Value → zq_M → Prop := fun v M' => v = none ∧ M' o = some (.inr (8, [.ref b, .int (iI (zad d d2 sh fc))])) ∧ M' b = some (cJ (K 1) 25 (fun j => f j + fc * g (j - sh))) ∧ ∀ q, q ≠ o → q ≠ b → M' q = M q
set_option maxHeartbeats 4000000 in
set_option maxRecDepth 100000 in
theorem c_PO_addShifted (l : Launch) (D : va_G) (K : Nat → ClassId) (M : zq_M) (o : Nat) (b : Nat) (o2 : Nat) (b2 : Nat) (d : Int) (f : Int → Int) (d2 : Int) (g : Int → Int) (sh : Int) (fc : Int) (h_o : M o = some (.inr (8, [.ref b, .int (iI d)]))) (h_b : M b = some (cJ (K 1) 25 f)) (h_o2 : M o2 = some (.inr (8, [.ref b2, .int (iI d2)]))) (h_b2 : M b2 = some (cJ (K 1) 25 g)) (hoo : o ≠ o2) (hbb : b ≠ b2) (hr1 : -1 ≤ d ∧ d ≤ 24) (hr2 : -1 ≤ d2 ∧ d2 ≤ 24) (hr3 : -24 ≤ sh ∧ sh ≤ 24) (hr4 : d2 + sh ≤ 24) (hg1 : ∀ j, d2 < j → g j = 0) (hg2 : ∀ j, j < 0 ∨ j + sh < 0 → g j = 0) (hfc : inL fc) : zq_Met l y_PO_addShifted (.code y_PO_addShifted b_PO_addShifted 9 none :: lw_gd) { frames := 0, cells := 0, slots := 0, locals := 0 } D vwCl (zT K) [.ref o, .ref o2, .int (iI sh), .long (iL fc)] M (P_PO_addShifted K M o b o2 b2 d f d2 g sh fc) 0 0 := by
  refine zq_start (cc := b_PO_addShifted) (maxL := 9) (ret := none) (by decide) rfl (Nat.le_of_ble_eq_true rfl) ?_
  intro p e s m below meth c A ls hx hb hr hml hts hown hnm hlocks hA hZ hw hl
  have hts : ∀ w ∈ lw_gd, w.before [.ref o, .ref o2, .int (iI sh), .long (iL fc)].toArray s = true := fun w h => hts w (List.mem_cons_of_mem _ h)
  have hown : s.vm.findClass R_PO = some m.cls := hown
  have hK := hZ.1
  have hl : lv_has ls 9 [(0, .ref o), (1, .ref o2), (2, .int (iI sh)), (3, .long (iL fc))] := hl
  have hfr : ∀ q, q ≠ o → q ≠ b → M q = M q := fun q _ _ => rfl
  have hL : ∀ (n : Nat) (i : Int) (fs : Int) (rm : Int) (ls0 : Int) (h : Int → Int) (Mq : zq_M) (H : Heap) (locs : List Loc) (ls : Array Slot), (fs = max 0 (-sh)) → (ls0 = d2) → (fs ≤ i ∧ i ≤ 50 ∧ ¬ fc = 0 ∧ ¬ d2 < 0) → (∀ j, h j = if fs ≤ j - sh ∧ j - sh < i then f j + fc * g (j - sh) else f j) → (d2 + 1 - i).toNat < n → (∀ q, q ≠ o → q ≠ b → Mq q = M q) → Mq o = some (.inr (8, [.ref b, .int (iI d)])) → Mq b = some (cJ (K 1) 25 h) → Mq o2 = some (.inr (8, [.ref b2, .int (iI d2)])) → Mq b2 = some (cJ (K 1) 25 g) → zq_W D vwCl A s.heap Mq H locs → lv_has ls 9 [(0, .ref o), (1, .ref o2), (2, .int (iI sh)), (3, .long (iL fc)), (5, .int (iI fs)), (6, .int (iI rm)), (7, .int (iI ls0)), (8, .int (iI i))] → W p l e ({ frames := 0, cells := 0, slots := 0, locals := 0 } : Room) s m [.ref o, .ref o2, .int (iI sh), .long (iL fc)].toArray below meth c H locs 0 0 (MQ below (zq_Q D vwCl (zT K) (P_PO_addShifted K M o b o2 b2 d f d2 g sh fc) A) [.ref o, .ref o2, .int (iI sh), .long (iL fc)].toArray s 0 0 A) (F0 m 56 ls []) := by
    intro n
    induction n with
    | zero =>
      intro i fs rm ls0 h Mq H locs ls hfs hls hi hh hms hfr h_o h_b h_o2 h_b2 hw hl
      exact absurd hms (Nat.not_lt_zero _)
    | succ n ih_hL =>
      intro i fs rm ls0 h Mq H locs ls hfs hls hi hh hms hfr h_o h_b h_o2 h_b2 hw hl
      refine lv_iload hx hb d_PO_addShifted_56 (lv_at hl 7 rfl) ?_
      refine lv_iload hx hb d_PO_addShifted_58 (lv_at hl 6 rfl) ?_
      refine zq_icmp_gt (tgt := 90) hx hb d_PO_addShifted_60 (by decide) ⟨by omega, by omega⟩ ⟨by omega, by omega⟩ (fun hc1 => ?_) (fun hc1 => ?_)
      · have hz : h = fun j => f j + fc * g (j - sh) := zsh_end hh (by omega) hg1 (fun j q => hg2 j (by omega))
        refine lv_aload_n hx hb d_PO_addShifted_90 rfl (lv_at hl 0 rfl) ?_
        refine lv_iload hx hb d_PO_addShifted_91 (lv_at hl 6 rfl) ?_
        refine lv_iload_n hx hb d_PO_addShifted_93 rfl (lv_at hl 2 rfl) ?_
        refine zq_iadd hx hb d_PO_addShifted_94 ?_
        refine lv_aload_n hx hb d_PO_addShifted_95 rfl (lv_at hl 0 rfl) ?_
        refine zq_get hx hb hts i_PO hown hK hw h_o rfl 1 (by decide) (hts _ tw_122) rfl d_PO_addShifted_96 ?_
        refine zq_icmp_le (tgt := 109) hx hb d_PO_addShifted_99 (by decide) ⟨by omega, by omega⟩ ⟨by omega, by omega⟩ (fun hc2 => ?_) (fun hc2 => ?_)
        · refine lv_aload_n hx hb d_PO_addShifted_109 rfl (lv_at hl 0 rfl) ?_
          refine zq_get hx hb hts i_PO hown hK hw h_o rfl 1 (by decide) (hts _ tw_122) rfl d_PO_addShifted_110 ?_
          refine zq_put (ci := 8) (v := .int (iI d)) (ty := .int) hx hb hts i_PO t_PO t_PO_ok n_PO hown hK hw h_o rfl 1 (by decide) (hts _ tw_122) rfl (by decide +kernel) rfl rfl (Nat.le_of_ble_eq_true rfl) d_PO_addShifted_113 (fun M3 H locs hs ho hw => ?_)
          have h_b : M3 b = some (cJ (K 1) 25 h) := (ho _ (zq_ne h_b h_o (by simp))).trans h_b
          have h_o2 : M3 o2 = some (.inr (8, [.ref b2, .int (iI d2)])) := (ho _ (Ne.symm hoo)).trans h_o2
          have h_b2 : M3 b2 = some (cJ (K 1) 25 g) := (ho _ (zq_ne h_b2 h_o (by simp))).trans h_b2
          have h_o : M3 o = some (.inr (8, [.ref b, .int (iI d)])) := hs
          have hfr : ∀ q, q ≠ o → q ≠ b → M3 q = M q := fun q g0 g1 => (ho q g0).trans (hfr q g0 g1)
          exact zq_vret hx hb hr hlocks hZ hw ⟨rfl, (show d = zad d d2 sh fc from zad_1 hls (by omega) (by omega) (by omega)) ▸ h_o, hz ▸ h_b, hfr⟩ d_PO_addShifted_116
        · refine lv_iload hx hb d_PO_addShifted_102 (lv_at hl 6 rfl) ?_
          refine lv_iload_n hx hb d_PO_addShifted_104 rfl (lv_at hl 2 rfl) ?_
          refine zq_iadd hx hb d_PO_addShifted_105 ?_
          refine lv_goto (tgt := 113) hx hb d_PO_addShifted_106 (by decide) ?_
          refine zq_put (ci := 8) (v := .int (iI (ls0 + sh))) (ty := .int) hx hb hts i_PO t_PO t_PO_ok n_PO hown hK hw h_o rfl 1 (by decide) (hts _ tw_122) rfl (by decide +kernel) rfl rfl (Nat.le_of_ble_eq_true rfl) d_PO_addShifted_113 (fun M4 H locs hs ho hw => ?_)
          have h_b : M4 b = some (cJ (K 1) 25 h) := (ho _ (zq_ne h_b h_o (by simp))).trans h_b
          have h_o2 : M4 o2 = some (.inr (8, [.ref b2, .int (iI d2)])) := (ho _ (Ne.symm hoo)).trans h_o2
          have h_b2 : M4 b2 = some (cJ (K 1) 25 g) := (ho _ (zq_ne h_b2 h_o (by simp))).trans h_b2
          have h_o : M4 o = some (.inr (8, [.ref b, .int (iI (ls0 + sh))])) := hs
          have hfr : ∀ q, q ≠ o → q ≠ b → M4 q = M q := fun q g0 g1 => (ho q g0).trans (hfr q g0 g1)
          exact zq_vret hx hb hr hlocks hZ hw ⟨rfl, (show ls0 + sh = zad d d2 sh fc from zad_1 hls (by omega) (by omega) (by omega)) ▸ h_o, hz ▸ h_b, hfr⟩ d_PO_addShifted_116
      · refine lv_aload_n hx hb d_PO_addShifted_63 rfl (lv_at hl 0 rfl) ?_
        refine zq_get hx hb hts i_PO hown hK hw h_o rfl 0 (by decide) (hts _ tw_121) rfl d_PO_addShifted_64 ?_
        refine lv_iload hx hb d_PO_addShifted_67 (lv_at hl 7 rfl) ?_
        refine lv_iload_n hx hb d_PO_addShifted_69 rfl (lv_at hl 2 rfl) ?_
        refine zq_iadd hx hb d_PO_addShifted_70 ?_
        refine lv_dup2_11 hx hb d_PO_addShifted_71 rfl rfl ?_
        refine zq_lald hx hb hK hw 1 h_b rfl (by omega) (by omega) (by decide) d_PO_addShifted_72 ?_
        refine lv_lload_n hx hb d_PO_addShifted_73 rfl (lv_at hl 3 rfl) ?_
        refine lv_aload_n hx hb d_PO_addShifted_74 rfl (lv_at hl 1 rfl) ?_
        refine zq_get hx hb hts i_PO hown hK hw h_o2 rfl 0 (by decide) (hts _ tw_121) rfl d_PO_addShifted_75 ?_
        refine lv_iload hx hb d_PO_addShifted_78 (lv_at hl 7 rfl) ?_
        refine zq_lald hx hb hK hw 1 h_b2 rfl (by omega) (by omega) (by decide) d_PO_addShifted_80 ?_
        refine zq_lmul hx hb d_PO_addShifted_81 ?_
        refine zq_ladd hx hb d_PO_addShifted_82 ?_
        refine zq_last hx hb hK hw 1 h_b rfl (by omega) (by omega) (by decide) d_PO_addShifted_83 (fun M5 H locs hs ho hw => ?_)
        have h_o : M5 o = some (.inr (8, [.ref b, .int (iI d)])) := (ho _ (zq_ne h_o h_b (by simp))).trans h_o
        have h_o2 : M5 o2 = some (.inr (8, [.ref b2, .int (iI d2)])) := (ho _ (zq_ne h_o2 h_b (by simp))).trans h_o2
        have h_b2 : M5 b2 = some (cJ (K 1) 25 g) := (ho _ (Ne.symm hbb)).trans h_b2
        have h_b : M5 b = some (cJ (K 1) 25 (zu h (i + sh) ((h (i + sh)) + (fc * (g i))))) := hs
        have hfr : ∀ q, q ≠ o → q ≠ b → M5 q = M q := fun q g0 g1 => (ho q g1).trans (hfr q g0 g1)
        refine lv_iinc (v := iI (i + 1)) (lv' := [(8, .int (iI (i + 1))), (0, .ref o), (1, .ref o2), (2, .int (iI sh)), (3, .long (iL fc)), (5, .int (iI fs)), (6, .int (iI rm)), (7, .int (iI ls0))]) hx hb d_PO_addShifted_84 hl (k := 7) rfl (iI_add _ _) (by decide) rfl (fun ls hl => ?_)
        refine lv_goto (tgt := 56) hx hb d_PO_addShifted_87 (by decide) ?_
        exact ih_hL (i + 1) fs rm ls0 (zu h (i + sh) ((h (i + sh)) + (fc * (g i)))) M5 _ _ _ (by omega) (by omega) (by omega) (zsh_step hh (by omega) (by omega)) (by omega) hfr h_o h_b h_o2 h_b2 hw (lv_sub hl [1, 2, 3, 4, 5, 6, 7, 0] rfl)
  refine lv_lload_n hx hb d_PO_addShifted_0 rfl (lv_at hl 3 rfl) ?_
  refine lv_lconst (v := iL 0) hx hb d_PO_addShifted_1 (by decide) ?_
  refine zq_lcmp_eq (tgt := 13) hx hb d_PO_addShifted_2 d_PO_addShifted_3 (by decide) hfc (by decide) (fun hc6 => ?_) (fun hc6 => ?_)
  · exact zq_vret hx hb hr hlocks hZ hw ⟨rfl, (zad_0 (d := d) (d2 := d2) (sh := sh) (fc := fc) (by omega)) ▸ h_o, (zsh_0 (g := g) (sh := sh) (fc := fc) (by first | (left; omega) | (right; exact fun j => by by_cases q : j < 0; exact hg2 j (Or.inl q); exact hg1 j (by omega)))) ▸ h_b, hfr⟩ d_PO_addShifted_13
  · refine lv_aload_n hx hb d_PO_addShifted_6 rfl (lv_at hl 1 rfl) ?_
    refine zq_get hx hb hts i_PO hown hK hw h_o2 rfl 1 (by decide) (hts _ tw_122) rfl d_PO_addShifted_7 ?_
    refine zq_if_ge (tgt := 14) hx hb d_PO_addShifted_10 (by decide) ⟨by omega, by omega⟩ (fun hc7 => ?_) (fun hc7 => ?_)
    · refine lv_iload_n hx hb d_PO_addShifted_14 rfl (lv_at hl 2 rfl) ?_
      refine zq_if_ge (tgt := 23) hx hb d_PO_addShifted_15 (by decide) ⟨by omega, by omega⟩ (fun hc8 => ?_) (fun hc8 => ?_)
      · refine lv_iconst (v := iI 0) hx hb d_PO_addShifted_23 rfl ?_
        refine lv_istore (lv' := [(5, .int (iI 0)), (0, .ref o), (1, .ref o2), (2, .int (iI sh)), (3, .long (iL fc))]) hx hb d_PO_addShifted_24 hl (by decide) rfl (fun ls hl => ?_)
        refine lv_bipush (v := iI 24) hx hb d_PO_addShifted_26 (by decide) ?_
        refine lv_iload_n hx hb d_PO_addShifted_28 rfl (lv_at hl 3 rfl) ?_
        refine zq_isub hx hb d_PO_addShifted_29 ?_
        refine lv_istore (lv' := [(6, .int (iI (24 - sh))), (5, .int (iI 0)), (0, .ref o), (1, .ref o2), (2, .int (iI sh)), (3, .long (iL fc))]) hx hb d_PO_addShifted_30 hl (by decide) rfl (fun ls hl => ?_)
        refine lv_aload_n hx hb d_PO_addShifted_32 rfl (lv_at hl 3 rfl) ?_
        refine zq_get hx hb hts i_PO hown hK hw h_o2 rfl 1 (by decide) (hts _ tw_122) rfl d_PO_addShifted_33 ?_
        refine lv_iload hx hb d_PO_addShifted_36 (lv_at hl 0 rfl) ?_
        refine zq_icmp_ge (tgt := 48) hx hb d_PO_addShifted_38 (by decide) ⟨by omega, by omega⟩ ⟨by omega, by omega⟩ (fun hc9 => ?_) (fun hc9 => ?_)
        · refine lv_iload hx hb d_PO_addShifted_48 (lv_at hl 0 rfl) ?_
          refine lv_istore (lv' := [(7, .int (iI (24 - sh))), (6, .int (iI (24 - sh))), (5, .int (iI 0)), (0, .ref o), (1, .ref o2), (2, .int (iI sh)), (3, .long (iL fc))]) hx hb d_PO_addShifted_50 hl (by decide) rfl (fun ls hl => ?_)
          refine lv_iload hx hb d_PO_addShifted_52 (lv_at hl 2 rfl) ?_
          refine lv_istore (lv' := [(8, .int (iI 0)), (7, .int (iI (24 - sh))), (6, .int (iI (24 - sh))), (5, .int (iI 0)), (0, .ref o), (1, .ref o2), (2, .int (iI sh)), (3, .long (iL fc))]) hx hb d_PO_addShifted_54 hl (by decide) rfl (fun ls hl => ?_)
          exact hL _ 0 0 (24 - sh) (24 - sh) f M _ _ _ (by omega) (by omega) (by omega) (fun j => (if_neg (by omega)).symm) (Nat.lt_succ_self _) hfr h_o h_b h_o2 h_b2 hw (lv_sub hl [4, 5, 6, 7, 3, 2, 1, 0] rfl)
        · refine lv_aload_n hx hb d_PO_addShifted_41 rfl (lv_at hl 3 rfl) ?_
          refine zq_get hx hb hts i_PO hown hK hw h_o2 rfl 1 (by decide) (hts _ tw_122) rfl d_PO_addShifted_42 ?_
          refine lv_goto (tgt := 50) hx hb d_PO_addShifted_45 (by decide) ?_
          refine lv_istore (lv' := [(7, .int (iI d2)), (6, .int (iI (24 - sh))), (5, .int (iI 0)), (0, .ref o), (1, .ref o2), (2, .int (iI sh)), (3, .long (iL fc))]) hx hb d_PO_addShifted_50 hl (by decide) rfl (fun ls hl => ?_)
          refine lv_iload hx hb d_PO_addShifted_52 (lv_at hl 2 rfl) ?_
          refine lv_istore (lv' := [(8, .int (iI 0)), (7, .int (iI d2)), (6, .int (iI (24 - sh))), (5, .int (iI 0)), (0, .ref o), (1, .ref o2), (2, .int (iI sh)), (3, .long (iL fc))]) hx hb d_PO_addShifted_54 hl (by decide) rfl (fun ls hl => ?_)
          exact hL _ 0 0 (24 - sh) d2 f M _ _ _ (by omega) (by omega) (by omega) (fun j => (if_neg (by omega)).symm) (Nat.lt_succ_self _) hfr h_o h_b h_o2 h_b2 hw (lv_sub hl [4, 5, 6, 7, 3, 2, 1, 0] rfl)
      · refine lv_iload_n hx hb d_PO_addShifted_18 rfl (lv_at hl 2 rfl) ?_
        refine zq_ineg hx hb d_PO_addShifted_19 ?_
        refine lv_goto (tgt := 24) hx hb d_PO_addShifted_20 (by decide) ?_
        refine lv_istore (lv' := [(5, .int (iI (-sh))), (0, .ref o), (1, .ref o2), (2, .int (iI sh)), (3, .long (iL fc))]) hx hb d_PO_addShifted_24 hl (by decide) rfl (fun ls hl => ?_)
        refine lv_bipush (v := iI 24) hx hb d_PO_addShifted_26 (by decide) ?_
        refine lv_iload_n hx hb d_PO_addShifted_28 rfl (lv_at hl 3 rfl) ?_
        refine zq_isub hx hb d_PO_addShifted_29 ?_
        refine lv_istore (lv' := [(6, .int (iI (24 - sh))), (5, .int (iI (-sh))), (0, .ref o), (1, .ref o2), (2, .int (iI sh)), (3, .long (iL fc))]) hx hb d_PO_addShifted_30 hl (by decide) rfl (fun ls hl => ?_)
        refine lv_aload_n hx hb d_PO_addShifted_32 rfl (lv_at hl 3 rfl) ?_
        refine zq_get hx hb hts i_PO hown hK hw h_o2 rfl 1 (by decide) (hts _ tw_122) rfl d_PO_addShifted_33 ?_
        refine lv_iload hx hb d_PO_addShifted_36 (lv_at hl 0 rfl) ?_
        refine zq_icmp_ge (tgt := 48) hx hb d_PO_addShifted_38 (by decide) ⟨by omega, by omega⟩ ⟨by omega, by omega⟩ (fun hc10 => ?_) (fun hc10 => ?_)
        · refine lv_iload hx hb d_PO_addShifted_48 (lv_at hl 0 rfl) ?_
          refine lv_istore (lv' := [(7, .int (iI (24 - sh))), (6, .int (iI (24 - sh))), (5, .int (iI (-sh))), (0, .ref o), (1, .ref o2), (2, .int (iI sh)), (3, .long (iL fc))]) hx hb d_PO_addShifted_50 hl (by decide) rfl (fun ls hl => ?_)
          refine lv_iload hx hb d_PO_addShifted_52 (lv_at hl 2 rfl) ?_
          refine lv_istore (lv' := [(8, .int (iI (-sh))), (7, .int (iI (24 - sh))), (6, .int (iI (24 - sh))), (5, .int (iI (-sh))), (0, .ref o), (1, .ref o2), (2, .int (iI sh)), (3, .long (iL fc))]) hx hb d_PO_addShifted_54 hl (by decide) rfl (fun ls hl => ?_)
          exact hL _ (-sh) (-sh) (24 - sh) (24 - sh) f M _ _ _ (by omega) (by omega) (by omega) (fun j => (if_neg (by omega)).symm) (Nat.lt_succ_self _) hfr h_o h_b h_o2 h_b2 hw (lv_sub hl [4, 5, 6, 7, 3, 2, 1, 0] rfl)
        · refine lv_aload_n hx hb d_PO_addShifted_41 rfl (lv_at hl 3 rfl) ?_
          refine zq_get hx hb hts i_PO hown hK hw h_o2 rfl 1 (by decide) (hts _ tw_122) rfl d_PO_addShifted_42 ?_
          refine lv_goto (tgt := 50) hx hb d_PO_addShifted_45 (by decide) ?_
          refine lv_istore (lv' := [(7, .int (iI d2)), (6, .int (iI (24 - sh))), (5, .int (iI (-sh))), (0, .ref o), (1, .ref o2), (2, .int (iI sh)), (3, .long (iL fc))]) hx hb d_PO_addShifted_50 hl (by decide) rfl (fun ls hl => ?_)
          refine lv_iload hx hb d_PO_addShifted_52 (lv_at hl 2 rfl) ?_
          refine lv_istore (lv' := [(8, .int (iI (-sh))), (7, .int (iI d2)), (6, .int (iI (24 - sh))), (5, .int (iI (-sh))), (0, .ref o), (1, .ref o2), (2, .int (iI sh)), (3, .long (iL fc))]) hx hb d_PO_addShifted_54 hl (by decide) rfl (fun ls hl => ?_)
          exact hL _ (-sh) (-sh) (24 - sh) d2 f M _ _ _ (by omega) (by omega) (by omega) (fun j => (if_neg (by omega)).symm) (Nat.lt_succ_self _) hfr h_o h_b h_o2 h_b2 hw (lv_sub hl [4, 5, 6, 7, 3, 2, 1, 0] rfl)
    · exact zq_vret hx hb hr hlocks hZ hw ⟨rfl, (zad_0 (d := d) (d2 := d2) (sh := sh) (fc := fc) (by omega)) ▸ h_o, (zsh_0 (g := g) (sh := sh) (fc := fc) (by first | (left; omega) | (right; exact fun j => by by_cases q : j < 0; exact hg2 j (Or.inl q); exact hg1 j (by omega)))) ▸ h_b, hfr⟩ d_PO_addShifted_13
