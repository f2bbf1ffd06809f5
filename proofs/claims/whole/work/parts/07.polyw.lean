abbrev P_PO_setZero (K : Nat → ClassId) (M : zq_M) (o : Nat) (b : Nat) (d : Int) (f : Int → Int) : Option Value → zq_M → Prop := fun v M' => v = none ∧ M' o = some (.inr (8, [.ref b, .int (iI (-1))])) ∧ M' b = some (cJ (K 1) 25 (fun _ => 0)) ∧ ∀ q, q ≠ o → q ≠ b → M' q = M q
set_option maxHeartbeats 4000000 in
set_option maxRecDepth 100000 in
theorem c_PO_setZero (l : Launch) (D : va_G) (K : Nat → ClassId) (M : zq_M) (o : Nat) (b : Nat) (d : Int) (f : Int → Int) (h_o : M o = some (.inr (8, [.ref b, .int (iI d)]))) (h_b : M b = some (cJ (K 1) 25 f)) (hU : zU f d) : zq_Met l y_PO_setZero (.code y_PO_setZero b_PO_setZero 2 none :: lw_gd) { frames := 0, cells := 0, slots := 0, locals := 0 } D vwCl (zT K) [.ref o] M (P_PO_setZero K M o b d f) 0 0 := by
  refine zq_start (cc := b_PO_setZero) (maxL := 2) (ret := none) (by decide) rfl (Nat.le_of_ble_eq_true rfl) ?_
  intro p e s m below meth c A ls hx hb hr hml hts hown hnm hlocks hA hZ hw hl
  have hts : ∀ w ∈ lw_gd, w.before [.ref o].toArray s = true := fun w h => hts w (List.mem_cons_of_mem _ h)
  have hown : s.vm.findClass R_PO = some m.cls := hown
  have hK := hZ.1
  have hl : lv_has ls 2 [(0, .ref o)] := hl
  have hfr : ∀ q, q ≠ o → q ≠ b → M q = M q := fun q _ _ => rfl
  obtain ⟨hd1, hd2⟩ := zU_le hU
  have hL : ∀ (n : Nat) (i : Int) (g : Int → Int) (Mq : zq_M) (H : Heap) (locs : List Loc) (ls : Array Slot), (0 ≤ i ∧ i ≤ 25) → (∀ j, j < i → g j = 0) → (∀ j, i ≤ j → g j = f j) → (25 - i).toNat < n → (∀ q, q ≠ o → q ≠ b → Mq q = M q) → Mq o = some (.inr (8, [.ref b, .int (iI d)])) → Mq b = some (cJ (K 1) 25 g) → zq_W D vwCl A s.heap Mq H locs → lv_has ls 2 [(0, .ref o), (1, .int (iI i))] → W p l e ({ frames := 0, cells := 0, slots := 0, locals := 0 } : Room) s m [.ref o].toArray below meth c H locs 0 0 (MQ below (zq_Q D vwCl (zT K) (P_PO_setZero K M o b d f) A) [.ref o].toArray s 0 0 A) (F0 m 2 ls []) := by
    intro n
    induction n with
    | zero =>
      intro i g Mq H locs ls hi hg hg2 hms hfr h_o h_b hw hl
      exact absurd hms (Nat.not_lt_zero _)
    | succ n ih_hL =>
      intro i g Mq H locs ls hi hg hg2 hms hfr h_o h_b hw hl
      refine lv_iload_n hx hb d_PO_setZero_2 rfl (lv_at hl 1 rfl) ?_
      refine lv_aload_n hx hb d_PO_setZero_3 rfl (lv_at hl 0 rfl) ?_
      refine zq_get hx hb hts i_PO hown hK hw h_o rfl 1 (by decide) (hts _ tw_122) rfl d_PO_setZero_4 ?_
      refine zq_icmp_gt (tgt := 29) hx hb d_PO_setZero_7 (by decide) ⟨by omega, by omega⟩ ⟨by omega, by omega⟩ (fun hc1 => ?_) (fun hc1 => ?_)
      · have hz : g = fun _ => 0 := funext fun j => by by_cases q : j < i; exact hg j q; rw [hg2 j (by omega)]; exact hU.2.2.1 j (by omega)
        refine lv_aload_n hx hb d_PO_setZero_29 rfl (lv_at hl 0 rfl) ?_
        refine lv_iconst (v := iI (-1)) hx hb d_PO_setZero_30 rfl ?_
        refine zq_put (ci := 8) (v := .int (iI (-1))) (ty := .int) hx hb hts i_PO t_PO t_PO_ok n_PO hown hK hw h_o rfl 1 (by decide) (hts _ tw_122) rfl (by decide +kernel) rfl rfl (Nat.le_of_ble_eq_true rfl) d_PO_setZero_31 (fun M2 H locs hs ho hw => ?_)
        have h_b : M2 b = some (cJ (K 1) 25 g) := (ho _ (zq_ne h_b h_o (by simp))).trans h_b
        have h_o : M2 o = some (.inr (8, [.ref b, .int (iI (-1))])) := hs
        have hfr : ∀ q, q ≠ o → q ≠ b → M2 q = M q := fun q g0 g1 => (ho q g0).trans (hfr q g0 g1)
        exact zq_vret hx hb hr hlocks hZ hw ⟨rfl, h_o, hz ▸ h_b, hfr⟩ d_PO_setZero_34
      · refine lv_iload_n hx hb d_PO_setZero_10 rfl (lv_at hl 1 rfl) ?_
        refine lv_bipush (v := iI 25) hx hb d_PO_setZero_11 (by decide) ?_
        refine zq_icmp_ge (tgt := 29) hx hb d_PO_setZero_13 (by decide) ⟨by omega, by omega⟩ (by decide) (fun hc3 => ?_) (fun hc3 => ?_)
        · have hz : g = fun _ => 0 := funext fun j => by by_cases q : j < i; exact hg j q; rw [hg2 j (by omega)]; exact hU.2.2.1 j (by omega)
          refine lv_aload_n hx hb d_PO_setZero_29 rfl (lv_at hl 0 rfl) ?_
          refine lv_iconst (v := iI (-1)) hx hb d_PO_setZero_30 rfl ?_
          refine zq_put (ci := 8) (v := .int (iI (-1))) (ty := .int) hx hb hts i_PO t_PO t_PO_ok n_PO hown hK hw h_o rfl 1 (by decide) (hts _ tw_122) rfl (by decide +kernel) rfl rfl (Nat.le_of_ble_eq_true rfl) d_PO_setZero_31 (fun M4 H locs hs ho hw => ?_)
          have h_b : M4 b = some (cJ (K 1) 25 g) := (ho _ (zq_ne h_b h_o (by simp))).trans h_b
          have h_o : M4 o = some (.inr (8, [.ref b, .int (iI (-1))])) := hs
          have hfr : ∀ q, q ≠ o → q ≠ b → M4 q = M q := fun q g0 g1 => (ho q g0).trans (hfr q g0 g1)
          exact zq_vret hx hb hr hlocks hZ hw ⟨rfl, h_o, hz ▸ h_b, hfr⟩ d_PO_setZero_34
        · refine lv_aload_n hx hb d_PO_setZero_16 rfl (lv_at hl 0 rfl) ?_
          refine zq_get hx hb hts i_PO hown hK hw h_o rfl 0 (by decide) (hts _ tw_121) rfl d_PO_setZero_17 ?_
          refine lv_iload_n hx hb d_PO_setZero_20 rfl (lv_at hl 1 rfl) ?_
          refine lv_lconst (v := iL 0) hx hb d_PO_setZero_21 (by decide) ?_
          refine zq_last hx hb hK hw 1 h_b rfl (by omega) (by omega) (by decide) d_PO_setZero_22 (fun M5 H locs hs ho hw => ?_)
          have h_o : M5 o = some (.inr (8, [.ref b, .int (iI d)])) := (ho _ (zq_ne h_o h_b (by simp))).trans h_o
          have h_b : M5 b = some (cJ (K 1) 25 (zu g i 0)) := hs
          have hfr : ∀ q, q ≠ o → q ≠ b → M5 q = M q := fun q g0 g1 => (ho q g1).trans (hfr q g0 g1)
          refine lv_iinc (v := iI (i + 1)) (lv' := [(1, .int (iI (i + 1))), (0, .ref o)]) hx hb d_PO_setZero_23 hl (k := 1) rfl (iI_add _ _) (by decide) rfl (fun ls hl => ?_)
          refine lv_goto (tgt := 2) hx hb d_PO_setZero_26 (by decide) ?_
          exact ih_hL (i + 1) (zu g i 0) M5 _ _ _ (by omega) (fun j hj => by by_cases q : j = i; rw [q, zu_self]; rw [zu_ne _ _ q]; exact hg j (by omega)) (fun j hj => by rw [zu_ne _ _ (by omega)]; exact hg2 j (by omega)) (by omega) hfr h_o h_b hw (lv_sub hl [1, 0] rfl)
  refine lv_iconst (v := iI 0) hx hb d_PO_setZero_0 rfl ?_
  refine lv_istore_n (lv' := [(1, .int (iI 0)), (0, .ref o)]) hx hb d_PO_setZero_1 rfl hl (by decide) rfl (fun ls hl => ?_)
  exact hL _ 0 f M _ _ _ (by omega) (fun j hj => hU.2.2.2 j hj) (fun _ _ => rfl) (Nat.lt_succ_self _) hfr h_o h_b hw (lv_sub hl [1, 0] rfl)
abbrev P_PO_lowerDegree (K : Nat → ClassId) (M : zq_M) (o : Nat) (b : Nat) (d : Int) (f : Int → Int) (bd : Int) : Option Value → zq_M → Prop := fun v M' => v = none ∧ ∃ d', zD f d' ∧ M' o = some (.inr (8, [.ref b, .int (iI d')])) ∧ ∀ q, q ≠ o → M' q = M q
set_option maxHeartbeats 4000000 in
set_option maxRecDepth 100000 in
theorem c_PO_lowerDegree (l : Launch) (D : va_G) (K : Nat → ClassId) (M : zq_M) (o : Nat) (b : Nat) (d : Int) (f : Int → Int) (bd : Int) (h_o : M o = some (.inr (8, [.ref b, .int (iI d)]))) (h_b : M b = some (cJ (K 1) 25 f)) (hb0 : inI bd) (hf1 : ∀ j, bd < j ∨ 24 < j → f j = 0) (hf2 : ∀ j, j < 0 → f j = 0) (hf3 : ∀ j, inL (f j)) : zq_Met l y_PO_lowerDegree (.code y_PO_lowerDegree b_PO_lowerDegree 3 none :: lw_gd) { frames := 0, cells := 0, slots := 0, locals := 0 } D vwCl (zT K) [.ref o, .int (iI bd)] M (P_PO_lowerDegree K M o b d f bd) 0 0 := by
  refine zq_start (cc := b_PO_lowerDegree) (maxL := 3) (ret := none) (by decide) rfl (Nat.le_of_ble_eq_true rfl) ?_
  intro p e s m below meth c A ls hx hb hr hml hts hown hnm hlocks hA hZ hw hl
  have hts : ∀ w ∈ lw_gd, w.before [.ref o, .int (iI bd)].toArray s = true := fun w h => hts w (List.mem_cons_of_mem _ h)
  have hown : s.vm.findClass R_PO = some m.cls := hown
  have hK := hZ.1
  have hl : lv_has ls 3 [(0, .ref o), (1, .int (iI bd))] := hl
  have hfr : ∀ q, q ≠ o → M q = M q := fun q _ => rfl
  have hL : ∀ (n : Nat) (i : Int) (Mq : zq_M) (H : Heap) (locs : List Loc) (ls : Array Slot), (-2147483648 ≤ i ∧ i ≤ 24) → (∀ j, i < j → f j = 0) → (i + 1).toNat < n → (∀ q, q ≠ o → Mq q = M q) → Mq o = some (.inr (8, [.ref b, .int (iI d)])) → Mq b = some (cJ (K 1) 25 f) → zq_W D vwCl A s.heap Mq H locs → lv_has ls 3 [(0, .ref o), (2, .int (iI i))] → W p l e ({ frames := 0, cells := 0, slots := 0, locals := 0 } : Room) s m [.ref o, .int (iI bd)].toArray below meth c H locs 0 0 (MQ below (zq_Q D vwCl (zT K) (P_PO_lowerDegree K M o b d f bd) A) [.ref o, .int (iI bd)].toArray s 0 0 A) (F0 m 13 ls []) := by
    intro n
    induction n with
    | zero =>
      intro i Mq H locs ls hi hz hms hfr h_o h_b hw hl
      exact absurd hms (Nat.not_lt_zero _)
    | succ n ih_hL =>
      intro i Mq H locs ls hi hz hms hfr h_o h_b hw hl
      have hir : inI i := ⟨by omega, by omega⟩
      refine lv_iload_n hx hb d_PO_lowerDegree_13 rfl (lv_at hl 1 rfl) ?_
      refine zq_if_lt (tgt := 34) hx hb d_PO_lowerDegree_14 (by decide) hir (fun hc1 => ?_) (fun hc1 => ?_)
      · refine lv_aload_n hx hb d_PO_lowerDegree_34 rfl (lv_at hl 0 rfl) ?_
        refine lv_iload_n hx hb d_PO_lowerDegree_35 rfl (lv_at hl 1 rfl) ?_
        refine zq_if_lt (tgt := 43) hx hb d_PO_lowerDegree_36 (by decide) hir (fun hc2 => ?_) (fun hc2 => ?_)
        · refine lv_iconst (v := iI (-1)) hx hb d_PO_lowerDegree_43 rfl ?_
          refine zq_put (ci := 8) (v := .int (iI (-1))) (ty := .int) hx hb hts i_PO t_PO t_PO_ok n_PO hown hK hw h_o rfl 1 (by decide) (hts _ tw_122) rfl (by decide +kernel) rfl rfl (Nat.le_of_ble_eq_true rfl) d_PO_lowerDegree_44 (fun M3 H locs hs ho hw => ?_)
          have h_b : M3 b = some (cJ (K 1) 25 f) := (ho _ (zq_ne h_b h_o (by simp))).trans h_b
          have h_o : M3 o = some (.inr (8, [.ref b, .int (iI (-1))])) := hs
          have hfr : ∀ q, q ≠ o → M3 q = M q := fun q g0 => (ho q g0).trans (hfr q g0)
          exact zq_vret hx hb hr hlocks hZ hw ⟨rfl, _, ⟨by omega, by omega, fun j hj => hz j (by omega), hf2, fun q => absurd q (by omega)⟩, h_o, hfr⟩ d_PO_lowerDegree_47
        · refine lv_iload_n hx hb d_PO_lowerDegree_39 rfl (lv_at hl 1 rfl) ?_
          refine lv_goto (tgt := 44) hx hb d_PO_lowerDegree_40 (by decide) ?_
          refine zq_put (ci := 8) (v := .int (iI i)) (ty := .int) hx hb hts i_PO t_PO t_PO_ok n_PO hown hK hw h_o rfl 1 (by decide) (hts _ tw_122) rfl (by decide +kernel) rfl rfl (Nat.le_of_ble_eq_true rfl) d_PO_lowerDegree_44 (fun M4 H locs hs ho hw => ?_)
          have h_b : M4 b = some (cJ (K 1) 25 f) := (ho _ (zq_ne h_b h_o (by simp))).trans h_b
          have h_o : M4 o = some (.inr (8, [.ref b, .int (iI i)])) := hs
          have hfr : ∀ q, q ≠ o → M4 q = M q := fun q g0 => (ho q g0).trans (hfr q g0)
          exact zq_vret hx hb hr hlocks hZ hw ⟨rfl, _, ⟨by omega, by omega, hz, hf2, fun q => by first | assumption | omega⟩, h_o, hfr⟩ d_PO_lowerDegree_47
      · refine lv_aload_n hx hb d_PO_lowerDegree_17 rfl (lv_at hl 0 rfl) ?_
        refine zq_get hx hb hts i_PO hown hK hw h_o rfl 0 (by decide) (hts _ tw_121) rfl d_PO_lowerDegree_18 ?_
        refine lv_iload_n hx hb d_PO_lowerDegree_21 rfl (lv_at hl 1 rfl) ?_
        refine zq_lald hx hb hK hw 1 h_b rfl (by omega) (by omega) (by decide) d_PO_lowerDegree_22 ?_
        refine lv_lconst (v := iL 0) hx hb d_PO_lowerDegree_23 (by decide) ?_
        refine zq_lcmp_ne (tgt := 34) hx hb d_PO_lowerDegree_24 d_PO_lowerDegree_25 (by decide) (hf3 i) (by decide) (fun hc5 => ?_) (fun hc5 => ?_)
        · refine lv_aload_n hx hb d_PO_lowerDegree_34 rfl (lv_at hl 0 rfl) ?_
          refine lv_iload_n hx hb d_PO_lowerDegree_35 rfl (lv_at hl 1 rfl) ?_
          refine zq_if_lt (tgt := 43) hx hb d_PO_lowerDegree_36 (by decide) hir (fun hc6 => ?_) (fun hc6 => ?_)
          · refine lv_iconst (v := iI (-1)) hx hb d_PO_lowerDegree_43 rfl ?_
            refine zq_put (ci := 8) (v := .int (iI (-1))) (ty := .int) hx hb hts i_PO t_PO t_PO_ok n_PO hown hK hw h_o rfl 1 (by decide) (hts _ tw_122) rfl (by decide +kernel) rfl rfl (Nat.le_of_ble_eq_true rfl) d_PO_lowerDegree_44 (fun M7 H locs hs ho hw => ?_)
            have h_b : M7 b = some (cJ (K 1) 25 f) := (ho _ (zq_ne h_b h_o (by simp))).trans h_b
            have h_o : M7 o = some (.inr (8, [.ref b, .int (iI (-1))])) := hs
            have hfr : ∀ q, q ≠ o → M7 q = M q := fun q g0 => (ho q g0).trans (hfr q g0)
            exact zq_vret hx hb hr hlocks hZ hw ⟨rfl, _, ⟨by omega, by omega, fun j hj => hz j (by omega), hf2, fun q => absurd q (by omega)⟩, h_o, hfr⟩ d_PO_lowerDegree_47
          · refine lv_iload_n hx hb d_PO_lowerDegree_39 rfl (lv_at hl 1 rfl) ?_
            refine lv_goto (tgt := 44) hx hb d_PO_lowerDegree_40 (by decide) ?_
            refine zq_put (ci := 8) (v := .int (iI i)) (ty := .int) hx hb hts i_PO t_PO t_PO_ok n_PO hown hK hw h_o rfl 1 (by decide) (hts _ tw_122) rfl (by decide +kernel) rfl rfl (Nat.le_of_ble_eq_true rfl) d_PO_lowerDegree_44 (fun M8 H locs hs ho hw => ?_)
            have h_b : M8 b = some (cJ (K 1) 25 f) := (ho _ (zq_ne h_b h_o (by simp))).trans h_b
            have h_o : M8 o = some (.inr (8, [.ref b, .int (iI i)])) := hs
            have hfr : ∀ q, q ≠ o → M8 q = M q := fun q g0 => (ho q g0).trans (hfr q g0)
            exact zq_vret hx hb hr hlocks hZ hw ⟨rfl, _, ⟨by omega, by omega, hz, hf2, fun q => by first | assumption | omega⟩, h_o, hfr⟩ d_PO_lowerDegree_47
        · refine lv_iinc (v := iI (i - 1)) (lv' := [(2, .int (iI (i - 1))), (0, .ref o)]) hx hb d_PO_lowerDegree_28 hl (k := 1) rfl ((iI_add _ _).trans (congrArg iI (Int.sub_eq_add_neg).symm)) (by decide) rfl (fun ls hl => ?_)
          refine lv_goto (tgt := 13) hx hb d_PO_lowerDegree_31 (by decide) ?_
          exact ih_hL (i - 1) Mq _ _ _ (by omega) (fun j hj => by by_cases q : j = i; rw [q]; assumption; exact hz j (by omega)) (by omega) hfr h_o h_b hw (lv_sub hl [1, 0] rfl)
  refine lv_iload_n hx hb d_PO_lowerDegree_0 rfl (lv_at hl 1 rfl) ?_
  refine lv_bipush (v := iI 25) hx hb d_PO_lowerDegree_1 (by decide) ?_
  refine zq_icmp_ge (tgt := 10) hx hb d_PO_lowerDegree_3 (by decide) hb0 (by decide) (fun hc9 => ?_) (fun hc9 => ?_)
  · refine lv_bipush (v := iI 24) hx hb d_PO_lowerDegree_10 (by decide) ?_
    refine lv_istore_n (lv' := [(2, .int (iI 24)), (0, .ref o), (1, .int (iI bd))]) hx hb d_PO_lowerDegree_12 rfl hl (by decide) rfl (fun ls hl => ?_)
    exact hL _ 24 M _ _ _ (by omega) (fun j hj => hf1 j (by omega)) (Nat.lt_succ_self _) hfr h_o h_b hw (lv_sub hl [1, 0] rfl)
  · refine lv_iload_n hx hb d_PO_lowerDegree_6 rfl (lv_at hl 1 rfl) ?_
    refine lv_goto (tgt := 12) hx hb d_PO_lowerDegree_7 (by decide) ?_
    refine lv_istore_n (lv' := [(2, .int (iI bd)), (0, .ref o), (1, .int (iI bd))]) hx hb d_PO_lowerDegree_12 rfl hl (by decide) rfl (fun ls hl => ?_)
    exact hL _ bd M _ _ _ (by omega) (fun j hj => hf1 j (by omega)) (Nat.lt_succ_self _) hfr h_o h_b hw (lv_sub hl [1, 0] rfl)
