abbrev P_PO_setQuotient (K : Nat → ClassId) (M : zq_M) (o : Nat) (b : Nat) (o1 : Nat) (b1 : Nat) (o2 : Nat) (b2 : Nat) (d : Int) (f : Int → Int) (d1 : Int) (f1 : Int → Int) (d2 : Int) (f2 : Int → Int) (qt : Int → Int) : Option Value → zq_M → Prop := fun v M' => v = none ∧ ∃ d' x' h', zD qt d' ∧ zU h' x' ∧ M' o = some (.inr (8, [.ref b, .int (iI d')])) ∧ M' b = some (cJ (K 1) 25 qt) ∧ M' o1 = some (.inr (8, [.ref b1, .int (iI x')])) ∧ M' b1 = some (cJ (K 1) 25 h') ∧ ∀ q, q ≠ o → q ≠ b → q ≠ o1 → q ≠ b1 → M' q = M q
set_option maxHeartbeats 4000000 in
set_option maxRecDepth 100000 in
theorem c_PO_setQuotient (l : Launch) (D : va_G) (K : Nat → ClassId) (M : zq_M) (o : Nat) (b : Nat) (o1 : Nat) (b1 : Nat) (o2 : Nat) (b2 : Nat) (d : Int) (f : Int → Int) (d1 : Int) (f1 : Int → Int) (d2 : Int) (f2 : Int → Int) (qt : Int → Int) (h_o : M o = some (.inr (8, [.ref b, .int (iI d)]))) (h_b : M b = some (cJ (K 1) 25 f)) (h_o1 : M o1 = some (.inr (8, [.ref b1, .int (iI d1)]))) (h_b1 : M b1 = some (cJ (K 1) 25 f1)) (h_o2 : M o2 = some (.inr (8, [.ref b2, .int (iI d2)]))) (h_b2 : M b2 = some (cJ (K 1) 25 f2)) (hoo1 : o ≠ o1) (hbb1 : b ≠ b1) (hoo : o ≠ o2) (hbb : b ≠ b2) (hoo3 : o1 ≠ o2) (hbb3 : b1 ≠ b2) (hU : zU f d) (hU1 : zU f1 d1) (hD2 : zD f2 d2) (hd2 : 0 ≤ d2) (hlead : inL (f2 d2)) (hq0 : ∀ j, j < 0 ∨ d1 - d2 < j → qt j = 0) (hpr : ∀ j, f1 j = zcv qt f2 j (d1 - d2 + 1).toNat) (hrr : ∀ j, -9223372036854775807 ≤ qt j * f2 d2 ∧ qt j * f2 d2 < 9223372036854775808) (hrq : ∀ j, -9223372036854775807 ≤ qt j ∧ qt j < 9223372036854775808) : zq_Met l y_PO_setQuotient (.code y_PO_setQuotient b_PO_setQuotient 9 none :: lw_gd) { frames := 1, cells := 0, slots := 0, locals := 28 } D vwCl (zT K) [.ref o, .ref o1, .ref o2] M (P_PO_setQuotient K M o b o1 b1 o2 b2 d f d1 f1 d2 f2 qt) 0 0 := by
  refine zq_start (cc := b_PO_setQuotient) (maxL := 9) (ret := none) (by decide) rfl (Nat.le_of_ble_eq_true rfl) ?_
  intro p e s m below meth c A ls hx hb hr hml hts hown hnm hlocks hA hZ hw hl
  have hts : ∀ w ∈ lw_gd, w.before [.ref o, .ref o1, .ref o2].toArray s = true := fun w h => hts w (List.mem_cons_of_mem _ h)
  have hown : s.vm.findClass R_PO = some m.cls := hown
  have hK := hZ.1
  have hl : lv_has ls 9 [(0, .ref o), (1, .ref o1), (2, .ref o2)] := hl
  have hfr : ∀ q, q ≠ o → q ≠ b → q ≠ o1 → q ≠ b1 → M q = M q := fun q _ _ _ _ => rfl
  obtain ⟨he1, he2⟩ := zU_le hU1
  obtain ⟨he3, he4⟩ := zD_le hD2
  have hne := hD2.2.2.2.2 hd2
  have hL : ∀ (n : Nat) (i : Int) (x : Int) (h1 : Int → Int) (hq : Int → Int) (Mq : zq_M) (H : Heap) (locs : List Loc) (ls : Array Slot), (-25 ≤ i ∧ i ≤ d1 - d2) → (-1 ≤ x ∧ x ≤ 24) → (∀ j, h1 j = zcv qt f2 j (i + 1).toNat) → (∀ j, hq j = if i < j then qt j else 0) → (i + 1).toNat < n → (∀ q, q ≠ o → q ≠ b → q ≠ o1 → q ≠ b1 → Mq q = M q) → Mq o = some (.inr (8, [.ref b, .int (iI (-1))])) → Mq b = some (cJ (K 1) 25 hq) → Mq o1 = some (.inr (8, [.ref b1, .int (iI x)])) → Mq b1 = some (cJ (K 1) 25 h1) → Mq o2 = some (.inr (8, [.ref b2, .int (iI d2)])) → Mq b2 = some (cJ (K 1) 25 f2) → zq_W D vwCl A s.heap Mq H locs → lv_has ls 9 [(0, .ref o), (1, .ref o1), (2, .ref o2), (3, .long (iL (f2 d2))), (5, .int (iI (d1 - d2))), (6, .int (iI i))] → W p l e ({ frames := 1, cells := 0, slots := 0, locals := 28 } : Room) s m [.ref o, .ref o1, .ref o2].toArray below meth c H locs 0 0 (MQ below (zq_Q D vwCl (zT K) (P_PO_setQuotient K M o b o1 b1 o2 b2 d f d1 f1 d2 f2 qt) A) [.ref o, .ref o1, .ref o2].toArray s 0 0 A) (F0 m 35 ls []) := by
    intro n
    induction n with
    | zero =>
      intro i x h1 hq Mq H locs ls hi hx1 hh1 hhq hms hfr h_o h_b h_o1 h_b1 h_o2 h_b2 hw hl
      exact absurd hms (Nat.not_lt_zero _)
    | succ n ih_hL =>
      intro i x h1 hq Mq H locs ls hi hx1 hh1 hhq hms hfr h_o h_b h_o1 h_b1 h_o2 h_b2 hw hl
      refine lv_iload hx hb d_PO_setQuotient_35 (lv_at hl 5 rfl) ?_
      refine zq_if_lt (tgt := 87) hx hb d_PO_setQuotient_37 (by decide) ⟨by omega, by omega⟩ (fun hc1 => ?_) (fun hc1 => ?_)
      · have hz : hq = qt := funext fun j => by rw [hhq]; by_cases z : i < j; rw [if_pos z]; rw [if_neg z, hq0 j (by omega)]
        have hzz : ∀ j, h1 j = 0 := fun j => by rw [hh1, show (i + 1).toNat = 0 from by omega]; rfl
        refine lv_aload_n hx hb d_PO_setQuotient_87 rfl (lv_at hl 0 rfl) ?_
        refine lv_iload hx hb d_PO_setQuotient_88 (lv_at hl 4 rfl) ?_
        refine zq_callV (As := [.int (iI (d1 - d2))]) (rest := []) ⟨hx, hb, hml, hown, hts⟩ (c_PO_lowerDegree l D K Mq o b (-1) hq (d1 - d2) h_o h_b ⟨by omega, by omega⟩ (fun j hj => by rw [hz]; exact hq0 j (by omega)) (fun j hj => by rw [hz]; exact hq0 j (by omega)) (fun j => by rw [hz]; have := hrq j; exact ⟨by omega, by omega⟩)) (cwV 1 hts (zg_V tw_137 tw_139 ts_0 tw_8 tw_140) rfl rfl rfl (by decide +kernel) ⟨Nat.le_of_ble_eq_true rfl, Nat.le_of_ble_eq_true rfl⟩) hZ hw hA h_o rfl rfl rfl rfl hl.1 (Nat.le_of_ble_eq_true rfl) d_PO_setQuotient_90 ⟨Nat.le_of_ble_eq_true rfl, Nat.le_of_ble_eq_true rfl⟩ (fun v M3 H locs hp hw => ?_)
        obtain ⟨rfl, dd2, hDdd2, hs1, ho⟩ := hp
        have h_b : M3 b = some (cJ (K 1) 25 hq) := (ho _ (zq_ne h_b h_o (by simp))).trans h_b
        have h_o1 : M3 o1 = some (.inr (8, [.ref b1, .int (iI x)])) := (ho _ (Ne.symm hoo1)).trans h_o1
        have h_b1 : M3 b1 = some (cJ (K 1) 25 h1) := (ho _ (zq_ne h_b1 h_o (by simp))).trans h_b1
        have h_o2 : M3 o2 = some (.inr (8, [.ref b2, .int (iI d2)])) := (ho _ (Ne.symm hoo)).trans h_o2
        have h_b2 : M3 b2 = some (cJ (K 1) 25 f2) := (ho _ (zq_ne h_b2 h_o (by simp))).trans h_b2
        have h_o : M3 o = some (.inr (8, [.ref b, .int (iI dd2)])) := hs1
        have hfr : ∀ q, q ≠ o → q ≠ b → q ≠ o1 → q ≠ b1 → M3 q = M q := fun q g0 g1 g2 g3 => (ho q g0).trans (hfr q g0 g1 g2 g3)
        refine W.eq (g2 := F0 m 93 ls []) rfl ?_
        exact zq_vret hx hb hr hlocks hZ hw ⟨rfl, _, x, h1, hz ▸ hDdd2, ⟨by omega, by omega, fun j _ => hzz j, fun j _ => hzz j⟩, h_o, hz ▸ h_b, h_o1, h_b1, hfr⟩ d_PO_setQuotient_93
      · refine lv_aload_n hx hb d_PO_setQuotient_40 rfl (lv_at hl 1 rfl) ?_
        refine lv_iload hx hb d_PO_setQuotient_41 (lv_at hl 5 rfl) ?_
        refine lv_aload_n hx hb d_PO_setQuotient_43 rfl (lv_at hl 2 rfl) ?_
        refine zq_get hx hb hts i_PO hown hK hw h_o2 rfl 1 (by decide) (hts _ tw_122) rfl d_PO_setQuotient_44 ?_
        refine zq_iadd hx hb d_PO_setQuotient_47 ?_
        refine zq_callV (As := [.int (iI (i + d2))]) (rest := []) ⟨hx, hb, hml, hown, hts⟩ (c_PO_coefficient l D K Mq o1 b1 x h1 (i + d2) h_o1 h_b1 (fun j hj => zcv_out hh1 (by omega) hD2.2.2.1 hD2.2.2.2.1 (by omega)) ⟨by omega, by omega⟩) (cwV 1 hts (zg_V tw_452 tw_453 tw_454 tw_8 tw_455) rfl rfl rfl (by decide +kernel) ⟨Nat.le_of_ble_eq_true rfl, Nat.le_of_ble_eq_true rfl⟩) hZ hw hA h_o1 rfl rfl rfl rfl hl.1 (Nat.le_of_ble_eq_true rfl) d_PO_setQuotient_48 ⟨Nat.le_of_ble_eq_true rfl, Nat.le_of_ble_eq_true rfl⟩ (fun v M4 H locs hp hw => ?_)
        obtain ⟨rfl, hMe⟩ := hp
        rw [hMe] at hw
        refine W.eq (g2 := F0 m 51 ls [.long (iL (h1 (i + d2)))]) rfl ?_
        refine lv_lload_n hx hb d_PO_setQuotient_51 rfl (lv_at hl 3 rfl) ?_
        have htop : h1 (i + d2) = qt i * f2 d2 := zcv_top hh1 (by omega) hD2.2.2.1
        refine zq_ldiv hx hb (by rw [htop]; have := hrr i; exact ⟨by omega, by omega⟩) (by rw [htop]; have := hrr i; omega) hne hlead d_PO_setQuotient_52 ?_
        rw [show (Int.tdiv (h1 (i + d2)) (f2 d2) : Int) = qt i from (by rw [htop]; exact Int.mul_tdiv_cancel _ hne)]
        refine lv_lstore (lv' := [(7, .long (iL (qt i))), (0, .ref o), (1, .ref o1), (2, .ref o2), (3, .long (iL (f2 d2))), (5, .int (iI (d1 - d2))), (6, .int (iI i))]) hx hb d_PO_setQuotient_53 hl (by decide) rfl (fun ls hl => ?_)
        refine lv_aload_n hx hb d_PO_setQuotient_55 rfl (lv_at hl 2 rfl) ?_
        refine lv_aload_n hx hb d_PO_setQuotient_56 rfl (lv_at hl 3 rfl) ?_
        refine lv_iload hx hb d_PO_setQuotient_57 (lv_at hl 6 rfl) ?_
        refine lv_lload hx hb d_PO_setQuotient_59 (lv_at hl 0 rfl) ?_
        refine zq_lneg hx hb d_PO_setQuotient_61 ?_
        refine zq_callV (As := [.ref o2, .int (iI i), .long (iL (-(qt i)))]) (rest := []) ⟨hx, hb, hml, hown, hts⟩ (c_PO_addShifted l D K Mq o1 b1 o2 b2 x h1 d2 f2 i (-(qt i)) h_o1 h_b1 h_o2 h_b2 hoo3 hbb3 (by omega) (by omega) (by omega) (by omega) hD2.2.2.1 (fun j q => hD2.2.2.2.1 j (by omega)) (by have := hrq i; exact ⟨by omega, by omega⟩)) (cwV 3 hts (zg_V tw_456 tw_458 ts_20 tw_8 tw_459) rfl rfl rfl (by decide +kernel) ⟨Nat.le_of_ble_eq_true rfl, Nat.le_of_ble_eq_true rfl⟩) hZ hw hA h_o1 rfl rfl rfl rfl hl.1 (Nat.le_of_ble_eq_true rfl) d_PO_setQuotient_62 ⟨Nat.le_of_ble_eq_true rfl, Nat.le_of_ble_eq_true rfl⟩ (fun v M5 H locs hp hw => ?_)
        obtain ⟨rfl, hs1, hs2, ho⟩ := hp
        have h_o : M5 o = some (.inr (8, [.ref b, .int (iI (-1))])) := (ho _ hoo1 (zq_ne h_o h_b1 (by simp))).trans h_o
        have h_b : M5 b = some (cJ (K 1) 25 hq) := (ho _ (zq_ne h_b h_o1 (by simp)) hbb1).trans h_b
        have h_o2 : M5 o2 = some (.inr (8, [.ref b2, .int (iI d2)])) := (ho _ (Ne.symm hoo3) (zq_ne h_o2 h_b1 (by simp))).trans h_o2
        have h_b2 : M5 b2 = some (cJ (K 1) 25 f2) := (ho _ (zq_ne h_b2 h_o1 (by simp)) (Ne.symm hbb3)).trans h_b2
        have h_o1 : M5 o1 = some (.inr (8, [.ref b1, .int (iI (zad x d2 i (-(qt i))))])) := hs1
        have h_b1 : M5 b1 = some (cJ (K 1) 25 (fun j => h1 j + (-(qt i)) * f2 (j - i))) := hs2
        have hfr : ∀ q, q ≠ o → q ≠ b → q ≠ o1 → q ≠ b1 → M5 q = M q := fun q g0 g1 g2 g3 => (ho q g2 g3).trans (hfr q g0 g1 g2 g3)
        refine W.eq (g2 := F0 m 65 ls []) rfl ?_
        refine lv_iload hx hb d_PO_setQuotient_65 (lv_at hl 6 rfl) ?_
        refine lv_bipush (v := iI 25) hx hb d_PO_setQuotient_67 (by decide) ?_
        refine zq_icmp_ge (tgt := 81) hx hb d_PO_setQuotient_69 (by decide) ⟨by omega, by omega⟩ (by decide) (fun hc6 => ?_) (fun hc6 => ?_)
        · exact absurd hc6 (by omega)
        · refine lv_aload_n hx hb d_PO_setQuotient_72 rfl (lv_at hl 1 rfl) ?_
          refine zq_get hx hb hts i_PO hown hK hw h_o rfl 0 (by decide) (hts _ tw_121) rfl d_PO_setQuotient_73 ?_
          refine lv_iload hx hb d_PO_setQuotient_76 (lv_at hl 6 rfl) ?_
          refine lv_lload hx hb d_PO_setQuotient_78 (lv_at hl 0 rfl) ?_
          refine zq_last hx hb hK hw 1 h_b rfl (by omega) (by omega) (by decide) d_PO_setQuotient_80 (fun M7 H locs hs ho hw => ?_)
          have h_o : M7 o = some (.inr (8, [.ref b, .int (iI (-1))])) := (ho _ (zq_ne h_o h_b (by simp))).trans h_o
          have h_o1 : M7 o1 = some (.inr (8, [.ref b1, .int (iI (zad x d2 i (-(qt i))))])) := (ho _ (zq_ne h_o1 h_b (by simp))).trans h_o1
          have h_b1 : M7 b1 = some (cJ (K 1) 25 (fun j => h1 j + (-(qt i)) * f2 (j - i))) := (ho _ (Ne.symm hbb1)).trans h_b1
          have h_o2 : M7 o2 = some (.inr (8, [.ref b2, .int (iI d2)])) := (ho _ (zq_ne h_o2 h_b (by simp))).trans h_o2
          have h_b2 : M7 b2 = some (cJ (K 1) 25 f2) := (ho _ (Ne.symm hbb)).trans h_b2
          have h_b : M7 b = some (cJ (K 1) 25 (zu hq i (qt i))) := hs
          have hfr : ∀ q, q ≠ o → q ≠ b → q ≠ o1 → q ≠ b1 → M7 q = M q := fun q g0 g1 g2 g3 => (ho q g1).trans (hfr q g0 g1 g2 g3)
          refine lv_iinc (v := iI (i - 1)) (lv' := [(6, .int (iI (i - 1))), (7, .long (iL (qt i))), (0, .ref o), (1, .ref o1), (2, .ref o2), (3, .long (iL (f2 d2))), (5, .int (iI (d1 - d2)))]) hx hb d_PO_setQuotient_81 hl (k := 6) rfl ((iI_add _ _).trans (congrArg iI (Int.sub_eq_add_neg).symm)) (by decide) rfl (fun ls hl => ?_)
          refine lv_goto (tgt := 35) hx hb d_PO_setQuotient_84 (by decide) ?_
          exact ih_hL (i - 1) (zad x d2 i (-(qt i))) (fun j => h1 j + (-(qt i)) * f2 (j - i)) (zu hq i (qt i)) M7 _ _ _ (by omega) (zad_le (by omega) (by omega)) (zcv_back hh1 (by omega)) (zqt_step hhq) (by omega) hfr h_o h_b h_o1 h_b1 h_o2 h_b2 hw (lv_sub hl [2, 3, 4, 5, 6, 0] rfl)
  refine lv_aload_n hx hb d_PO_setQuotient_0 rfl (lv_at hl 0 rfl) ?_
  refine zq_callV (As := []) (rest := []) ⟨hx, hb, hml, hown, hts⟩ (c_PO_setZero l D K M o b d f h_o h_b hU) (cwV 0 hts (zg_V tw_133 tw_134 tw_135 tw_8 tw_136) rfl rfl rfl (by decide +kernel) ⟨Nat.le_of_ble_eq_true rfl, Nat.le_of_ble_eq_true rfl⟩) hZ hw hA h_o rfl rfl rfl rfl hl.1 (Nat.le_of_ble_eq_true rfl) d_PO_setQuotient_1 ⟨Nat.le_of_ble_eq_true rfl, Nat.le_of_ble_eq_true rfl⟩ (fun v M8 H locs hp hw => ?_)
  obtain ⟨rfl, hs1, hs2, ho⟩ := hp
  have h_o1 : M8 o1 = some (.inr (8, [.ref b1, .int (iI d1)])) := (ho _ (Ne.symm hoo1) (zq_ne h_o1 h_b (by simp))).trans h_o1
  have h_b1 : M8 b1 = some (cJ (K 1) 25 f1) := (ho _ (zq_ne h_b1 h_o (by simp)) (Ne.symm hbb1)).trans h_b1
  have h_o2 : M8 o2 = some (.inr (8, [.ref b2, .int (iI d2)])) := (ho _ (Ne.symm hoo) (zq_ne h_o2 h_b (by simp))).trans h_o2
  have h_b2 : M8 b2 = some (cJ (K 1) 25 f2) := (ho _ (zq_ne h_b2 h_o (by simp)) (Ne.symm hbb)).trans h_b2
  have h_o : M8 o = some (.inr (8, [.ref b, .int (iI (-1))])) := hs1
  have h_b : M8 b = some (cJ (K 1) 25 (fun _ => 0)) := hs2
  have hfr : ∀ q, q ≠ o → q ≠ b → q ≠ o1 → q ≠ b1 → M8 q = M q := fun q g0 g1 g2 g3 => (ho q g0 g1).trans (hfr q g0 g1 g2 g3)
  refine W.eq (g2 := F0 m 4 ls []) rfl ?_
  refine lv_aload_n hx hb d_PO_setQuotient_4 rfl (lv_at hl 2 rfl) ?_
  refine lv_aload_n hx hb d_PO_setQuotient_5 rfl (lv_at hl 2 rfl) ?_
  refine zq_get hx hb hts i_PO hown hK hw h_o2 rfl 1 (by decide) (hts _ tw_122) rfl d_PO_setQuotient_6 ?_
  refine zq_callV (As := [.int (iI d2)]) (rest := []) ⟨hx, hb, hml, hown, hts⟩ (c_PO_coefficient l D K M8 o2 b2 d2 f2 d2 h_o2 h_b2 (fun j hj => zD_out hD2 hj) ⟨by omega, by omega⟩) (cwV 1 hts (zg_V tw_452 tw_453 tw_454 tw_8 tw_455) rfl rfl rfl (by decide +kernel) ⟨Nat.le_of_ble_eq_true rfl, Nat.le_of_ble_eq_true rfl⟩) hZ hw hA h_o2 rfl rfl rfl rfl hl.1 (Nat.le_of_ble_eq_true rfl) d_PO_setQuotient_9 ⟨Nat.le_of_ble_eq_true rfl, Nat.le_of_ble_eq_true rfl⟩ (fun v M9 H locs hp hw => ?_)
  obtain ⟨rfl, hMe⟩ := hp
  rw [hMe] at hw
  refine W.eq (g2 := F0 m 12 ls [.long (iL (f2 d2))]) rfl ?_
  refine lv_lstore_n (lv' := [(3, .long (iL (f2 d2))), (0, .ref o), (1, .ref o1), (2, .ref o2)]) hx hb d_PO_setQuotient_12 rfl hl (by decide) rfl (fun ls hl => ?_)
  refine lv_lload_n hx hb d_PO_setQuotient_13 rfl (lv_at hl 0 rfl) ?_
  refine lv_lconst (v := iL 0) hx hb d_PO_setQuotient_14 (by decide) ?_
  refine zq_lcmp_ne (tgt := 20) hx hb d_PO_setQuotient_15 d_PO_setQuotient_16 (by decide) hlead (by decide) (fun hc10 => ?_) (fun hc10 => ?_)
  · refine lv_aload_n hx hb d_PO_setQuotient_20 rfl (lv_at hl 2 rfl) ?_
    refine zq_get hx hb hts i_PO hown hK hw h_o1 rfl 1 (by decide) (hts _ tw_122) rfl d_PO_setQuotient_21 ?_
    refine lv_aload_n hx hb d_PO_setQuotient_24 rfl (lv_at hl 3 rfl) ?_
    refine zq_get hx hb hts i_PO hown hK hw h_o2 rfl 1 (by decide) (hts _ tw_122) rfl d_PO_setQuotient_25 ?_
    refine zq_isub hx hb d_PO_setQuotient_28 ?_
    refine lv_istore (lv' := [(5, .int (iI (d1 - d2))), (3, .long (iL (f2 d2))), (0, .ref o), (1, .ref o1), (2, .ref o2)]) hx hb d_PO_setQuotient_29 hl (by decide) rfl (fun ls hl => ?_)
    refine lv_iload hx hb d_PO_setQuotient_31 (lv_at hl 0 rfl) ?_
    refine lv_istore (lv' := [(6, .int (iI (d1 - d2))), (5, .int (iI (d1 - d2))), (3, .long (iL (f2 d2))), (0, .ref o), (1, .ref o1), (2, .ref o2)]) hx hb d_PO_setQuotient_33 hl (by decide) rfl (fun ls hl => ?_)
    exact hL _ (d1 - d2) d1 f1 (fun _ => 0) M8 _ _ _ (by omega) (by omega) hpr (fun j => by by_cases z : d1 - d2 < j; rw [if_pos z, hq0 j (Or.inr z)]; rw [if_neg z]) (Nat.lt_succ_self _) hfr h_o h_b h_o1 h_b1 h_o2 h_b2 hw (lv_sub hl [3, 4, 5, 2, 1, 0] rfl)
  · exact absurd hc10 hne
abbrev P_PO_setNormalFormOf (K : Nat → ClassId) (M : zq_M) (o : Nat) (b : Nat) (o2 : Nat) (b2 : Nat) (d : Int) (f : Int → Int) (d2 : Int) (g : Int → Int) : Option Value → zq_M → Prop := fun v M' => v = none ∧ ∃ lw d', (0 ≤ lw ∧ lw ≤ 24) ∧ (∀ j, j < lw → g j = 0) ∧ (0 ≤ d2 → g lw ≠ 0) ∧ zD (fun j => zsg (g lw) * g (j + lw)) d' ∧ M' o = some (.inr (8, [.ref b, .int (iI d')])) ∧ M' b = some (cJ (K 1) 25 (fun j => zsg (g lw) * g (j + lw))) ∧ ∀ q, q ≠ o → q ≠ b → M' q = M q
set_option maxHeartbeats 4000000 in
set_option maxRecDepth 100000 in
theorem c_PO_setNormalFormOf (l : Launch) (D : va_G) (K : Nat → ClassId) (M : zq_M) (o : Nat) (b : Nat) (o2 : Nat) (b2 : Nat) (d : Int) (f : Int → Int) (d2 : Int) (g : Int → Int) (h_o : M o = some (.inr (8, [.ref b, .int (iI d)]))) (h_b : M b = some (cJ (K 1) 25 f)) (h_o2 : M o2 = some (.inr (8, [.ref b2, .int (iI d2)]))) (h_b2 : M b2 = some (cJ (K 1) 25 g)) (hoo : o ≠ o2) (hbb : b ≠ b2) (hU : zU f d) (hU2 : zD g d2) (hin : ∀ j, -9223372036854775807 ≤ g j ∧ g j < 9223372036854775808) : zq_Met l y_PO_setNormalFormOf (.code y_PO_setNormalFormOf b_PO_setNormalFormOf 3 none :: lw_gd) { frames := 1, cells := 0, slots := 0, locals := 28 } D vwCl (zT K) [.ref o, .ref o2] M (P_PO_setNormalFormOf K M o b o2 b2 d f d2 g) 0 0 := by
  refine zq_start (cc := b_PO_setNormalFormOf) (maxL := 3) (ret := none) (by decide) rfl (Nat.le_of_ble_eq_true rfl) ?_
  intro p e s m below meth c A ls hx hb hr hml hts hown hnm hlocks hA hZ hw hl
  have hts : ∀ w ∈ lw_gd, w.before [.ref o, .ref o2].toArray s = true := fun w h => hts w (List.mem_cons_of_mem _ h)
  have hown : s.vm.findClass R_PO = some m.cls := hown
  have hK := hZ.1
  have hl : lv_has ls 3 [(0, .ref o), (1, .ref o2)] := hl
  have hfr : ∀ q, q ≠ o → q ≠ b → M q = M q := fun q _ _ => rfl
  obtain ⟨he3, he4⟩ := zD_le hU2
  have hinL : ∀ j, inL (g j) := fun j => by have := hin j; exact ⟨by omega, by omega⟩
  have hJ : ∀ (i : Int) (Mq : zq_M) (H : Heap) (locs : List Loc) (ls : Array Slot), (0 ≤ i ∧ (i ≤ d2 ∨ i = 0)) → (∀ j, j < i → g j = 0) → (0 ≤ d2 → g i ≠ 0) → (∀ q, q ≠ o → q ≠ b → Mq q = M q) → Mq o = some (.inr (8, [.ref b, .int (iI d)])) → Mq b = some (cJ (K 1) 25 f) → Mq o2 = some (.inr (8, [.ref b2, .int (iI d2)])) → Mq b2 = some (cJ (K 1) 25 g) → zq_W D vwCl A s.heap Mq H locs → lv_has ls 3 [(0, .ref o), (1, .ref o2), (2, .int (iI i))] → W p l e ({ frames := 1, cells := 0, slots := 0, locals := 28 } : Room) s m [.ref o, .ref o2].toArray below meth c H locs 0 0 (MQ below (zq_Q D vwCl (zT K) (P_PO_setNormalFormOf K M o b o2 b2 d f d2 g) A) [.ref o, .ref o2].toArray s 0 0 A) (F0 m 26 ls []) := by
    intro i Mq H locs ls hi hlow hnz hfr h_o h_b h_o2 h_b2 hw hl
    refine lv_aload_n hx hb d_PO_setNormalFormOf_26 rfl (lv_at hl 0 rfl) ?_
    refine zq_callV (As := []) (rest := []) ⟨hx, hb, hml, hown, hts⟩ (c_PO_setZero l D K Mq o b d f h_o h_b hU) (cwV 0 hts (zg_V tw_133 tw_134 tw_135 tw_8 tw_136) rfl rfl rfl (by decide +kernel) ⟨Nat.le_of_ble_eq_true rfl, Nat.le_of_ble_eq_true rfl⟩) hZ hw hA h_o rfl rfl rfl rfl hl.1 (Nat.le_of_ble_eq_true rfl) d_PO_setNormalFormOf_27 ⟨Nat.le_of_ble_eq_true rfl, Nat.le_of_ble_eq_true rfl⟩ (fun v M1 H locs hp hw => ?_)
    obtain ⟨rfl, hs1, hs2, ho⟩ := hp
    have h_o2 : M1 o2 = some (.inr (8, [.ref b2, .int (iI d2)])) := (ho _ (Ne.symm hoo) (zq_ne h_o2 h_b (by simp))).trans h_o2
    have h_b2 : M1 b2 = some (cJ (K 1) 25 g) := (ho _ (zq_ne h_b2 h_o (by simp)) (Ne.symm hbb)).trans h_b2
    have h_o : M1 o = some (.inr (8, [.ref b, .int (iI (-1))])) := hs1
    have h_b : M1 b = some (cJ (K 1) 25 (fun _ => 0)) := hs2
    have hfr : ∀ q, q ≠ o → q ≠ b → M1 q = M q := fun q g0 g1 => (ho q g0 g1).trans (hfr q g0 g1)
    refine W.eq (g2 := F0 m 30 ls []) rfl ?_
    refine lv_aload_n hx hb d_PO_setNormalFormOf_30 rfl (lv_at hl 0 rfl) ?_
    refine lv_aload_n hx hb d_PO_setNormalFormOf_31 rfl (lv_at hl 1 rfl) ?_
    refine lv_iload_n hx hb d_PO_setNormalFormOf_32 rfl (lv_at hl 2 rfl) ?_
    refine zq_ineg hx hb d_PO_setNormalFormOf_33 ?_
    refine lv_aload_n hx hb d_PO_setNormalFormOf_34 rfl (lv_at hl 1 rfl) ?_
    refine lv_iload_n hx hb d_PO_setNormalFormOf_35 rfl (lv_at hl 2 rfl) ?_
    refine zq_callV (As := [.int (iI i)]) (rest := [.int (iI (-i)), .ref o2, .ref o]) ⟨hx, hb, hml, hown, hts⟩ (c_PO_coefficient l D K M1 o2 b2 d2 g i h_o2 h_b2 (fun j hj => zD_out hU2 hj) ⟨by omega, by omega⟩) (cwV 1 hts (zg_V tw_452 tw_453 tw_454 tw_8 tw_455) rfl rfl rfl (by decide +kernel) ⟨Nat.le_of_ble_eq_true rfl, Nat.le_of_ble_eq_true rfl⟩) hZ hw hA h_o2 rfl rfl rfl rfl hl.1 (Nat.le_of_ble_eq_true rfl) d_PO_setNormalFormOf_36 ⟨Nat.le_of_ble_eq_true rfl, Nat.le_of_ble_eq_true rfl⟩ (fun v M2 H locs hp hw => ?_)
    obtain ⟨rfl, hMe⟩ := hp
    rw [hMe] at hw
    refine W.eq (g2 := F0 m 39 ls [.long (iL (g i)), .int (iI (-i)), .ref o2, .ref o]) rfl ?_
    refine lv_lconst (v := iL 0) hx hb d_PO_setNormalFormOf_39 (by decide) ?_
    refine zq_lcmp_ge (tgt := 50) hx hb d_PO_setNormalFormOf_40 d_PO_setNormalFormOf_41 (by decide) (hinL i) (by decide) (fun hc3 => ?_) (fun hc3 => ?_)
    · refine lv_lconst (v := iL 1) hx hb d_PO_setNormalFormOf_50 (by decide) ?_
      refine zq_callV (As := [.ref o2, .int (iI (-i)), .long (iL 1)]) (rest := []) ⟨hx, hb, hml, hown, hts⟩ (c_PO_addShifted l D K M1 o b o2 b2 (-1) (fun _ => 0) d2 g (-i) 1 h_o h_b h_o2 h_b2 hoo hbb (by omega) (by omega) (by omega) (by omega) hU2.2.2.1 (fun j q => by by_cases z : j < i; exact hlow j z; exact hU2.2.2.2.1 j (by omega)) (by decide)) (cwV 3 hts (zg_V tw_456 tw_458 ts_20 tw_8 tw_459) rfl rfl rfl (by decide +kernel) ⟨Nat.le_of_ble_eq_true rfl, Nat.le_of_ble_eq_true rfl⟩) hZ hw hA h_o rfl rfl rfl rfl hl.1 (Nat.le_of_ble_eq_true rfl) d_PO_setNormalFormOf_51 ⟨Nat.le_of_ble_eq_true rfl, Nat.le_of_ble_eq_true rfl⟩ (fun v M4 H locs hp hw => ?_)
      obtain ⟨rfl, hs1, hs2, ho⟩ := hp
      have h_o2 : M4 o2 = some (.inr (8, [.ref b2, .int (iI d2)])) := (ho _ (Ne.symm hoo) (zq_ne h_o2 h_b (by simp))).trans h_o2
      have h_b2 : M4 b2 = some (cJ (K 1) 25 g) := (ho _ (zq_ne h_b2 h_o (by simp)) (Ne.symm hbb)).trans h_b2
      have h_o : M4 o = some (.inr (8, [.ref b, .int (iI (zad (-1) d2 (-i) 1))])) := hs1
      have h_b : M4 b = some (cJ (K 1) 25 (fun j => (fun _ => 0) j + 1 * g (j - (-i)))) := hs2
      have hfr : ∀ q, q ≠ o → q ≠ b → M4 q = M q := fun q g0 g1 => (ho q g0 g1).trans (hfr q g0 g1)
      refine W.eq (g2 := F0 m 54 ls []) rfl ?_
      have hz : (fun j => (fun _ => 0) j + 1 * g (j - (-i))) = fun j => zsg (g i) * g (j + i) := znf_fun (by simp [zsg]; omega)
      refine lv_aload_n hx hb d_PO_setNormalFormOf_54 rfl (lv_at hl 0 rfl) ?_
      refine lv_aload_n hx hb d_PO_setNormalFormOf_55 rfl (lv_at hl 0 rfl) ?_
      refine zq_get hx hb hts i_PO hown hK hw h_o rfl 1 (by decide) (hts _ tw_122) rfl d_PO_setNormalFormOf_56 ?_
      have hzd := zad_le (sh := -i) (fc := 1) (d := -1) (d2 := d2) (by omega) (by omega)
      refine zq_callV (As := [.int (iI (zad (-1) d2 (-i) 1))]) (rest := []) ⟨hx, hb, hml, hown, hts⟩ (c_PO_lowerDegree l D K M4 o b (zad (-1) d2 (-i) 1) (fun j => (fun _ => 0) j + 1 * g (j - (-i))) (zad (-1) d2 (-i) 1) h_o h_b ⟨by omega, by omega⟩ (fun j hj => zsh_out (d := -1) (fun _ _ => rfl) hU2.2.2.1 hU2.2.2.2.1 (by omega)) (fun j hj => (congrFun hz j).trans (by show zsg (g i) * g (j + i) = 0; rw [hlow (j + i) (by omega)]; simp)) (fun j => zq_inL_eq (congrFun hz j) (by have := hin (j + i); show inL (zsg (g i) * g (j + i)); unfold zsg; split; exact ⟨by omega, by omega⟩; exact ⟨by omega, by omega⟩))) (cwV 1 hts (zg_V tw_137 tw_139 ts_0 tw_8 tw_140) rfl rfl rfl (by decide +kernel) ⟨Nat.le_of_ble_eq_true rfl, Nat.le_of_ble_eq_true rfl⟩) hZ hw hA h_o rfl rfl rfl rfl hl.1 (Nat.le_of_ble_eq_true rfl) d_PO_setNormalFormOf_59 ⟨Nat.le_of_ble_eq_true rfl, Nat.le_of_ble_eq_true rfl⟩ (fun v M6 H locs hp hw => ?_)
      obtain ⟨rfl, dd5, hDdd5, hs1, ho⟩ := hp
      have h_b : M6 b = some (cJ (K 1) 25 (fun j => (fun _ => 0) j + 1 * g (j - (-i)))) := (ho _ (zq_ne h_b h_o (by simp))).trans h_b
      have h_o2 : M6 o2 = some (.inr (8, [.ref b2, .int (iI d2)])) := (ho _ (Ne.symm hoo)).trans h_o2
      have h_b2 : M6 b2 = some (cJ (K 1) 25 g) := (ho _ (zq_ne h_b2 h_o (by simp))).trans h_b2
      have h_o : M6 o = some (.inr (8, [.ref b, .int (iI dd5)])) := hs1
      have hfr : ∀ q, q ≠ o → q ≠ b → M6 q = M q := fun q g0 g1 => (ho q g0).trans (hfr q g0 g1)
      refine W.eq (g2 := F0 m 62 ls []) rfl ?_
      exact zq_vret hx hb hr hlocks hZ hw ⟨rfl, i, _, ⟨by omega, by omega⟩, hlow, hnz, hz ▸ hDdd5, h_o, hz ▸ h_b, hfr⟩ d_PO_setNormalFormOf_62
    · refine lv_ldc2 (v := iL (-1)) hx hb hown (hts _ tw_473) d_PO_setNormalFormOf_44 ?_
      refine lv_goto (tgt := 51) hx hb d_PO_setNormalFormOf_47 (by decide) ?_
      refine zq_callV (As := [.ref o2, .int (iI (-i)), .long (iL (-1))]) (rest := []) ⟨hx, hb, hml, hown, hts⟩ (c_PO_addShifted l D K M1 o b o2 b2 (-1) (fun _ => 0) d2 g (-i) (-1) h_o h_b h_o2 h_b2 hoo hbb (by omega) (by omega) (by omega) (by omega) hU2.2.2.1 (fun j q => by by_cases z : j < i; exact hlow j z; exact hU2.2.2.2.1 j (by omega)) (by decide)) (cwV 3 hts (zg_V tw_456 tw_458 ts_20 tw_8 tw_459) rfl rfl rfl (by decide +kernel) ⟨Nat.le_of_ble_eq_true rfl, Nat.le_of_ble_eq_true rfl⟩) hZ hw hA h_o rfl rfl rfl rfl hl.1 (Nat.le_of_ble_eq_true rfl) d_PO_setNormalFormOf_51 ⟨Nat.le_of_ble_eq_true rfl, Nat.le_of_ble_eq_true rfl⟩ (fun v M7 H locs hp hw => ?_)
      obtain ⟨rfl, hs1, hs2, ho⟩ := hp
      have h_o2 : M7 o2 = some (.inr (8, [.ref b2, .int (iI d2)])) := (ho _ (Ne.symm hoo) (zq_ne h_o2 h_b (by simp))).trans h_o2
      have h_b2 : M7 b2 = some (cJ (K 1) 25 g) := (ho _ (zq_ne h_b2 h_o (by simp)) (Ne.symm hbb)).trans h_b2
      have h_o : M7 o = some (.inr (8, [.ref b, .int (iI (zad (-1) d2 (-i) (-1)))])) := hs1
      have h_b : M7 b = some (cJ (K 1) 25 (fun j => (fun _ => 0) j + (-1) * g (j - (-i)))) := hs2
      have hfr : ∀ q, q ≠ o → q ≠ b → M7 q = M q := fun q g0 g1 => (ho q g0 g1).trans (hfr q g0 g1)
      refine W.eq (g2 := F0 m 54 ls []) rfl ?_
      have hz : (fun j => (fun _ => 0) j + (-1) * g (j - (-i))) = fun j => zsg (g i) * g (j + i) := znf_fun (by simp [zsg]; omega)
      refine lv_aload_n hx hb d_PO_setNormalFormOf_54 rfl (lv_at hl 0 rfl) ?_
      refine lv_aload_n hx hb d_PO_setNormalFormOf_55 rfl (lv_at hl 0 rfl) ?_
      refine zq_get hx hb hts i_PO hown hK hw h_o rfl 1 (by decide) (hts _ tw_122) rfl d_PO_setNormalFormOf_56 ?_
      have hzd := zad_le (sh := -i) (fc := -1) (d := -1) (d2 := d2) (by omega) (by omega)
      refine zq_callV (As := [.int (iI (zad (-1) d2 (-i) (-1)))]) (rest := []) ⟨hx, hb, hml, hown, hts⟩ (c_PO_lowerDegree l D K M7 o b (zad (-1) d2 (-i) (-1)) (fun j => (fun _ => 0) j + (-1) * g (j - (-i))) (zad (-1) d2 (-i) (-1)) h_o h_b ⟨by omega, by omega⟩ (fun j hj => zsh_out (d := -1) (fun _ _ => rfl) hU2.2.2.1 hU2.2.2.2.1 (by omega)) (fun j hj => (congrFun hz j).trans (by show zsg (g i) * g (j + i) = 0; rw [hlow (j + i) (by omega)]; simp)) (fun j => zq_inL_eq (congrFun hz j) (by have := hin (j + i); show inL (zsg (g i) * g (j + i)); unfold zsg; split; exact ⟨by omega, by omega⟩; exact ⟨by omega, by omega⟩))) (cwV 1 hts (zg_V tw_137 tw_139 ts_0 tw_8 tw_140) rfl rfl rfl (by decide +kernel) ⟨Nat.le_of_ble_eq_true rfl, Nat.le_of_ble_eq_true rfl⟩) hZ hw hA h_o rfl rfl rfl rfl hl.1 (Nat.le_of_ble_eq_true rfl) d_PO_setNormalFormOf_59 ⟨Nat.le_of_ble_eq_true rfl, Nat.le_of_ble_eq_true rfl⟩ (fun v M9 H locs hp hw => ?_)
      obtain ⟨rfl, dd8, hDdd8, hs1, ho⟩ := hp
      have h_b : M9 b = some (cJ (K 1) 25 (fun j => (fun _ => 0) j + (-1) * g (j - (-i)))) := (ho _ (zq_ne h_b h_o (by simp))).trans h_b
      have h_o2 : M9 o2 = some (.inr (8, [.ref b2, .int (iI d2)])) := (ho _ (Ne.symm hoo)).trans h_o2
      have h_b2 : M9 b2 = some (cJ (K 1) 25 g) := (ho _ (zq_ne h_b2 h_o (by simp))).trans h_b2
      have h_o : M9 o = some (.inr (8, [.ref b, .int (iI dd8)])) := hs1
      have hfr : ∀ q, q ≠ o → q ≠ b → M9 q = M q := fun q g0 g1 => (ho q g0).trans (hfr q g0 g1)
      refine W.eq (g2 := F0 m 62 ls []) rfl ?_
      exact zq_vret hx hb hr hlocks hZ hw ⟨rfl, i, _, ⟨by omega, by omega⟩, hlow, hnz, hz ▸ hDdd8, h_o, hz ▸ h_b, hfr⟩ d_PO_setNormalFormOf_62
  have hL : ∀ (n : Nat) (i : Int) (Mq : zq_M) (H : Heap) (locs : List Loc) (ls : Array Slot), (0 ≤ i ∧ (i ≤ d2 ∨ i = 0)) → (∀ j, j < i → g j = 0) → (d2 - i).toNat < n → (∀ q, q ≠ o → q ≠ b → Mq q = M q) → Mq o = some (.inr (8, [.ref b, .int (iI d)])) → Mq b = some (cJ (K 1) 25 f) → Mq o2 = some (.inr (8, [.ref b2, .int (iI d2)])) → Mq b2 = some (cJ (K 1) 25 g) → zq_W D vwCl A s.heap Mq H locs → lv_has ls 3 [(0, .ref o), (1, .ref o2), (2, .int (iI i))] → W p l e ({ frames := 1, cells := 0, slots := 0, locals := 28 } : Room) s m [.ref o, .ref o2].toArray below meth c H locs 0 0 (MQ below (zq_Q D vwCl (zT K) (P_PO_setNormalFormOf K M o b o2 b2 d f d2 g) A) [.ref o, .ref o2].toArray s 0 0 A) (F0 m 2 ls []) := by
    intro n
    induction n with
    | zero =>
      intro i Mq H locs ls hi hlow hms hfr h_o h_b h_o2 h_b2 hw hl
      exact absurd hms (Nat.not_lt_zero _)
    | succ n ih_hL =>
      intro i Mq H locs ls hi hlow hms hfr h_o h_b h_o2 h_b2 hw hl
      refine lv_iload_n hx hb d_PO_setNormalFormOf_2 rfl (lv_at hl 2 rfl) ?_
      refine lv_aload_n hx hb d_PO_setNormalFormOf_3 rfl (lv_at hl 1 rfl) ?_
      refine zq_get hx hb hts i_PO hown hK hw h_o2 rfl 1 (by decide) (hts _ tw_122) rfl d_PO_setNormalFormOf_4 ?_
      refine zq_icmp_ge (tgt := 26) hx hb d_PO_setNormalFormOf_7 (by decide) ⟨by omega, by omega⟩ ⟨by omega, by omega⟩ (fun hc10 => ?_) (fun hc10 => ?_)
      · exact hJ i Mq _ _ _ (by omega) hlow (fun q => by rw [show i = d2 from by omega]; exact hU2.2.2.2.2 q) hfr h_o h_b h_o2 h_b2 hw (lv_sub hl [0, 1, 2] rfl)
      · refine lv_aload_n hx hb d_PO_setNormalFormOf_10 rfl (lv_at hl 1 rfl) ?_
        refine lv_iload_n hx hb d_PO_setNormalFormOf_11 rfl (lv_at hl 2 rfl) ?_
        refine zq_callV (As := [.int (iI i)]) (rest := []) ⟨hx, hb, hml, hown, hts⟩ (c_PO_coefficient l D K Mq o2 b2 d2 g i h_o2 h_b2 (fun j hj => zD_out hU2 hj) ⟨by omega, by omega⟩) (cwV 1 hts (zg_V tw_452 tw_453 tw_454 tw_8 tw_455) rfl rfl rfl (by decide +kernel) ⟨Nat.le_of_ble_eq_true rfl, Nat.le_of_ble_eq_true rfl⟩) hZ hw hA h_o2 rfl rfl rfl rfl hl.1 (Nat.le_of_ble_eq_true rfl) d_PO_setNormalFormOf_12 ⟨Nat.le_of_ble_eq_true rfl, Nat.le_of_ble_eq_true rfl⟩ (fun v M11 H locs hp hw => ?_)
        obtain ⟨rfl, hMe⟩ := hp
        rw [hMe] at hw
        refine W.eq (g2 := F0 m 15 ls [.long (iL (g i))]) rfl ?_
        refine lv_lconst (v := iL 0) hx hb d_PO_setNormalFormOf_15 (by decide) ?_
        refine zq_lcmp_ne (tgt := 26) hx hb d_PO_setNormalFormOf_16 d_PO_setNormalFormOf_17 (by decide) (hinL i) (by decide) (fun hc12 => ?_) (fun hc12 => ?_)
        · exact hJ i Mq _ _ _ (by omega) hlow (fun _ => by assumption) hfr h_o h_b h_o2 h_b2 hw (lv_sub hl [0, 1, 2] rfl)
        · refine lv_iinc (v := iI (i + 1)) (lv' := [(2, .int (iI (i + 1))), (0, .ref o), (1, .ref o2)]) hx hb d_PO_setNormalFormOf_20 hl (k := 2) rfl (iI_add _ _) (by decide) rfl (fun ls hl => ?_)
          refine lv_goto (tgt := 2) hx hb d_PO_setNormalFormOf_23 (by decide) ?_
          exact ih_hL (i + 1) Mq _ _ _ (by omega) (fun j hj => by by_cases q : j = i; rw [q]; assumption; exact hlow j (by omega)) (by omega) hfr h_o h_b h_o2 h_b2 hw (lv_sub hl [1, 2, 0] rfl)
  refine lv_iconst (v := iI 0) hx hb d_PO_setNormalFormOf_0 rfl ?_
  refine lv_istore_n (lv' := [(2, .int (iI 0)), (0, .ref o), (1, .ref o2)]) hx hb d_PO_setNormalFormOf_1 rfl hl (by decide) rfl (fun ls hl => ?_)
  exact hL _ 0 M _ _ _ (by omega) hU2.2.2.2.1 (Nat.lt_succ_self _) hfr h_o h_b h_o2 h_b2 hw (lv_sub hl [1, 2, 0] rfl)
