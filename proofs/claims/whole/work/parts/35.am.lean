abbrev P_AM_isLabel (K : Nat → ClassId) (M : zq_M) (x : Int) : Option Value → zq_M → Prop := fun v M' => v = some (.int (iI (if 1 ≤ x ∧ x ≤ 9999 then 1 else 0))) ∧ M' = M
set_option maxHeartbeats 4000000 in
set_option maxRecDepth 100000 in
theorem c_AM_isLabel (l : Launch) (D : va_G) (K : Nat → ClassId) (M : zq_M) (x : Int) (hx0 : inI x) : zq_Met l y_AM_isLabel (.code y_AM_isLabel b_AM_isLabel 1 (some .boolean) :: lw_gd) { frames := 0, cells := 0, slots := 0, locals := 0 } D vwCl (zT K) [.int (iI x)] M (P_AM_isLabel K M x) 0 0 := by
  refine zq_start (cc := b_AM_isLabel) (maxL := 1) (ret := (some .boolean)) (by decide) rfl (Nat.le_of_ble_eq_true rfl) ?_
  intro p e s m below meth co A ls hx hb hr hml hts hown hnm hlocks hA hZ hw hl
  have hts : ∀ w ∈ lw_gd, w.before [.int (iI x)].toArray s = true := fun w h => hts w (List.mem_cons_of_mem _ h)
  have hown : s.vm.findClass R_AM = some m.cls := hown
  have hK := hZ.1
  have hl : lv_has ls 1 [(0, .int (iI x))] := hl
  refine lv_iload_n hx hb d_AM_isLabel_0 rfl (lv_at hl 0 rfl) ?_
  refine lv_iconst (v := iI 1) hx hb d_AM_isLabel_1 rfl ?_
  refine zq_icmp_lt (tgt := 16) hx hb d_AM_isLabel_2 (by decide) hx0 (by decide) (fun hc1 => ?_) (fun hc1 => ?_)
  · refine lv_iconst (v := iI 0) hx hb d_AM_isLabel_16 rfl ?_
    exact zq_zret hx hb hr rfl hlocks hZ hw ⟨zq_ri (by rw [if_neg (by omega)]), rfl⟩ d_AM_isLabel_17
  · refine lv_iload_n hx hb d_AM_isLabel_5 rfl (lv_at hl 0 rfl) ?_
    refine lv_sipush (v := iI 9999) hx hb d_AM_isLabel_6 (by decide) ?_
    refine zq_icmp_gt (tgt := 16) hx hb d_AM_isLabel_9 (by decide) hx0 (by decide) (fun hc2 => ?_) (fun hc2 => ?_)
    · refine lv_iconst (v := iI 0) hx hb d_AM_isLabel_16 rfl ?_
      exact zq_zret hx hb hr rfl hlocks hZ hw ⟨zq_ri (by rw [if_neg (by omega)]), rfl⟩ d_AM_isLabel_17
    · refine lv_iconst (v := iI 1) hx hb d_AM_isLabel_12 rfl ?_
      refine lv_goto (tgt := 17) hx hb d_AM_isLabel_13 (by decide) ?_
      exact zq_zret hx hb hr rfl hlocks hZ hw ⟨zq_ri (by rw [if_pos (by omega)]), rfl⟩ d_AM_isLabel_17
abbrev P_AM_isSmallPrime (K : Nat → ClassId) (M : zq_M) (pp : Int) : Option Value → zq_M → Prop := fun v M' => ∃ r, v = some (.int (iI r)) ∧ ((r = 1 ∧ zPrm pp) ∨ (r = 0 ∧ ¬ zPrm pp)) ∧ M' = M
set_option maxHeartbeats 4000000 in
set_option maxRecDepth 100000 in
theorem c_AM_isSmallPrime (l : Launch) (D : va_G) (K : Nat → ClassId) (M : zq_M) (pp : Int) (hx0 : inI pp) : zq_Met l y_AM_isSmallPrime (.code y_AM_isSmallPrime b_AM_isSmallPrime 2 (some .boolean) :: lw_gd) { frames := 0, cells := 0, slots := 0, locals := 0 } D vwCl (zT K) [.int (iI pp)] M (P_AM_isSmallPrime K M pp) 0 0 := by
  refine zq_start (cc := b_AM_isSmallPrime) (maxL := 2) (ret := (some .boolean)) (by decide) rfl (Nat.le_of_ble_eq_true rfl) ?_
  intro p e s m below meth co A ls hx hb hr hml hts hown hnm hlocks hA hZ hw hl
  have hts : ∀ w ∈ lw_gd, w.before [.int (iI pp)].toArray s = true := fun w h => hts w (List.mem_cons_of_mem _ h)
  have hown : s.vm.findClass R_AM = some m.cls := hown
  have hK := hZ.1
  have hl : lv_has ls 2 [(0, .int (iI pp))] := hl
  have hL : ∀ (n : Nat) (i : Int) (H : Heap) (locs : List Loc) (ls : Array Slot), (2 ≤ i ∧ i ≤ pp + 1 ∧ 2 ≤ pp ∧ pp ≤ 97) → (∀ d, 2 ≤ d → d < i → ¬ pp % d = 0) → (98 - i).toNat < n → zq_W D vwCl A s.heap M H locs → lv_has ls 2 [(0, .int (iI pp)), (1, .int (iI i))] → W p l e ({ frames := 0, cells := 0, slots := 0, locals := 0 } : Room) s m [.int (iI pp)].toArray below meth co H locs 0 0 (MQ below (zq_Q D vwCl (zT K) (P_AM_isSmallPrime K M pp) A) [.int (iI pp)].toArray s 0 0 A) (F0 m 15 ls []) := by
    intro n
    induction n with
    | zero =>
      intro i H locs ls hi hn hms hw hl
      exact absurd hms (Nat.not_lt_zero _)
    | succ n ih_hL =>
      intro i H locs ls hi hn hms hw hl
      refine lv_iload_n hx hb d_AM_isSmallPrime_15 rfl (lv_at hl 1 rfl) ?_
      refine lv_iload_n hx hb d_AM_isSmallPrime_16 rfl (lv_at hl 1 rfl) ?_
      refine zq_imul hx hb d_AM_isSmallPrime_17 ?_
      refine lv_iload_n hx hb d_AM_isSmallPrime_18 rfl (lv_at hl 0 rfl) ?_
      refine zq_icmp_gt (tgt := 36) hx hb d_AM_isSmallPrime_19 (by decide) (by have := zsq_le2 (i := i) (by omega) (by omega); exact ⟨by omega, by omega⟩) hx0 (fun hc1 => ?_) (fun hc1 => ?_)
      · refine lv_iconst (v := iI 1) hx hb d_AM_isSmallPrime_36 rfl ?_
        exact zq_zret hx hb hr rfl hlocks hZ hw ⟨_, rfl, Or.inl ⟨rfl, zPrm_of (i := i) (by omega) (by omega) (by omega) (by omega) hn⟩, rfl⟩ d_AM_isSmallPrime_37
      · refine lv_iload_n hx hb d_AM_isSmallPrime_22 rfl (lv_at hl 0 rfl) ?_
        refine lv_iload_n hx hb d_AM_isSmallPrime_23 rfl (lv_at hl 1 rfl) ?_
        refine zq_trem hx hb ⟨by omega, by omega⟩ (by omega) ⟨by omega, by omega⟩ d_AM_isSmallPrime_24 ?_
        rw [Int.tmod_eq_emod_of_nonneg (by omega)]
        refine zq_if_ne (tgt := 30) hx hb d_AM_isSmallPrime_25 (by decide) (by have h1 := Int.emod_nonneg pp (show i ≠ 0 by omega); have h2 := Int.emod_lt_of_pos pp (show 0 < i by omega); exact ⟨by omega, by omega⟩) (fun hc2 => ?_) (fun hc2 => ?_)
        · refine lv_iinc (v := iI (i + 1)) (lv' := [(1, .int (iI (i + 1))), (0, .int (iI pp))]) hx hb d_AM_isSmallPrime_30 hl (k := 1) rfl (iI_add _ _) (by decide) rfl (fun ls hl => ?_)
          refine lv_goto (tgt := 15) hx hb d_AM_isSmallPrime_33 (by decide) ?_
          exact ih_hL (i + 1) _ _ _ (by have := zsq_lt (i := i) (by omega); have := zsq_le (i := i) (p := pp) (by omega) (by omega) (by omega); omega) (fun d h1 h2 => by by_cases q : d = i; rw [q]; assumption; exact hn d h1 (by omega)) (by have := zsq_le (i := i) (p := pp) (by omega) (by omega) (by omega); omega) hw (lv_sub hl [1, 0] rfl)
        · refine lv_iconst (v := iI 0) hx hb d_AM_isSmallPrime_28 rfl ?_
          exact zq_zret hx hb hr rfl hlocks hZ hw ⟨_, rfl, Or.inr ⟨rfl, fun z => z.2.2 i (by omega) (by have := zsq_le (i := i) (p := pp) (by omega) (by omega) (by omega); have := zsq_lt (i := i) (by omega); omega) (by omega)⟩, rfl⟩ d_AM_isSmallPrime_29
  refine lv_iload_n hx hb d_AM_isSmallPrime_0 rfl (lv_at hl 0 rfl) ?_
  refine lv_iconst (v := iI 2) hx hb d_AM_isSmallPrime_1 rfl ?_
  refine zq_icmp_lt (tgt := 11) hx hb d_AM_isSmallPrime_2 (by decide) hx0 (by decide) (fun hc3 => ?_) (fun hc3 => ?_)
  · refine lv_iconst (v := iI 0) hx hb d_AM_isSmallPrime_11 rfl ?_
    exact zq_zret hx hb hr rfl hlocks hZ hw ⟨_, rfl, Or.inr ⟨rfl, fun z => by have := z.1; have := z.2.1; omega⟩, rfl⟩ d_AM_isSmallPrime_12
  · refine lv_iload_n hx hb d_AM_isSmallPrime_5 rfl (lv_at hl 0 rfl) ?_
    refine lv_bipush (v := iI 97) hx hb d_AM_isSmallPrime_6 (by decide) ?_
    refine zq_icmp_le (tgt := 13) hx hb d_AM_isSmallPrime_8 (by decide) hx0 (by decide) (fun hc4 => ?_) (fun hc4 => ?_)
    · refine lv_iconst (v := iI 2) hx hb d_AM_isSmallPrime_13 rfl ?_
      refine lv_istore_n (lv' := [(1, .int (iI 2)), (0, .int (iI pp))]) hx hb d_AM_isSmallPrime_14 rfl hl (by decide) rfl (fun ls hl => ?_)
      exact hL _ 2 _ _ _ (by omega) (fun d h1 h2 => by omega) (Nat.lt_succ_self _) hw (lv_sub hl [1, 0] rfl)
    · refine lv_iconst (v := iI 0) hx hb d_AM_isSmallPrime_11 rfl ?_
      exact zq_zret hx hb hr rfl hlocks hZ hw ⟨_, rfl, Or.inr ⟨rfl, fun z => by have := z.1; have := z.2.1; omega⟩, rfl⟩ d_AM_isSmallPrime_12
