abbrev P_MM_isPrime (K : Nat → ClassId) (M : zq_M) (pp : Int) : Option Value → zq_M → Prop := fun v M' => ∃ r, v = some (.int (iI r)) ∧ ((r = 1 ∧ zPrm pp) ∨ (r = 0 ∧ ¬ zPrm pp)) ∧ M' = M
set_option maxHeartbeats 4000000 in
set_option maxRecDepth 100000 in
theorem c_MM_isPrime (l : Launch) (D : va_G) (K : Nat → ClassId) (M : zq_M) (pp : Int) (hpp : inI pp) : zq_Met l y_MM_isPrime (.code y_MM_isPrime b_MM_isPrime 3 (some .boolean) :: lw_gd) { frames := 0, cells := 0, slots := 0, locals := 0 } D vwCl (zT K) [.int (iI pp)] M (P_MM_isPrime K M pp) 0 0 := by
  refine zq_start (cc := b_MM_isPrime) (maxL := 3) (ret := (some .boolean)) (by decide) rfl (Nat.le_of_ble_eq_true rfl) ?_
  intro p e s m below meth co A ls hx hb hr hml hts hown hnm hlocks hA hZ hw hl
  have hts : ∀ w ∈ lw_gd, w.before [.int (iI pp)].toArray s = true := fun w h => hts w (List.mem_cons_of_mem _ h)
  have hown : s.vm.findClass R_MM = some m.cls := hown
  have hK := hZ.1
  have hl : lv_has ls 3 [(0, .int (iI pp))] := hl
  have hL : ∀ (n : Nat) (q : Int) (iz : Int) (H : Heap) (locs : List Loc) (ls : Array Slot), (2 ≤ q ∧ q ≤ 98) → ((iz = 1 ∧ (2 ≤ pp ∧ pp ≤ 97) ∧ ∀ d, 2 ≤ d → d < q → ¬ pp % d = 0) ∨ (iz = 0 ∧ ¬ zPrm pp)) → (98 - q).toNat < n → zq_W D vwCl A s.heap M H locs → lv_has ls 3 [(0, .int (iI pp)), (1, .int (iI iz)), (2, .int (iI q))] → W p l e ({ frames := 0, cells := 0, slots := 0, locals := 0 } : Room) s m [.int (iI pp)].toArray below meth co H locs 0 0 (MQ below (zq_Q D vwCl (zT K) (P_MM_isPrime K M pp) A) [.int (iI pp)].toArray s 0 0 A) (F0 m 19 ls []) := by
    intro n
    induction n with
    | zero =>
      intro q iz H locs ls hq hz hms hw hl
      exact absurd hms (Nat.not_lt_zero _)
    | succ n ih_hL =>
      intro q iz H locs ls hq hz hms hw hl
      refine lv_iload_n hx hb d_MM_isPrime_19 rfl (lv_at hl 2 rfl) ?_
      refine lv_iload_n hx hb d_MM_isPrime_20 rfl (lv_at hl 0 rfl) ?_
      refine zq_icmp_ge (tgt := 46) hx hb d_MM_isPrime_21 (by decide) ⟨by omega, by omega⟩ hpp (fun hc1 => ?_) (fun hc1 => ?_)
      · refine lv_iload_n hx hb d_MM_isPrime_46 rfl (lv_at hl 1 rfl) ?_
        exact zq_zret hx hb hr (by rcases hz with h | h <;> rw [h.1] <;> rfl) hlocks hZ hw ⟨iz, rfl, (by rcases hz with h | h; exact Or.inl ⟨h.1, h.2.1.1, h.2.1.2, fun d h1 h2 => h.2.2 d h1 (by omega)⟩; exact Or.inr h), rfl⟩ d_MM_isPrime_47
      · refine lv_iload_n hx hb d_MM_isPrime_24 rfl (lv_at hl 1 rfl) ?_
        refine zq_if_eq (tgt := 46) hx hb d_MM_isPrime_25 (by decide) ⟨by omega, by omega⟩ (fun hc2 => ?_) (fun hc2 => ?_)
        · refine lv_iload_n hx hb d_MM_isPrime_46 rfl (lv_at hl 1 rfl) ?_
          exact zq_zret hx hb hr (by rcases hz with h | h <;> rw [h.1] <;> rfl) hlocks hZ hw ⟨iz, rfl, (by rcases hz with h | h; exact Or.inl ⟨h.1, h.2.1.1, h.2.1.2, fun d h1 h2 => h.2.2 d h1 (by omega)⟩; exact Or.inr h), rfl⟩ d_MM_isPrime_47
        · have hz1 := hz.resolve_right (fun h => by omega)
          refine lv_iload_n hx hb d_MM_isPrime_28 rfl (lv_at hl 0 rfl) ?_
          refine lv_iload_n hx hb d_MM_isPrime_29 rfl (lv_at hl 2 rfl) ?_
          refine zq_irem hx hb (by omega) hpp (by omega) ⟨by omega, by omega⟩ d_MM_isPrime_30 ?_
          refine zq_if_eq (tgt := 38) hx hb d_MM_isPrime_31 (by decide) (by have h1 := Int.emod_nonneg pp (show q ≠ 0 by omega); have h2 := Int.emod_lt_of_pos pp (show 0 < q by omega); exact ⟨by omega, by omega⟩) (fun hc3 => ?_) (fun hc3 => ?_)
          · refine lv_iconst (v := iI 0) hx hb d_MM_isPrime_38 rfl ?_
            refine lv_istore_n (lv' := [(1, .int (iI 0)), (0, .int (iI pp)), (2, .int (iI q))]) hx hb d_MM_isPrime_39 rfl hl (by decide) rfl (fun ls hl => ?_)
            refine lv_iinc (v := iI (q + 1)) (lv' := [(2, .int (iI (q + 1))), (1, .int (iI 0)), (0, .int (iI pp))]) hx hb d_MM_isPrime_40 hl (k := 2) rfl (iI_add _ _) (by decide) rfl (fun ls hl => ?_)
            refine lv_goto (tgt := 19) hx hb d_MM_isPrime_43 (by decide) ?_
            exact ih_hL (q + 1) 0 _ _ _ (by omega) (Or.inr ⟨rfl, fun z => z.2.2 q (by omega) (by omega) (by assumption)⟩) (by omega) hw (lv_sub hl [2, 1, 0] rfl)
          · refine lv_iconst (v := iI 1) hx hb d_MM_isPrime_34 rfl ?_
            refine lv_goto (tgt := 39) hx hb d_MM_isPrime_35 (by decide) ?_
            refine lv_istore_n (lv' := [(1, .int (iI 1)), (0, .int (iI pp)), (2, .int (iI q))]) hx hb d_MM_isPrime_39 rfl hl (by decide) rfl (fun ls hl => ?_)
            refine lv_iinc (v := iI (q + 1)) (lv' := [(2, .int (iI (q + 1))), (1, .int (iI 1)), (0, .int (iI pp))]) hx hb d_MM_isPrime_40 hl (k := 2) rfl (iI_add _ _) (by decide) rfl (fun ls hl => ?_)
            refine lv_goto (tgt := 19) hx hb d_MM_isPrime_43 (by decide) ?_
            exact ih_hL (q + 1) 1 _ _ _ (by omega) (Or.inl ⟨rfl, hz1.2.1, fun d h1 h2 => by by_cases e : d = q; rw [e]; assumption; exact hz1.2.2 d h1 (by omega)⟩) (by omega) hw (lv_sub hl [2, 1, 0] rfl)
  refine lv_iload_n hx hb d_MM_isPrime_0 rfl (lv_at hl 0 rfl) ?_
  refine lv_iconst (v := iI 2) hx hb d_MM_isPrime_1 rfl ?_
  refine zq_icmp_lt (tgt := 15) hx hb d_MM_isPrime_2 (by decide) hpp (by decide) (fun hc4 => ?_) (fun hc4 => ?_)
  · refine lv_iconst (v := iI 0) hx hb d_MM_isPrime_15 rfl ?_
    refine lv_istore_n (lv' := [(1, .int (iI 0)), (0, .int (iI pp))]) hx hb d_MM_isPrime_16 rfl hl (by decide) rfl (fun ls hl => ?_)
    refine lv_iconst (v := iI 2) hx hb d_MM_isPrime_17 rfl ?_
    refine lv_istore_n (lv' := [(2, .int (iI 2)), (1, .int (iI 0)), (0, .int (iI pp))]) hx hb d_MM_isPrime_18 rfl hl (by decide) rfl (fun ls hl => ?_)
    exact hL _ 2 0 _ _ _ (by omega) (Or.inr ⟨rfl, fun z => by have := z.1; have := z.2.1; omega⟩) (Nat.lt_succ_self _) hw (lv_sub hl [2, 1, 0] rfl)
  · refine lv_iload_n hx hb d_MM_isPrime_5 rfl (lv_at hl 0 rfl) ?_
    refine lv_bipush (v := iI 97) hx hb d_MM_isPrime_6 (by decide) ?_
    refine zq_icmp_gt (tgt := 15) hx hb d_MM_isPrime_8 (by decide) hpp (by decide) (fun hc5 => ?_) (fun hc5 => ?_)
    · refine lv_iconst (v := iI 0) hx hb d_MM_isPrime_15 rfl ?_
      refine lv_istore_n (lv' := [(1, .int (iI 0)), (0, .int (iI pp))]) hx hb d_MM_isPrime_16 rfl hl (by decide) rfl (fun ls hl => ?_)
      refine lv_iconst (v := iI 2) hx hb d_MM_isPrime_17 rfl ?_
      refine lv_istore_n (lv' := [(2, .int (iI 2)), (1, .int (iI 0)), (0, .int (iI pp))]) hx hb d_MM_isPrime_18 rfl hl (by decide) rfl (fun ls hl => ?_)
      exact hL _ 2 0 _ _ _ (by omega) (Or.inr ⟨rfl, fun z => by have := z.1; have := z.2.1; omega⟩) (Nat.lt_succ_self _) hw (lv_sub hl [2, 1, 0] rfl)
    · refine lv_iconst (v := iI 1) hx hb d_MM_isPrime_11 rfl ?_
      refine lv_goto (tgt := 16) hx hb d_MM_isPrime_12 (by decide) ?_
      refine lv_istore_n (lv' := [(1, .int (iI 1)), (0, .int (iI pp))]) hx hb d_MM_isPrime_16 rfl hl (by decide) rfl (fun ls hl => ?_)
      refine lv_iconst (v := iI 2) hx hb d_MM_isPrime_17 rfl ?_
      refine lv_istore_n (lv' := [(2, .int (iI 2)), (1, .int (iI 1)), (0, .int (iI pp))]) hx hb d_MM_isPrime_18 rfl hl (by decide) rfl (fun ls hl => ?_)
      exact hL _ 2 1 _ _ _ (by omega) (Or.inl ⟨rfl, ⟨by omega, by omega⟩, fun d h1 h2 => by omega⟩) (Nat.lt_succ_self _) hw (lv_sub hl [2, 1, 0] rfl)
abbrev P_MM_mod (K : Nat → ClassId) (M : zq_M) (x : Int) (pp : Int) : Option Value → zq_M → Prop := fun v M' => v = some (.int (iI (x % pp))) ∧ M' = M
set_option maxHeartbeats 4000000 in
set_option maxRecDepth 100000 in
theorem c_MM_mod (l : Launch) (D : va_G) (K : Nat → ClassId) (M : zq_M) (x : Int) (pp : Int) (hx0 : inL x ∧ x ≠ -9223372036854775808) (hpp : 2 ≤ pp ∧ pp ≤ 97) : zq_Met l y_MM_mod (.code y_MM_mod b_MM_mod 4 (some .int) :: lw_gd) { frames := 0, cells := 0, slots := 0, locals := 0 } D vwCl (zT K) [.long (iL x), .int (iI pp)] M (P_MM_mod K M x pp) 0 0 := by
  refine zq_start (cc := b_MM_mod) (maxL := 4) (ret := (some .int)) (by decide) rfl (Nat.le_of_ble_eq_true rfl) ?_
  intro p e s m below meth co A ls hx hb hr hml hts hown hnm hlocks hA hZ hw hl
  have hts : ∀ w ∈ lw_gd, w.before [.long (iL x), .int (iI pp)].toArray s = true := fun w h => hts w (List.mem_cons_of_mem _ h)
  have hown : s.vm.findClass R_MM = some m.cls := hown
  have hK := hZ.1
  have hl : lv_has ls 4 [(0, .long (iL x)), (2, .int (iI pp))] := hl
  have hzm := zemt (x := x) (p := pp) (by omega)
  refine lv_lload_n hx hb d_MM_mod_0 rfl (lv_at hl 0 rfl) ?_
  refine lv_iload_n hx hb d_MM_mod_1 rfl (lv_at hl 1 rfl) ?_
  refine zq_i2l hx hb ⟨by omega, by omega⟩ d_MM_mod_2 ?_
  refine zq_lrem hx hb hx0.1 hx0.2 (by omega) ⟨by omega, by omega⟩ d_MM_mod_3 ?_
  refine zq_l2i hx hb d_MM_mod_4 ?_
  refine lv_istore_n (lv' := [(3, .int (iI (Int.tmod x pp))), (0, .long (iL x)), (2, .int (iI pp))]) hx hb d_MM_mod_5 rfl hl (by decide) rfl (fun ls hl => ?_)
  refine lv_iload_n hx hb d_MM_mod_6 rfl (lv_at hl 0 rfl) ?_
  refine zq_if_ge (tgt := 16) hx hb d_MM_mod_7 (by decide) ⟨by omega, by omega⟩ (fun hc1 => ?_) (fun hc1 => ?_)
  · refine lv_iload_n hx hb d_MM_mod_16 rfl (lv_at hl 0 rfl) ?_
    exact zq_iret hx hb hr hlocks hZ hw ⟨zq_ri (by rw [hzm.2.1 (by omega)]), rfl⟩ d_MM_mod_17
  · refine lv_iload_n hx hb d_MM_mod_10 rfl (lv_at hl 0 rfl) ?_
    refine lv_iload_n hx hb d_MM_mod_11 rfl (lv_at hl 2 rfl) ?_
    refine zq_iadd hx hb d_MM_mod_12 ?_
    refine lv_goto (tgt := 17) hx hb d_MM_mod_13 (by decide) ?_
    exact zq_iret hx hb hr hlocks hZ hw ⟨zq_ri (by rw [hzm.1 (by omega)]), rfl⟩ d_MM_mod_17
abbrev P_MM_rowWith (K : Nat → ClassId) (M : zq_M) (o : Nat) (bd : Nat → Nat) (th : Int) (put : Int) (wr : Int) (nn : Int) (cir : Int) (oN : Int) (oC : Int) (lbs : Int) (fcs : Int) (arcs : Int) (mns : Int) (kn : Int) (gd : Int → Int) (fr0 : Int) (a : Int) : Option Value → zq_M → Prop := fun v M' => ∃ r, v = some (.int (iI r)) ∧ zFp (fun i j => gd (32 * i + j)) fr0 nn a r ∧ M' = M
set_option maxHeartbeats 4000000 in
set_option maxRecDepth 100000 in
theorem c_MM_rowWith (l : Launch) (D : va_G) (K : Nat → ClassId) (M : zq_M) (o : Nat) (bd : Nat → Nat) (th : Int) (put : Int) (wr : Int) (nn : Int) (cir : Int) (oN : Int) (oC : Int) (lbs : Int) (fcs : Int) (arcs : Int) (mns : Int) (kn : Int) (gd : Int → Int) (fr0 : Int) (a : Int) (h_o : M o = some (.inr (9, [.int (iI th), .int (iI put), .int (iI wr), .ref (bd 0), .ref (bd 1), .int (iI nn), .int (iI cir), .int (iI oN), .int (iI oC), .ref (bd 2), .ref (bd 3), .ref (bd 4), .ref (bd 5), .int (iI lbs), .ref (bd 6), .ref (bd 7), .ref (bd 8), .int (iI fcs), .ref (bd 9), .int (iI arcs), .ref (bd 10), .ref (bd 11), .ref (bd 12), .ref (bd 13), .int (iI mns), .ref (bd 14), .ref (bd 15), .ref (bd 16), .int (iI kn), .ref (bd 17)]))) (hbd : ∀ i j, i < 18 → j < 18 → bd i = bd j → i = j) (h_gd : M (bd 17) = some (cI (K 0) 384 gd)) (hnn : 0 ≤ nn ∧ nn ≤ 12) (hfr0 : 0 ≤ fr0 ∧ fr0 < nn) (ha : 0 ≤ a ∧ a < 32) (hgr : ∀ z, 0 ≤ z → z < 384 → inI (gd z)) : zq_Met l y_MM_rowWith (.code y_MM_rowWith b_MM_rowWith 5 (some .int) :: lw_gd) { frames := 0, cells := 0, slots := 0, locals := 0 } D vwCl (zT K) [.ref o, .int (iI fr0), .int (iI a)] M (P_MM_rowWith K M o bd th put wr nn cir oN oC lbs fcs arcs mns kn gd fr0 a) 0 0 := by
  refine zq_start (cc := b_MM_rowWith) (maxL := 5) (ret := (some .int)) (by decide) rfl (Nat.le_of_ble_eq_true rfl) ?_
  intro p e s m below meth co A ls hx hb hr hml hts hown hnm hlocks hA hZ hw hl
  have hts : ∀ w ∈ lw_gd, w.before [.ref o, .int (iI fr0), .int (iI a)].toArray s = true := fun w h => hts w (List.mem_cons_of_mem _ h)
  have hown : s.vm.findClass R_MM = some m.cls := hown
  have hK := hZ.1
  have hl : lv_has ls 5 [(0, .ref o), (1, .int (iI fr0)), (2, .int (iI a))] := hl
  have hL : ∀ (n : Nat) (k : Int) (fnd : Int) (H : Heap) (locs : List Loc) (ls : Array Slot), (fr0 - 1 ≤ k ∧ k < nn) → ((fnd = -1 ∧ ∀ j, k < j → j < nn → gd (32 * j + a) = 0) ∨ ((k < fnd ∧ fnd < nn) ∧ ¬ gd (32 * fnd + a) = 0 ∧ ∀ j, k < j → j < fnd → gd (32 * j + a) = 0)) → (k + 1).toNat < n → zq_W D vwCl A s.heap M H locs → lv_has ls 5 [(0, .ref o), (1, .int (iI fr0)), (2, .int (iI a)), (3, .int (iI fnd)), (4, .int (iI k))] → W p l e ({ frames := 0, cells := 0, slots := 0, locals := 0 } : Room) s m [.ref o, .int (iI fr0), .int (iI a)].toArray below meth co H locs 0 0 (MQ below (zq_Q D vwCl (zT K) (P_MM_rowWith K M o bd th put wr nn cir oN oC lbs fcs arcs mns kn gd fr0 a) A) [.ref o, .int (iI fr0), .int (iI a)].toArray s 0 0 A) (F0 m 10 ls []) := by
    intro n
    induction n with
    | zero =>
      intro k fnd H locs ls hk hf hms hw hl
      exact absurd hms (Nat.not_lt_zero _)
    | succ n ih_hL =>
      intro k fnd H locs ls hk hf hms hw hl
      refine lv_iload hx hb d_MM_rowWith_10 (lv_at hl 4 rfl) ?_
      refine lv_iload_n hx hb d_MM_rowWith_12 rfl (lv_at hl 1 rfl) ?_
      refine zq_icmp_lt (tgt := 44) hx hb d_MM_rowWith_13 (by decide) ⟨by omega, by omega⟩ ⟨by omega, by omega⟩ (fun hc1 => ?_) (fun hc1 => ?_)
      · refine lv_iload_n hx hb d_MM_rowWith_44 rfl (lv_at hl 3 rfl) ?_
        exact zq_iret hx hb hr hlocks hZ hw ⟨fnd, rfl, (by rcases hf with h | h; exact Or.inr ⟨h.1, fun j h1 h2 => h.2 j (by omega) h2⟩; exact Or.inl ⟨by omega, by omega, h.2.1, fun j h1 h2 => h.2.2 j (by omega) h2⟩), rfl⟩ d_MM_rowWith_45
      · refine lv_aload_n hx hb d_MM_rowWith_16 rfl (lv_at hl 0 rfl) ?_
        refine zq_get hx hb hts i_MM hown hK hw h_o rfl 29 (by decide) (hts _ tw_615) rfl d_MM_rowWith_17 ?_
        refine lv_bipush (v := iI 32) hx hb d_MM_rowWith_20 (by decide) ?_
        refine lv_iload hx hb d_MM_rowWith_22 (lv_at hl 4 rfl) ?_
        refine zq_imul hx hb d_MM_rowWith_24 ?_
        refine lv_iload_n hx hb d_MM_rowWith_25 rfl (lv_at hl 2 rfl) ?_
        refine zq_iadd hx hb d_MM_rowWith_26 ?_
        refine zq_iald hx hb hK hw 0 h_gd rfl (by omega) (by omega) (by decide) d_MM_rowWith_27 ?_
        refine zq_if_eq (tgt := 36) hx hb d_MM_rowWith_28 (by decide) (hgr _ (by omega) (by omega)) (fun hc2 => ?_) (fun hc2 => ?_)
        · refine lv_iload_n hx hb d_MM_rowWith_36 rfl (lv_at hl 3 rfl) ?_
          refine lv_istore_n (lv' := [(3, .int (iI fnd)), (0, .ref o), (1, .int (iI fr0)), (2, .int (iI a)), (4, .int (iI k))]) hx hb d_MM_rowWith_37 rfl hl (by decide) rfl (fun ls hl => ?_)
          refine lv_iinc (v := iI (k - 1)) (lv' := [(4, .int (iI (k - 1))), (3, .int (iI fnd)), (0, .ref o), (1, .int (iI fr0)), (2, .int (iI a))]) hx hb d_MM_rowWith_38 hl (k := 4) rfl ((iI_add _ _).trans (congrArg iI (Int.sub_eq_add_neg).symm)) (by decide) rfl (fun ls hl => ?_)
          refine lv_goto (tgt := 10) hx hb d_MM_rowWith_41 (by decide) ?_
          exact ih_hL (k - 1) fnd _ _ _ ⟨by omega, by omega⟩ (by rcases hf with h | h; exact Or.inl ⟨h.1, fun j h1 h2 => by by_cases e : j = k; rw [e]; assumption; exact h.2 j (by omega) h2⟩; exact Or.inr ⟨⟨by omega, by omega⟩, h.2.1, fun j h1 h2 => by by_cases e : j = k; rw [e]; assumption; exact h.2.2 j (by omega) h2⟩) (by omega) hw (lv_sub hl [2, 3, 4, 1, 0] rfl)
        · refine lv_iload hx hb d_MM_rowWith_31 (lv_at hl 4 rfl) ?_
          refine lv_goto (tgt := 37) hx hb d_MM_rowWith_33 (by decide) ?_
          refine lv_istore_n (lv' := [(3, .int (iI k)), (0, .ref o), (1, .int (iI fr0)), (2, .int (iI a)), (4, .int (iI k))]) hx hb d_MM_rowWith_37 rfl hl (by decide) rfl (fun ls hl => ?_)
          refine lv_iinc (v := iI (k - 1)) (lv' := [(4, .int (iI (k - 1))), (3, .int (iI k)), (0, .ref o), (1, .int (iI fr0)), (2, .int (iI a))]) hx hb d_MM_rowWith_38 hl (k := 4) rfl ((iI_add _ _).trans (congrArg iI (Int.sub_eq_add_neg).symm)) (by decide) rfl (fun ls hl => ?_)
          refine lv_goto (tgt := 10) hx hb d_MM_rowWith_41 (by decide) ?_
          exact ih_hL (k - 1) k _ _ _ ⟨by omega, by omega⟩ (Or.inr ⟨⟨by omega, by omega⟩, by assumption, fun j h1 h2 => by omega⟩) (by omega) hw (lv_sub hl [2, 3, 4, 1, 0] rfl)
  refine lv_iconst (v := iI (-1)) hx hb d_MM_rowWith_0 rfl ?_
  refine lv_istore_n (lv' := [(3, .int (iI (-1))), (0, .ref o), (1, .int (iI fr0)), (2, .int (iI a))]) hx hb d_MM_rowWith_1 rfl hl (by decide) rfl (fun ls hl => ?_)
  refine lv_aload_n hx hb d_MM_rowWith_2 rfl (lv_at hl 1 rfl) ?_
  refine zq_get hx hb hts i_MM hown hK hw h_o rfl 5 (by decide) (hts _ tw_591) rfl d_MM_rowWith_3 ?_
  refine lv_iconst (v := iI 1) hx hb d_MM_rowWith_6 rfl ?_
  refine zq_isub hx hb d_MM_rowWith_7 ?_
  refine lv_istore (lv' := [(4, .int (iI (nn - 1))), (3, .int (iI (-1))), (0, .ref o), (1, .int (iI fr0)), (2, .int (iI a))]) hx hb d_MM_rowWith_8 hl (by decide) rfl (fun ls hl => ?_)
  exact hL _ (nn - 1) (-1) _ _ _ ⟨by omega, by omega⟩ (Or.inl ⟨rfl, fun j h1 h2 => by omega⟩) (Nat.lt_succ_self _) hw (lv_sub hl [2, 3, 4, 1, 0] rfl)
abbrev P_MM_rank (K : Nat → ClassId) (M : zq_M) (o : Nat) (bd : Nat → Nat) (put : Int) (pS : Int → Int) (pL : Int → Int) (nn : Int) (cir : Int) (sg : Int → Int) (lb : Int → Int) (kn : Int) (arcs : Int) (al : Int → Int) (on : Int → Int) (tw : Int → Int) (mns : Int) (av : Int → Int) (po : Int → Int) (t : Int) (pp : Int) : Option Value → zq_M → Prop := fun v M' => ∃ r, v = some (.int (iI r)) ∧ ((¬ zPrm pp ∧ r = -1 ∧ M' = M) ∨ (zPrm pp ∧ ∃ arcs1 al1 on1 tw1 mns1 av1 po1, zKn nn cir sg lb arcs1 al1 on1 tw1 mns1 av1 po1 ∧ zMK K M' o bd put pS pL nn cir sg lb 1 arcs1 al1 on1 tw1 mns1 av1 po1 ∧ (∀ q, q ≠ o → (∀ i, i < 18 → q ≠ bd i) → M' q = M q) ∧ ∃ G, zEm (fun i j => (on1 (32 * i + j) + tw1 (32 * i + j) * (t % pp)) % pp) nn pp arcs1 arcs1.toNat G r))
set_option maxHeartbeats 4000000 in
set_option maxRecDepth 100000 in
theorem c_MM_rank (l : Launch) (D : va_G) (K : Nat → ClassId) (M : zq_M) (o : Nat) (bd : Nat → Nat) (put : Int) (pS : Int → Int) (pL : Int → Int) (nn : Int) (cir : Int) (sg : Int → Int) (lb : Int → Int) (kn : Int) (arcs : Int) (al : Int → Int) (on : Int → Int) (tw : Int → Int) (mns : Int) (av : Int → Int) (po : Int → Int) (t : Int) (pp : Int) (hS : zMK K M o bd put pS pL nn cir sg lb kn arcs al on tw mns av po) (hkn : kn = 0 ∨ (kn = 1 ∧ zKn nn cir sg lb arcs al on tw mns av po)) (hnn : 0 ≤ nn ∧ nn ≤ 12) (hcir : 0 ≤ cir ∧ cir ≤ 9) (hgd : zGd sg lb (4 * nn)) (hmath : zMth nn cir sg lb) (ht0 : inI t) (hpp : inI pp) : zq_Met l y_MM_rank (.code y_MM_rank b_MM_rank 11 (some .int) :: lw_gd) { frames := 7, cells := 0, slots := 0, locals := 165 } D vwCl (zT K) [.ref o, .int (iI t), .int (iI pp)] M (P_MM_rank K M o bd put pS pL nn cir sg lb kn arcs al on tw mns av po t pp) 0 0 := by
  refine zq_start (cc := b_MM_rank) (maxL := 11) (ret := (some .int)) (by decide) rfl (Nat.le_of_ble_eq_true rfl) ?_
  intro p e s m below meth co A ls hx hb hr hml hts hown hnm hlocks hA hZ hw hl
  have hts : ∀ w ∈ lw_gd, w.before [.ref o, .int (iI t), .int (iI pp)].toArray s = true := fun w h => hts w (List.mem_cons_of_mem _ h)
  have hown : s.vm.findClass R_MM = some m.cls := hown
  have hK := hZ.1
  have hl : lv_has ls 11 [(0, .ref o), (1, .int (iI t)), (2, .int (iI pp))] := hl
  have hfr : ∀ q, q ≠ o → (∀ i, i < 18 → q ≠ bd i) → M q = M q := fun q _ _ => rfl
  have hS0 := hS
  obtain ⟨th, wr, oN, oC, lbs, fcs, oS, oL, rw, fr, pi, fo, sm, le, gd, h_o, hbd, h_pS, h_pL, h_sg, h_lb, h_oS, h_oL, h_rw, h_fr, h_pi, h_fo, h_al, h_on, h_tw, h_sm, h_av, h_po, h_le, h_gd, hrg⟩ := hS
  have hpS : ∀ j, inI (pS j) := fun j => (hrg j).1
  have hpL : ∀ j, inI (pL j) := fun j => (hrg j).2.1
  have hsg : ∀ j, inI (sg j) := fun j => (hrg j).2.2.1
  have hlb : ∀ j, inI (lb j) := fun j => (hrg j).2.2.2.1
  have hoS : ∀ j, inI (oS j) := fun j => (hrg j).2.2.2.2.1
  have hoL : ∀ j, inI (oL j) := fun j => (hrg j).2.2.2.2.2.1
  have hrw : ∀ j, inI (rw j) := fun j => (hrg j).2.2.2.2.2.2.1
  have hfo : ∀ j, inI (fo j) := fun j => (hrg j).2.2.2.2.2.2.2.1
  have hal : ∀ j, inI (al j) := fun j => (hrg j).2.2.2.2.2.2.2.2
  refine lv_iload_n hx hb d_MM_rank_0 rfl (lv_at hl 2 rfl) ?_
  refine zq_callS (b := 0) (C := "") (As := [.int (iI pp)]) (rest := []) ⟨hx, hb, hml, hown, hts⟩ (c_MM_isPrime l D K M    pp  hpp) (va_cwS 1 hts (zg_T tw_834 tw_835 tw_10 tw_836) rfl rfl rfl (by decide +kernel) ⟨Nat.le_of_ble_eq_true rfl, Nat.le_of_ble_eq_true rfl⟩) hZ hw hA rfl rfl hl.1 (Nat.le_of_ble_eq_true rfl) d_MM_rank_1 ⟨Nat.le_of_ble_eq_true rfl, Nat.le_of_ble_eq_true rfl⟩ (fun v M2 H locs hp hw => ?_)
  obtain ⟨ip1, rfl, hPip1, hMe⟩ := hp
  rw [hMe] at hw
  refine W.eq (g2 := F0 m 4 ls [.int (iI ip1)]) rfl ?_
  have hrip1 : ip1 = 0 ∨ ip1 = 1 := by rcases hPip1 with h | h; exact Or.inr h.1; exact Or.inl h.1
  refine zq_if_ne (tgt := 9) hx hb d_MM_rank_4 (by decide) ⟨by omega, by omega⟩ (fun hc3 => ?_) (fun hc3 => ?_)
  · have hPr := (hPip1.resolve_right (fun h => absurd h.1 (by omega))).2
    refine lv_aload_n hx hb d_MM_rank_9 rfl (lv_at hl 0 rfl) ?_
    refine zq_callV (As := []) (rest := []) ⟨hx, hb, hml, hown, hts⟩ (c_MM_know l D K M o bd put pS pL nn cir sg lb kn arcs al on tw mns av po hS0 hkn hnn hcir hgd hmath) (cwV 0 hts (zg_V tw_741 tw_743 ts_39 tw_10 tw_744) rfl rfl rfl (by decide +kernel) ⟨Nat.le_of_ble_eq_true rfl, Nat.le_of_ble_eq_true rfl⟩) hZ hw hA h_o rfl rfl rfl rfl hl.1 (Nat.le_of_ble_eq_true rfl) d_MM_rank_10 ⟨Nat.le_of_ble_eq_true rfl, Nat.le_of_ble_eq_true rfl⟩ (fun v M4 H locs hp hw => ?_)
    obtain ⟨rfl, arcs1, al1, on1, tw1, mns1, av1, po1, hKn, hS1, ho⟩ := hp
    obtain ⟨th, wr, oN, oC, lbs, fcs, oS, oL, rw, fr, pi, fo, sm, le, gd, h_o, hbd, h_pS, h_pL, h_sg, h_lb, h_oS, h_oL, h_rw, h_fr, h_pi, h_fo, h_al, h_on, h_tw, h_sm, h_av, h_po, h_le, h_gd, hrg⟩ := id hS1
    have hpS : ∀ j, inI (pS j) := fun j => (hrg j).1
    have hpL : ∀ j, inI (pL j) := fun j => (hrg j).2.1
    have hsg : ∀ j, inI (sg j) := fun j => (hrg j).2.2.1
    have hlb : ∀ j, inI (lb j) := fun j => (hrg j).2.2.2.1
    have hoS : ∀ j, inI (oS j) := fun j => (hrg j).2.2.2.2.1
    have hoL : ∀ j, inI (oL j) := fun j => (hrg j).2.2.2.2.2.1
    have hrw : ∀ j, inI (rw j) := fun j => (hrg j).2.2.2.2.2.2.1
    have hfo : ∀ j, inI (fo j) := fun j => (hrg j).2.2.2.2.2.2.2.1
    have hal : ∀ j, inI (al1 j) := fun j => (hrg j).2.2.2.2.2.2.2.2
    have hfr : ∀ q, q ≠ o → (∀ i, i < 18 → q ≠ bd i) → M4 q = M q := fun q g0 g1 => (ho q g0 g1).trans (hfr q g0 g1)
    obtain ⟨c0, N1, hAl1, har1, hAz1, hN1, hFi1, hMn1, hPp1, hQ1, hIn1, hPi1⟩ := id hKn
    have hM3 := hmath c0 al1 N1 on1 tw1 hAl1 hN1 hFi1
    have hge := hM3.1
    have hle := hM3.2.1
    have hmnb := zMn_b hMn1 hnn
    refine W.eq (g2 := F0 m 13 ls []) rfl ?_
    have hA24 := hAl1.2.2
    have hp2 := hPr.1
    have hp97 := hPr.2.1
    have htp := zemr (x := t) hp2
    refine lv_iload_n hx hb d_MM_rank_13 rfl (lv_at hl 1 rfl) ?_
    refine zq_i2l hx hb ht0 d_MM_rank_14 ?_
    refine lv_iload_n hx hb d_MM_rank_15 rfl (lv_at hl 2 rfl) ?_
    refine zq_callS (b := 0) (C := "") (As := [.long (iL t), .int (iI pp)]) (rest := []) ⟨hx, hb, hml, hown, hts⟩ (c_MM_mod l D K M4    t pp  ⟨⟨by omega, by omega⟩, by omega⟩ ⟨hp2, hp97⟩) (va_cwS 2 hts (zg_T tw_837 tw_838 tw_10 tw_839) rfl rfl rfl (by decide +kernel) ⟨Nat.le_of_ble_eq_true rfl, Nat.le_of_ble_eq_true rfl⟩) hZ hw hA rfl rfl hl.1 (Nat.le_of_ble_eq_true rfl) d_MM_rank_16 ⟨Nat.le_of_ble_eq_true rfl, Nat.le_of_ble_eq_true rfl⟩ (fun v M5 H locs hp hw => ?_)
    obtain ⟨rfl, hMe⟩ := hp
    rw [hMe] at hw
    refine W.eq (g2 := F0 m 19 ls [.int (iI (t % pp))]) rfl ?_
    refine lv_istore_n (lv' := [(3, .int (iI (t % pp))), (0, .ref o), (1, .int (iI t)), (2, .int (iI pp))]) hx hb d_MM_rank_19 rfl hl (by decide) rfl (fun ls hl => ?_)
    have hL1 : ∀ (n : Nat) (i : Int) (g : Int → Int) (Mq : zq_M) (H : Heap) (locs : List Loc) (ls : Array Slot), (0 ≤ i ∧ i ≤ 384) → (∀ z, g z = if 0 ≤ z ∧ z < i then (fun z => (on1 z + tw1 z * (t % pp)) % pp) z else gd z) → (384 - i).toNat < n → (∀ q, q ≠ o → (∀ i, i < 18 → q ≠ bd i) → Mq q = M q) → Mq o = some (.inr (9, [.int (iI th), .int (iI put), .int (iI wr), .ref (bd 0), .ref (bd 1), .int (iI nn), .int (iI cir), .int (iI oN), .int (iI oC), .ref (bd 2), .ref (bd 3), .ref (bd 4), .ref (bd 5), .int (iI lbs), .ref (bd 6), .ref (bd 7), .ref (bd 8), .int (iI fcs), .ref (bd 9), .int (iI arcs1), .ref (bd 10), .ref (bd 11), .ref (bd 12), .ref (bd 13), .int (iI mns1), .ref (bd 14), .ref (bd 15), .ref (bd 16), .int (iI 1), .ref (bd 17)])) → Mq (bd 0) = some (cI (K 0) 12 pS) → Mq (bd 1) = some (cI (K 0) 48 pL) → Mq (bd 2) = some (cI (K 0) 12 sg) → Mq (bd 3) = some (cI (K 0) 48 lb) → Mq (bd 4) = some (cI (K 0) 12 oS) → Mq (bd 5) = some (cI (K 0) 48 oL) → Mq (bd 6) = some (cI (K 0) 48 rw) → Mq (bd 7) = some (cI (K 0) 48 fr) → Mq (bd 8) = some (cI (K 0) 12 pi) → Mq (bd 9) = some (cI (K 0) 48 fo) → Mq (bd 10) = some (cI (K 0) 40 al1) → Mq (bd 11) = some (cI (K 0) 384 on1) → Mq (bd 12) = some (cI (K 0) 384 tw1) → Mq (bd 13) = some (cJ (K 1) 114688 sm) → Mq (bd 14) = some (cJ (K 1) 2100 av1) → Mq (bd 15) = some (cJ (K 1) 14 po1) → Mq (bd 16) = some (cJ (K 1) 28 le) → Mq (bd 17) = some (cI (K 0) 384 g) → zq_W D vwCl A s.heap Mq H locs → lv_has ls 11 [(0, .ref o), (1, .int (iI t)), (2, .int (iI pp)), (3, .int (iI (t % pp))), (4, .int (iI i))] → W p l e ({ frames := 7, cells := 0, slots := 0, locals := 165 } : Room) s m [.ref o, .int (iI t), .int (iI pp)].toArray below meth co H locs 0 0 (MQ below (zq_Q D vwCl (zT K) (P_MM_rank K M o bd put pS pL nn cir sg lb kn arcs al on tw mns av po t pp) A) [.ref o, .int (iI t), .int (iI pp)].toArray s 0 0 A) (F0 m 23 ls []) := by
      intro n
      induction n with
      | zero =>
        intro i g Mq H locs ls hi hg hms hfr h_o h_pS h_pL h_sg h_lb h_oS h_oL h_rw h_fr h_pi h_fo h_al h_on h_tw h_sm h_av h_po h_le h_gd hw hl
        exact absurd hms (Nat.not_lt_zero _)
      | succ n ih_hL1 =>
        intro i g Mq H locs ls hi hg hms hfr h_o h_pS h_pL h_sg h_lb h_oS h_oL h_rw h_fr h_pi h_fo h_al h_on h_tw h_sm h_av h_po h_le h_gd hw hl
        refine lv_iload hx hb d_MM_rank_23 (lv_at hl 4 rfl) ?_
        refine lv_sipush (v := iI 384) hx hb d_MM_rank_25 (by decide) ?_
        refine zq_icmp_ge (tgt := 68) hx hb d_MM_rank_28 (by decide) ⟨by omega, by omega⟩ (by decide) (fun hc6 => ?_) (fun hc6 => ?_)
        · have hL2 : ∀ (n : Nat) (a : Int) (dn : Int) (g : Int → Int) (Mq : zq_M) (H : Heap) (locs : List Loc) (ls : Array Slot), (0 ≤ a ∧ a ≤ arcs1) → (0 ≤ dn ∧ dn ≤ nn) → (zEm (fun i j => (on1 (32 * i + j) + tw1 (32 * i + j) * (t % pp)) % pp) nn pp arcs1 a.toNat (fun i j => g (32 * i + j)) dn) → (∀ z, 0 ≤ z → z < 384 → 0 ≤ g z ∧ g z < pp) → (arcs1 - a).toNat < n → (∀ q, q ≠ o → (∀ i, i < 18 → q ≠ bd i) → Mq q = M q) → Mq o = some (.inr (9, [.int (iI th), .int (iI put), .int (iI wr), .ref (bd 0), .ref (bd 1), .int (iI nn), .int (iI cir), .int (iI oN), .int (iI oC), .ref (bd 2), .ref (bd 3), .ref (bd 4), .ref (bd 5), .int (iI lbs), .ref (bd 6), .ref (bd 7), .ref (bd 8), .int (iI fcs), .ref (bd 9), .int (iI arcs1), .ref (bd 10), .ref (bd 11), .ref (bd 12), .ref (bd 13), .int (iI mns1), .ref (bd 14), .ref (bd 15), .ref (bd 16), .int (iI 1), .ref (bd 17)])) → Mq (bd 0) = some (cI (K 0) 12 pS) → Mq (bd 1) = some (cI (K 0) 48 pL) → Mq (bd 2) = some (cI (K 0) 12 sg) → Mq (bd 3) = some (cI (K 0) 48 lb) → Mq (bd 4) = some (cI (K 0) 12 oS) → Mq (bd 5) = some (cI (K 0) 48 oL) → Mq (bd 6) = some (cI (K 0) 48 rw) → Mq (bd 7) = some (cI (K 0) 48 fr) → Mq (bd 8) = some (cI (K 0) 12 pi) → Mq (bd 9) = some (cI (K 0) 48 fo) → Mq (bd 10) = some (cI (K 0) 40 al1) → Mq (bd 11) = some (cI (K 0) 384 on1) → Mq (bd 12) = some (cI (K 0) 384 tw1) → Mq (bd 13) = some (cJ (K 1) 114688 sm) → Mq (bd 14) = some (cJ (K 1) 2100 av1) → Mq (bd 15) = some (cJ (K 1) 14 po1) → Mq (bd 16) = some (cJ (K 1) 28 le) → Mq (bd 17) = some (cI (K 0) 384 g) → zq_W D vwCl A s.heap Mq H locs → lv_has ls 11 [(0, .ref o), (1, .int (iI t)), (2, .int (iI pp)), (4, .int (iI dn)), (5, .int (iI a))] → W p l e ({ frames := 7, cells := 0, slots := 0, locals := 165 } : Room) s m [.ref o, .int (iI t), .int (iI pp)].toArray below meth co H locs 0 0 (MQ below (zq_Q D vwCl (zT K) (P_MM_rank K M o bd put pS pL nn cir sg lb kn arcs al on tw mns av po t pp) A) [.ref o, .int (iI t), .int (iI pp)].toArray s 0 0 A) (F0 m 74 ls []) := by
            intro n
            induction n with
            | zero =>
              intro a dn g Mq H locs ls ha hdn hEm hgr hms hfr h_o h_pS h_pL h_sg h_lb h_oS h_oL h_rw h_fr h_pi h_fo h_al h_on h_tw h_sm h_av h_po h_le h_gd hw hl
              exact absurd hms (Nat.not_lt_zero _)
            | succ n ih_hL2 =>
              intro a dn g Mq H locs ls ha hdn hEm hgr hms hfr h_o h_pS h_pL h_sg h_lb h_oS h_oL h_rw h_fr h_pi h_fo h_al h_on h_tw h_sm h_av h_po h_le h_gd hw hl
              refine lv_iload hx hb d_MM_rank_74 (lv_at hl 4 rfl) ?_
              refine lv_aload_n hx hb d_MM_rank_76 rfl (lv_at hl 0 rfl) ?_
              refine zq_get hx hb hts i_MM hown hK hw h_o rfl 19 (by decide) (hts _ tw_605) rfl d_MM_rank_77 ?_
              refine zq_icmp_ge (tgt := 313) hx hb d_MM_rank_80 (by decide) ⟨by omega, by omega⟩ ⟨by omega, by omega⟩ (fun hc7 => ?_) (fun hc7 => ?_)
              · skip
                refine lv_iload hx hb d_MM_rank_313 (lv_at hl 3 rfl) ?_
                exact zq_iret hx hb hr hlocks hZ hw ⟨dn, rfl, Or.inr ⟨hPr, arcs1, al1, on1, tw1, mns1, av1, po1, hKn, ⟨_, _, _, _, _, _, _, _, _, _, _, _, _, _, _, h_o, hbd, h_pS, h_pL, h_sg, h_lb, h_oS, h_oL, h_rw, h_fr, h_pi, h_fo, h_al, h_on, h_tw, h_sm, h_av, h_po, h_le, h_gd, fun j => ⟨hpS j, hpL j, hsg j, hlb j, hoS j, hoL j, hrw j, hfo j, hal j⟩⟩, hfr, (fun i j => g (32 * i + j)), (by rw [show arcs1 = a by omega]; rw [show arcs1 = a by omega] at hEm; exact hEm)⟩⟩ d_MM_rank_315
              · skip
                refine lv_iload hx hb d_MM_rank_83 (lv_at hl 3 rfl) ?_
                refine lv_aload_n hx hb d_MM_rank_85 rfl (lv_at hl 0 rfl) ?_
                refine zq_get hx hb hts i_MM hown hK hw h_o rfl 5 (by decide) (hts _ tw_591) rfl d_MM_rank_86 ?_
                refine zq_icmp_ge (tgt := 313) hx hb d_MM_rank_89 (by decide) ⟨by omega, by omega⟩ ⟨by omega, by omega⟩ (fun hc8 => ?_) (fun hc8 => ?_)
                · refine lv_iload hx hb d_MM_rank_313 (lv_at hl 3 rfl) ?_
                  exact zq_iret hx hb hr hlocks hZ hw ⟨dn, rfl, Or.inr ⟨hPr, arcs1, al1, on1, tw1, mns1, av1, po1, hKn, ⟨_, _, _, _, _, _, _, _, _, _, _, _, _, _, _, h_o, hbd, h_pS, h_pL, h_sg, h_lb, h_oS, h_oL, h_rw, h_fr, h_pi, h_fo, h_al, h_on, h_tw, h_sm, h_av, h_po, h_le, h_gd, fun j => ⟨hpS j, hpL j, hsg j, hlb j, hoS j, hoL j, hrw j, hfo j, hal j⟩⟩, hfr, (fun i j => g (32 * i + j)), (zEm_ext hEm (by omega) (by omega))⟩⟩ d_MM_rank_315
                · refine lv_aload_n hx hb d_MM_rank_92 rfl (lv_at hl 0 rfl) ?_
                  refine lv_iload hx hb d_MM_rank_93 (lv_at hl 3 rfl) ?_
                  refine lv_iload hx hb d_MM_rank_95 (lv_at hl 4 rfl) ?_
                  refine zq_callV (As := [.int (iI dn), .int (iI a)]) (rest := []) ⟨hx, hb, hml, hown, hts⟩ (c_MM_rowWith l D K Mq o bd th put wr nn cir oN oC lbs fcs arcs1 mns1 1 g  dn a h_o hbd h_gd hnn ⟨by omega, by omega⟩ ⟨by omega, by omega⟩ (fun z h1 h2 => by have := hgr z h1 h2; exact ⟨by omega, by omega⟩)) (cwV 2 hts (zg_V tw_840 tw_842 ts_53 tw_10 tw_843) rfl rfl rfl (by decide +kernel) ⟨Nat.le_of_ble_eq_true rfl, Nat.le_of_ble_eq_true rfl⟩) hZ hw hA h_o rfl rfl rfl rfl hl.1 (Nat.le_of_ble_eq_true rfl) d_MM_rank_97 ⟨Nat.le_of_ble_eq_true rfl, Nat.le_of_ble_eq_true rfl⟩ (fun v M9 H locs hp hw => ?_)
                  obtain ⟨rW, rfl, hFp, hMe⟩ := hp
                  rw [hMe] at hw
                  refine W.eq (g2 := F0 m 100 ls [.int (iI rW)]) rfl ?_
                  refine lv_istore (lv' := [(6, .int (iI rW)), (0, .ref o), (1, .int (iI t)), (2, .int (iI pp)), (4, .int (iI dn)), (5, .int (iI a))]) hx hb d_MM_rank_100 hl (by decide) rfl (fun ls hl => ?_)
                  refine lv_iload hx hb d_MM_rank_102 (lv_at hl 0 rfl) ?_
                  refine zq_if_lt (tgt := 307) hx hb d_MM_rank_104 (by decide) (by rcases hFp with h | h <;> exact ⟨by omega, by omega⟩) (fun hc10 => ?_) (fun hc10 => ?_)
                  · have hEn : zEm (fun i j => (on1 (32 * i + j) + tw1 (32 * i + j) * (t % pp)) % pp) nn pp arcs1 (a + 1).toNat (fun i j => g (32 * i + j)) dn := by rw [(ztn ha.1).1]; exact ⟨_, dn, hEm, Or.inr ⟨by omega, rW, (by rw [(ztn ha.1).2]; exact hFp), Or.inl ⟨(by rcases hFp with h | h; omega; exact h.1), fun _ _ _ _ _ _ => rfl, rfl⟩⟩⟩
                    have hgn := hgr
                    refine lv_iinc (v := iI (a + 1)) (lv' := [(5, .int (iI (a + 1))), (6, .int (iI rW)), (0, .ref o), (1, .int (iI t)), (2, .int (iI pp)), (4, .int (iI dn))]) hx hb d_MM_rank_307 hl (k := 5) rfl (iI_add _ _) (by decide) rfl (fun ls hl => ?_)
                    refine lv_goto (tgt := 74) hx hb d_MM_rank_310 (by decide) ?_
                    exact ih_hL2 (a + 1) dn g Mq _ _ _ ⟨by omega, by omega⟩ ⟨by omega, by omega⟩ hEn hgn (by omega) hfr h_o h_pS h_pL h_sg h_lb h_oS h_oL h_rw h_fr h_pi h_fo h_al h_on h_tw h_sm h_av h_po h_le h_gd hw (lv_sub hl [2, 3, 4, 5, 0] rfl)
                  · have hrw0 : dn ≤ rW ∧ rW < nn := by rcases hFp with h | h; exact ⟨h.1, h.2.1⟩; omega
                    have hL3 : ∀ (n : Nat) (b : Int) (g2 : Int → Int) (Mq : zq_M) (H : Heap) (locs : List Loc) (ls : Array Slot), (0 ≤ b ∧ b ≤ arcs1) → (∀ z, g2 z = zsw2 g rW dn b z) → (arcs1 - b).toNat < n → (∀ q, q ≠ o → (∀ i, i < 18 → q ≠ bd i) → Mq q = M q) → Mq o = some (.inr (9, [.int (iI th), .int (iI put), .int (iI wr), .ref (bd 0), .ref (bd 1), .int (iI nn), .int (iI cir), .int (iI oN), .int (iI oC), .ref (bd 2), .ref (bd 3), .ref (bd 4), .ref (bd 5), .int (iI lbs), .ref (bd 6), .ref (bd 7), .ref (bd 8), .int (iI fcs), .ref (bd 9), .int (iI arcs1), .ref (bd 10), .ref (bd 11), .ref (bd 12), .ref (bd 13), .int (iI mns1), .ref (bd 14), .ref (bd 15), .ref (bd 16), .int (iI 1), .ref (bd 17)])) → Mq (bd 0) = some (cI (K 0) 12 pS) → Mq (bd 1) = some (cI (K 0) 48 pL) → Mq (bd 2) = some (cI (K 0) 12 sg) → Mq (bd 3) = some (cI (K 0) 48 lb) → Mq (bd 4) = some (cI (K 0) 12 oS) → Mq (bd 5) = some (cI (K 0) 48 oL) → Mq (bd 6) = some (cI (K 0) 48 rw) → Mq (bd 7) = some (cI (K 0) 48 fr) → Mq (bd 8) = some (cI (K 0) 12 pi) → Mq (bd 9) = some (cI (K 0) 48 fo) → Mq (bd 10) = some (cI (K 0) 40 al1) → Mq (bd 11) = some (cI (K 0) 384 on1) → Mq (bd 12) = some (cI (K 0) 384 tw1) → Mq (bd 13) = some (cJ (K 1) 114688 sm) → Mq (bd 14) = some (cJ (K 1) 2100 av1) → Mq (bd 15) = some (cJ (K 1) 14 po1) → Mq (bd 16) = some (cJ (K 1) 28 le) → Mq (bd 17) = some (cI (K 0) 384 g2) → zq_W D vwCl A s.heap Mq H locs → lv_has ls 11 [(0, .ref o), (1, .int (iI t)), (2, .int (iI pp)), (4, .int (iI dn)), (5, .int (iI a)), (6, .int (iI rW)), (7, .int (iI b))] → W p l e ({ frames := 7, cells := 0, slots := 0, locals := 165 } : Room) s m [.ref o, .int (iI t), .int (iI pp)].toArray below meth co H locs 0 0 (MQ below (zq_Q D vwCl (zT K) (P_MM_rank K M o bd put pS pL nn cir sg lb kn arcs al on tw mns av po t pp) A) [.ref o, .int (iI t), .int (iI pp)].toArray s 0 0 A) (F0 m 110 ls []) := by
                      intro n
                      induction n with
                      | zero =>
                        intro b g2 Mq H locs ls hb0 hg2 hms hfr h_o h_pS h_pL h_sg h_lb h_oS h_oL h_rw h_fr h_pi h_fo h_al h_on h_tw h_sm h_av h_po h_le h_gd hw hl
                        exact absurd hms (Nat.not_lt_zero _)
                      | succ n ih_hL3 =>
                        intro b g2 Mq H locs ls hb0 hg2 hms hfr h_o h_pS h_pL h_sg h_lb h_oS h_oL h_rw h_fr h_pi h_fo h_al h_on h_tw h_sm h_av h_po h_le h_gd hw hl
                        refine lv_iload hx hb d_MM_rank_110 (lv_at hl 6 rfl) ?_
                        refine lv_aload_n hx hb d_MM_rank_112 rfl (lv_at hl 0 rfl) ?_
                        refine zq_get hx hb hts i_MM hown hK hw h_o rfl 19 (by decide) (hts _ tw_605) rfl d_MM_rank_113 ?_
                        refine zq_icmp_ge (tgt := 181) hx hb d_MM_rank_116 (by decide) ⟨by omega, by omega⟩ ⟨by omega, by omega⟩ (fun hc11 => ?_) (fun hc11 => ?_)
                        · have hg2 : ∀ z, g2 z = zsw2 g rW dn arcs1 z := fun z => by rw [hg2 z, show b = arcs1 by omega]
                          have hgr2 : ∀ z, 0 ≤ z → z < 384 → 0 ≤ g2 z ∧ g2 z < pp := fun z h1 h2 => by rw [hg2 z]; exact zsw2_in hgr ⟨by omega, by omega⟩ ⟨by omega, by omega⟩ (by omega) ⟨h1, h2⟩
                          have hL4 : ∀ (n : Nat) (i : Int) (g3 : Int → Int) (Mq : zq_M) (H : Heap) (locs : List Loc) (ls : Array Slot), (dn + 1 ≤ i ∧ i ≤ nn) → (∀ z, g3 z = zcl3 g2 dn i a arcs1 pp z) → (nn - i).toNat < n → (∀ q, q ≠ o → (∀ i, i < 18 → q ≠ bd i) → Mq q = M q) → Mq o = some (.inr (9, [.int (iI th), .int (iI put), .int (iI wr), .ref (bd 0), .ref (bd 1), .int (iI nn), .int (iI cir), .int (iI oN), .int (iI oC), .ref (bd 2), .ref (bd 3), .ref (bd 4), .ref (bd 5), .int (iI lbs), .ref (bd 6), .ref (bd 7), .ref (bd 8), .int (iI fcs), .ref (bd 9), .int (iI arcs1), .ref (bd 10), .ref (bd 11), .ref (bd 12), .ref (bd 13), .int (iI mns1), .ref (bd 14), .ref (bd 15), .ref (bd 16), .int (iI 1), .ref (bd 17)])) → Mq (bd 0) = some (cI (K 0) 12 pS) → Mq (bd 1) = some (cI (K 0) 48 pL) → Mq (bd 2) = some (cI (K 0) 12 sg) → Mq (bd 3) = some (cI (K 0) 48 lb) → Mq (bd 4) = some (cI (K 0) 12 oS) → Mq (bd 5) = some (cI (K 0) 48 oL) → Mq (bd 6) = some (cI (K 0) 48 rw) → Mq (bd 7) = some (cI (K 0) 48 fr) → Mq (bd 8) = some (cI (K 0) 12 pi) → Mq (bd 9) = some (cI (K 0) 48 fo) → Mq (bd 10) = some (cI (K 0) 40 al1) → Mq (bd 11) = some (cI (K 0) 384 on1) → Mq (bd 12) = some (cI (K 0) 384 tw1) → Mq (bd 13) = some (cJ (K 1) 114688 sm) → Mq (bd 14) = some (cJ (K 1) 2100 av1) → Mq (bd 15) = some (cJ (K 1) 14 po1) → Mq (bd 16) = some (cJ (K 1) 28 le) → Mq (bd 17) = some (cI (K 0) 384 g3) → zq_W D vwCl A s.heap Mq H locs → lv_has ls 11 [(0, .ref o), (1, .int (iI t)), (2, .int (iI pp)), (4, .int (iI dn)), (5, .int (iI a)), (7, .int (iI i))] → W p l e ({ frames := 7, cells := 0, slots := 0, locals := 165 } : Room) s m [.ref o, .int (iI t), .int (iI pp)].toArray below meth co H locs 0 0 (MQ below (zq_Q D vwCl (zT K) (P_MM_rank K M o bd put pS pL nn cir sg lb kn arcs al on tw mns av po t pp) A) [.ref o, .int (iI t), .int (iI pp)].toArray s 0 0 A) (F0 m 187 ls []) := by
                            intro n
                            induction n with
                            | zero =>
                              intro i g3 Mq H locs ls hi hg3 hms hfr h_o h_pS h_pL h_sg h_lb h_oS h_oL h_rw h_fr h_pi h_fo h_al h_on h_tw h_sm h_av h_po h_le h_gd hw hl
                              exact absurd hms (Nat.not_lt_zero _)
                            | succ n ih_hL4 =>
                              intro i g3 Mq H locs ls hi hg3 hms hfr h_o h_pS h_pL h_sg h_lb h_oS h_oL h_rw h_fr h_pi h_fo h_al h_on h_tw h_sm h_av h_po h_le h_gd hw hl
                              refine lv_iload hx hb d_MM_rank_187 (lv_at hl 5 rfl) ?_
                              refine lv_aload_n hx hb d_MM_rank_189 rfl (lv_at hl 0 rfl) ?_
                              refine zq_get hx hb hts i_MM hown hK hw h_o rfl 5 (by decide) (hts _ tw_591) rfl d_MM_rank_190 ?_
                              refine zq_icmp_ge (tgt := 304) hx hb d_MM_rank_193 (by decide) ⟨by omega, by omega⟩ ⟨by omega, by omega⟩ (fun hc12 => ?_) (fun hc12 => ?_)
                              · have hg3n : ∀ z, g3 z = zcl3 g2 dn nn a arcs1 pp z := fun z => by rw [hg3 z, show i = nn by omega]
                                have hEn : zEm (fun i j => (on1 (32 * i + j) + tw1 (32 * i + j) * (t % pp)) % pp) nn pp arcs1 (a + 1).toNat (fun i j => g3 (32 * i + j)) (dn + 1) := by rw [(ztn ha.1).1]; exact ⟨_, dn, hEm, Or.inr ⟨by omega, rW, (by rw [(ztn ha.1).2]; exact hFp), Or.inr ⟨by omega, fun i j h1 h2 h3 h4 => (by show g3 (32 * i + j) = _; rw [hg3n, (ztn ha.1).2]; exact zcl3_at (G := g) hg2 (by omega) ⟨by omega, by omega⟩ ⟨h1, h2⟩ ⟨h3, h4⟩), rfl⟩⟩⟩
                                have hgn : ∀ z, 0 ≤ z → z < 384 → 0 ≤ g3 z ∧ g3 z < pp := fun z h1 h2 => by rw [hg3n z]; unfold zcl3; split; exact zemr (by omega); exact hgr2 z h1 h2
                                refine lv_iinc (v := iI (dn + 1)) (lv' := [(4, .int (iI (dn + 1))), (0, .ref o), (1, .int (iI t)), (2, .int (iI pp)), (5, .int (iI a)), (7, .int (iI i))]) hx hb d_MM_rank_304 hl (k := 3) rfl (iI_add _ _) (by decide) rfl (fun ls hl => ?_)
                                refine lv_iinc (v := iI (a + 1)) (lv' := [(5, .int (iI (a + 1))), (4, .int (iI (dn + 1))), (0, .ref o), (1, .int (iI t)), (2, .int (iI pp)), (7, .int (iI i))]) hx hb d_MM_rank_307 hl (k := 4) rfl (iI_add _ _) (by decide) rfl (fun ls hl => ?_)
                                refine lv_goto (tgt := 74) hx hb d_MM_rank_310 (by decide) ?_
                                exact ih_hL2 (a + 1) (dn + 1) g3 Mq _ _ _ ⟨by omega, by omega⟩ ⟨by omega, by omega⟩ hEn hgn (by omega) hfr h_o h_pS h_pL h_sg h_lb h_oS h_oL h_rw h_fr h_pi h_fo h_al h_on h_tw h_sm h_av h_po h_le h_gd hw (lv_sub hl [2, 3, 4, 1, 0] rfl)
                              · refine lv_aload_n hx hb d_MM_rank_196 rfl (lv_at hl 0 rfl) ?_
                                refine zq_get hx hb hts i_MM hown hK hw h_o rfl 29 (by decide) (hts _ tw_615) rfl d_MM_rank_197 ?_
                                refine lv_bipush (v := iI 32) hx hb d_MM_rank_200 (by decide) ?_
                                refine lv_iload hx hb d_MM_rank_202 (lv_at hl 3 rfl) ?_
                                refine zq_imul hx hb d_MM_rank_204 ?_
                                refine lv_iload hx hb d_MM_rank_205 (lv_at hl 4 rfl) ?_
                                refine zq_iadd hx hb d_MM_rank_207 ?_
                                refine zq_iald hx hb hK hw 0 h_gd rfl (by omega) (by omega) (by decide) d_MM_rank_208 ?_
                                refine lv_istore (lv' := [(8, .int (iI (g3 ((32 * dn) + a)))), (0, .ref o), (1, .int (iI t)), (2, .int (iI pp)), (4, .int (iI dn)), (5, .int (iI a)), (7, .int (iI i))]) hx hb d_MM_rank_209 hl (by decide) rfl (fun ls hl => ?_)
                                refine lv_aload_n hx hb d_MM_rank_211 rfl (lv_at hl 1 rfl) ?_
                                refine zq_get hx hb hts i_MM hown hK hw h_o rfl 29 (by decide) (hts _ tw_615) rfl d_MM_rank_212 ?_
                                refine lv_bipush (v := iI 32) hx hb d_MM_rank_215 (by decide) ?_
                                refine lv_iload hx hb d_MM_rank_217 (lv_at hl 6 rfl) ?_
                                refine zq_imul hx hb d_MM_rank_219 ?_
                                refine lv_iload hx hb d_MM_rank_220 (lv_at hl 5 rfl) ?_
                                refine zq_iadd hx hb d_MM_rank_222 ?_
                                refine zq_iald hx hb hK hw 0 h_gd rfl (by omega) (by omega) (by decide) d_MM_rank_223 ?_
                                refine lv_istore (lv' := [(9, .int (iI (g3 ((32 * i) + a)))), (8, .int (iI (g3 ((32 * dn) + a)))), (0, .ref o), (1, .int (iI t)), (2, .int (iI pp)), (4, .int (iI dn)), (5, .int (iI a)), (7, .int (iI i))]) hx hb d_MM_rank_224 hl (by decide) rfl (fun ls hl => ?_)
                                obtain ⟨uu, huu⟩ : ∃ z, z = g3 ((32 * dn) + a) := ⟨_, rfl⟩
                                rw [← huu] at hl
                                have huu : uu = g2 (32 * dn + a) := by rw [huu, hg3]; unfold zcl3; rw [if_neg (by omega)]
                                obtain ⟨vv, hvv⟩ : ∃ z, z = g3 ((32 * i) + a) := ⟨_, rfl⟩
                                rw [← hvv] at hl
                                have hvv : vv = g2 (32 * i + a) := by rw [hvv, hg3]; unfold zcl3; rw [if_neg (by omega)]
                                have hur := hgr2 (32 * dn + a) (by omega) (by omega)
                                have hvr := hgr2 (32 * i + a) (by omega) (by omega)
                                have hL5 : ∀ (n : Nat) (b : Int) (g4 : Int → Int) (Mq : zq_M) (H : Heap) (locs : List Loc) (ls : Array Slot), (0 ≤ b ∧ b ≤ arcs1) → (∀ z, g4 z = if 32 * i ≤ z ∧ z < 32 * i + b then (g2 (32 * dn + a) * g2 z - g2 (32 * i + a) * g2 (32 * dn + (z - 32 * i))) % pp else g3 z) → (arcs1 - b).toNat < n → (∀ q, q ≠ o → (∀ i, i < 18 → q ≠ bd i) → Mq q = M q) → Mq o = some (.inr (9, [.int (iI th), .int (iI put), .int (iI wr), .ref (bd 0), .ref (bd 1), .int (iI nn), .int (iI cir), .int (iI oN), .int (iI oC), .ref (bd 2), .ref (bd 3), .ref (bd 4), .ref (bd 5), .int (iI lbs), .ref (bd 6), .ref (bd 7), .ref (bd 8), .int (iI fcs), .ref (bd 9), .int (iI arcs1), .ref (bd 10), .ref (bd 11), .ref (bd 12), .ref (bd 13), .int (iI mns1), .ref (bd 14), .ref (bd 15), .ref (bd 16), .int (iI 1), .ref (bd 17)])) → Mq (bd 0) = some (cI (K 0) 12 pS) → Mq (bd 1) = some (cI (K 0) 48 pL) → Mq (bd 2) = some (cI (K 0) 12 sg) → Mq (bd 3) = some (cI (K 0) 48 lb) → Mq (bd 4) = some (cI (K 0) 12 oS) → Mq (bd 5) = some (cI (K 0) 48 oL) → Mq (bd 6) = some (cI (K 0) 48 rw) → Mq (bd 7) = some (cI (K 0) 48 fr) → Mq (bd 8) = some (cI (K 0) 12 pi) → Mq (bd 9) = some (cI (K 0) 48 fo) → Mq (bd 10) = some (cI (K 0) 40 al1) → Mq (bd 11) = some (cI (K 0) 384 on1) → Mq (bd 12) = some (cI (K 0) 384 tw1) → Mq (bd 13) = some (cJ (K 1) 114688 sm) → Mq (bd 14) = some (cJ (K 1) 2100 av1) → Mq (bd 15) = some (cJ (K 1) 14 po1) → Mq (bd 16) = some (cJ (K 1) 28 le) → Mq (bd 17) = some (cI (K 0) 384 g4) → zq_W D vwCl A s.heap Mq H locs → lv_has ls 11 [(0, .ref o), (1, .int (iI t)), (2, .int (iI pp)), (4, .int (iI dn)), (5, .int (iI a)), (7, .int (iI i)), (8, .int (iI uu)), (9, .int (iI vv)), (10, .int (iI b))] → W p l e ({ frames := 7, cells := 0, slots := 0, locals := 165 } : Room) s m [.ref o, .int (iI t), .int (iI pp)].toArray below meth co H locs 0 0 (MQ below (zq_Q D vwCl (zT K) (P_MM_rank K M o bd put pS pL nn cir sg lb kn arcs al on tw mns av po t pp) A) [.ref o, .int (iI t), .int (iI pp)].toArray s 0 0 A) (F0 m 229 ls []) := by
                                  intro n
                                  induction n with
                                  | zero =>
                                    intro b g4 Mq H locs ls hb1 hg4 hms hfr h_o h_pS h_pL h_sg h_lb h_oS h_oL h_rw h_fr h_pi h_fo h_al h_on h_tw h_sm h_av h_po h_le h_gd hw hl
                                    exact absurd hms (Nat.not_lt_zero _)
                                  | succ n ih_hL5 =>
                                    intro b g4 Mq H locs ls hb1 hg4 hms hfr h_o h_pS h_pL h_sg h_lb h_oS h_oL h_rw h_fr h_pi h_fo h_al h_on h_tw h_sm h_av h_po h_le h_gd hw hl
                                    refine lv_iload hx hb d_MM_rank_229 (lv_at hl 8 rfl) ?_
                                    refine lv_aload_n hx hb d_MM_rank_231 rfl (lv_at hl 0 rfl) ?_
                                    refine zq_get hx hb hts i_MM hown hK hw h_o rfl 19 (by decide) (hts _ tw_605) rfl d_MM_rank_232 ?_
                                    refine zq_icmp_ge (tgt := 298) hx hb d_MM_rank_235 (by decide) ⟨by omega, by omega⟩ ⟨by omega, by omega⟩ (fun hc13 => ?_) (fun hc13 => ?_)
                                    · refine lv_iinc (v := iI (i + 1)) (lv' := [(7, .int (iI (i + 1))), (0, .ref o), (1, .int (iI t)), (2, .int (iI pp)), (4, .int (iI dn)), (5, .int (iI a)), (8, .int (iI uu)), (9, .int (iI vv)), (10, .int (iI b))]) hx hb d_MM_rank_298 hl (k := 5) rfl (iI_add _ _) (by decide) rfl (fun ls hl => ?_)
                                      refine lv_goto (tgt := 187) hx hb d_MM_rank_301 (by decide) ?_
                                      exact ih_hL4 (i + 1) g4 Mq _ _ _ (by omega) (zcl3_s hg3 (fun z => by rw [hg4 z, show b = arcs1 by omega]) (by omega) (by omega)) (by omega) hfr h_o h_pS h_pL h_sg h_lb h_oS h_oL h_rw h_fr h_pi h_fo h_al h_on h_tw h_sm h_av h_po h_le h_gd hw (lv_sub hl [1, 2, 3, 4, 5, 0] rfl)
                                    · have e1 : g4 (32 * i + b) = g2 (32 * i + b) := by rw [hg4, if_neg (by omega), hg3]; unfold zcl3; rw [if_neg (by omega)]
                                      have e2 : g4 (32 * dn + b) = g2 (32 * dn + b) := by rw [hg4, if_neg (by omega), hg3]; unfold zcl3; rw [if_neg (by omega)]
                                      have r1 := hgr2 (32 * i + b) (by omega) (by omega)
                                      have r2 := hgr2 (32 * dn + b) (by omega) (by omega)
                                      have r3 := zprs (u := uu) (x := g4 (32 * i + b)) (by omega) (by omega)
                                      have r4 := zprs (u := vv) (x := g4 (32 * dn + b)) (by omega) (by omega)
                                      refine lv_aload_n hx hb d_MM_rank_238 rfl (lv_at hl 0 rfl) ?_
                                      refine zq_get hx hb hts i_MM hown hK hw h_o rfl 29 (by decide) (hts _ tw_615) rfl d_MM_rank_239 ?_
                                      refine lv_bipush (v := iI 32) hx hb d_MM_rank_242 (by decide) ?_
                                      refine lv_iload hx hb d_MM_rank_244 (lv_at hl 5 rfl) ?_
                                      refine zq_imul hx hb d_MM_rank_246 ?_
                                      refine lv_iload hx hb d_MM_rank_247 (lv_at hl 8 rfl) ?_
                                      refine zq_iadd hx hb d_MM_rank_249 ?_
                                      refine lv_iload hx hb d_MM_rank_250 (lv_at hl 6 rfl) ?_
                                      refine zq_i2l hx hb ⟨by omega, by omega⟩ d_MM_rank_252 ?_
                                      refine lv_aload_n hx hb d_MM_rank_253 rfl (lv_at hl 0 rfl) ?_
                                      refine zq_get hx hb hts i_MM hown hK hw h_o rfl 29 (by decide) (hts _ tw_615) rfl d_MM_rank_254 ?_
                                      refine lv_bipush (v := iI 32) hx hb d_MM_rank_257 (by decide) ?_
                                      refine lv_iload hx hb d_MM_rank_259 (lv_at hl 5 rfl) ?_
                                      refine zq_imul hx hb d_MM_rank_261 ?_
                                      refine lv_iload hx hb d_MM_rank_262 (lv_at hl 8 rfl) ?_
                                      refine zq_iadd hx hb d_MM_rank_264 ?_
                                      refine zq_iald hx hb hK hw 0 h_gd rfl (by omega) (by omega) (by decide) d_MM_rank_265 ?_
                                      refine zq_i2l hx hb ⟨by omega, by omega⟩ d_MM_rank_266 ?_
                                      refine zq_lmul hx hb d_MM_rank_267 ?_
                                      refine lv_iload hx hb d_MM_rank_268 (lv_at hl 7 rfl) ?_
                                      refine zq_i2l hx hb ⟨by omega, by omega⟩ d_MM_rank_270 ?_
                                      refine lv_aload_n hx hb d_MM_rank_271 rfl (lv_at hl 0 rfl) ?_
                                      refine zq_get hx hb hts i_MM hown hK hw h_o rfl 29 (by decide) (hts _ tw_615) rfl d_MM_rank_272 ?_
                                      refine lv_bipush (v := iI 32) hx hb d_MM_rank_275 (by decide) ?_
                                      refine lv_iload hx hb d_MM_rank_277 (lv_at hl 3 rfl) ?_
                                      refine zq_imul hx hb d_MM_rank_279 ?_
                                      refine lv_iload hx hb d_MM_rank_280 (lv_at hl 8 rfl) ?_
                                      refine zq_iadd hx hb d_MM_rank_282 ?_
                                      refine zq_iald hx hb hK hw 0 h_gd rfl (by omega) (by omega) (by decide) d_MM_rank_283 ?_
                                      refine zq_i2l hx hb ⟨by omega, by omega⟩ d_MM_rank_284 ?_
                                      refine zq_lmul hx hb d_MM_rank_285 ?_
                                      refine zq_lsub hx hb d_MM_rank_286 ?_
                                      refine lv_iload_n hx hb d_MM_rank_287 rfl (lv_at hl 2 rfl) ?_
                                      refine zq_callS (b := 0) (C := "") (As := [.long (iL ((uu * (g4 ((32 * i) + b))) - (vv * (g4 ((32 * dn) + b))))), .int (iI pp)]) (rest := [.int (iI ((32 * i) + b)), .ref (bd 17)]) ⟨hx, hb, hml, hown, hts⟩ (c_MM_mod l D K Mq    ((uu * (g4 ((32 * i) + b))) - (vv * (g4 ((32 * dn) + b)))) pp  ⟨⟨by omega, by omega⟩, by omega⟩ ⟨hp2, hp97⟩) (va_cwS 2 hts (zg_T tw_837 tw_838 tw_10 tw_839) rfl rfl rfl (by decide +kernel) ⟨Nat.le_of_ble_eq_true rfl, Nat.le_of_ble_eq_true rfl⟩) hZ hw hA rfl rfl hl.1 (Nat.le_of_ble_eq_true rfl) d_MM_rank_288 ⟨Nat.le_of_ble_eq_true rfl, Nat.le_of_ble_eq_true rfl⟩ (fun v M14 H locs hp hw => ?_)
                                      obtain ⟨rfl, hMe⟩ := hp
                                      rw [hMe] at hw
                                      refine W.eq (g2 := F0 m 291 ls [.int (iI (((uu * (g4 ((32 * i) + b))) - (vv * (g4 ((32 * dn) + b)))) % pp)), .int (iI ((32 * i) + b)), .ref (bd 17)]) rfl ?_
                                      refine zq_iast hx hb hK hw 0 h_gd rfl (by omega) (by omega) (by decide) d_MM_rank_291 (fun M15 H locs hs ho hw => ?_)
                                      have h_o : M15 o = some (.inr (9, [.int (iI th), .int (iI put), .int (iI wr), .ref (bd 0), .ref (bd 1), .int (iI nn), .int (iI cir), .int (iI oN), .int (iI oC), .ref (bd 2), .ref (bd 3), .ref (bd 4), .ref (bd 5), .int (iI lbs), .ref (bd 6), .ref (bd 7), .ref (bd 8), .int (iI fcs), .ref (bd 9), .int (iI arcs1), .ref (bd 10), .ref (bd 11), .ref (bd 12), .ref (bd 13), .int (iI mns1), .ref (bd 14), .ref (bd 15), .ref (bd 16), .int (iI 1), .ref (bd 17)])) := (ho _ (zq_ne h_o h_gd (by simp))).trans h_o
                                      have h_pS : M15 (bd 0) = some (cI (K 0) 12 pS) := (ho _ (zbd hbd 0 17)).trans h_pS
                                      have h_pL : M15 (bd 1) = some (cI (K 0) 48 pL) := (ho _ (zbd hbd 1 17)).trans h_pL
                                      have h_sg : M15 (bd 2) = some (cI (K 0) 12 sg) := (ho _ (zbd hbd 2 17)).trans h_sg
                                      have h_lb : M15 (bd 3) = some (cI (K 0) 48 lb) := (ho _ (zbd hbd 3 17)).trans h_lb
                                      have h_oS : M15 (bd 4) = some (cI (K 0) 12 oS) := (ho _ (zbd hbd 4 17)).trans h_oS
                                      have h_oL : M15 (bd 5) = some (cI (K 0) 48 oL) := (ho _ (zbd hbd 5 17)).trans h_oL
                                      have h_rw : M15 (bd 6) = some (cI (K 0) 48 rw) := (ho _ (zbd hbd 6 17)).trans h_rw
                                      have h_fr : M15 (bd 7) = some (cI (K 0) 48 fr) := (ho _ (zbd hbd 7 17)).trans h_fr
                                      have h_pi : M15 (bd 8) = some (cI (K 0) 12 pi) := (ho _ (zbd hbd 8 17)).trans h_pi
                                      have h_fo : M15 (bd 9) = some (cI (K 0) 48 fo) := (ho _ (zbd hbd 9 17)).trans h_fo
                                      have h_al : M15 (bd 10) = some (cI (K 0) 40 al1) := (ho _ (zbd hbd 10 17)).trans h_al
                                      have h_on : M15 (bd 11) = some (cI (K 0) 384 on1) := (ho _ (zbd hbd 11 17)).trans h_on
                                      have h_tw : M15 (bd 12) = some (cI (K 0) 384 tw1) := (ho _ (zbd hbd 12 17)).trans h_tw
                                      have h_sm : M15 (bd 13) = some (cJ (K 1) 114688 sm) := (ho _ (zbd hbd 13 17)).trans h_sm
                                      have h_av : M15 (bd 14) = some (cJ (K 1) 2100 av1) := (ho _ (zbd hbd 14 17)).trans h_av
                                      have h_po : M15 (bd 15) = some (cJ (K 1) 14 po1) := (ho _ (zbd hbd 15 17)).trans h_po
                                      have h_le : M15 (bd 16) = some (cJ (K 1) 28 le) := (ho _ (zbd hbd 16 17)).trans h_le
                                      have h_gd : M15 (bd 17) = some (cI (K 0) 384 (zu g4 ((32 * i) + b) (((uu * (g4 ((32 * i) + b))) - (vv * (g4 ((32 * dn) + b)))) % pp))) := hs
                                      have hfr : ∀ q, q ≠ o → (∀ i, i < 18 → q ≠ bd i) → M15 q = M q := fun q g0 g1 => (ho q (g1 17 (by decide))).trans (hfr q g0 g1)
                                      have hgn4 : ∀ z, (zu g4 ((32 * i) + b) (((uu * (g4 ((32 * i) + b))) - (vv * (g4 ((32 * dn) + b)))) % pp)) z = if 32 * i ≤ z ∧ z < 32 * i + (b + 1) then (g2 (32 * dn + a) * g2 z - g2 (32 * i + a) * g2 (32 * dn + (z - 32 * i))) % pp else g3 z := fun z => by by_cases q : z = 32 * i + b; rw [q, zu_self, if_pos (by omega), huu, hvv, e1, e2, show 32 * i + b - 32 * i = b by omega]; rw [zu_ne _ _ q, hg4 z]; by_cases q2 : 32 * i ≤ z ∧ z < 32 * i + b; rw [if_pos q2, if_pos (by omega)]; rw [if_neg q2, if_neg (by omega)]
                                      refine lv_iinc (v := iI (b + 1)) (lv' := [(10, .int (iI (b + 1))), (0, .ref o), (1, .int (iI t)), (2, .int (iI pp)), (4, .int (iI dn)), (5, .int (iI a)), (7, .int (iI i)), (8, .int (iI uu)), (9, .int (iI vv))]) hx hb d_MM_rank_292 hl (k := 8) rfl (iI_add _ _) (by decide) rfl (fun ls hl => ?_)
                                      refine lv_goto (tgt := 229) hx hb d_MM_rank_295 (by decide) ?_
                                      exact ih_hL5 (b + 1) (zu g4 ((32 * i) + b) (((uu * (g4 ((32 * i) + b))) - (vv * (g4 ((32 * dn) + b)))) % pp)) M15 _ _ _ (by omega) hgn4 (by omega) hfr h_o h_pS h_pL h_sg h_lb h_oS h_oL h_rw h_fr h_pi h_fo h_al h_on h_tw h_sm h_av h_po h_le h_gd hw (lv_sub hl [1, 2, 3, 4, 5, 6, 7, 8, 0] rfl)
                                refine lv_iconst (v := iI 0) hx hb d_MM_rank_226 rfl ?_
                                refine lv_istore (lv' := [(10, .int (iI 0)), (9, .int (iI vv)), (8, .int (iI uu)), (0, .ref o), (1, .int (iI t)), (2, .int (iI pp)), (4, .int (iI dn)), (5, .int (iI a)), (7, .int (iI i))]) hx hb d_MM_rank_227 hl (by decide) rfl (fun ls hl => ?_)
                                exact hL5 _ 0 g3 Mq _ _ _ ⟨by omega, by omega⟩ (fun z => (if_neg (by omega)).symm) (Nat.lt_succ_self _) hfr h_o h_pS h_pL h_sg h_lb h_oS h_oL h_rw h_fr h_pi h_fo h_al h_on h_tw h_sm h_av h_po h_le h_gd hw (lv_sub hl [3, 4, 5, 6, 7, 8, 2, 1, 0] rfl)
                          refine lv_iload hx hb d_MM_rank_181 (lv_at hl 3 rfl) ?_
                          refine lv_iconst (v := iI 1) hx hb d_MM_rank_183 rfl ?_
                          refine zq_iadd hx hb d_MM_rank_184 ?_
                          refine lv_istore (lv' := [(7, .int (iI (dn + 1))), (0, .ref o), (1, .int (iI t)), (2, .int (iI pp)), (4, .int (iI dn)), (5, .int (iI a)), (6, .int (iI rW))]) hx hb d_MM_rank_185 hl (by decide) rfl (fun ls hl => ?_)
                          exact hL4 _ (dn + 1) g2 Mq _ _ _ ⟨by omega, by omega⟩ (zcl3_0 _ _ _ _ _) (Nat.lt_succ_self _) hfr h_o h_pS h_pL h_sg h_lb h_oS h_oL h_rw h_fr h_pi h_fo h_al h_on h_tw h_sm h_av h_po h_le h_gd hw (lv_sub hl [1, 2, 3, 4, 5, 0] rfl)
                        · refine lv_aload_n hx hb d_MM_rank_119 rfl (lv_at hl 0 rfl) ?_
                          refine zq_get hx hb hts i_MM hown hK hw h_o rfl 29 (by decide) (hts _ tw_615) rfl d_MM_rank_120 ?_
                          refine lv_bipush (v := iI 32) hx hb d_MM_rank_123 (by decide) ?_
                          refine lv_iload hx hb d_MM_rank_125 (lv_at hl 5 rfl) ?_
                          refine zq_imul hx hb d_MM_rank_127 ?_
                          refine lv_iload hx hb d_MM_rank_128 (lv_at hl 6 rfl) ?_
                          refine zq_iadd hx hb d_MM_rank_130 ?_
                          refine zq_iald hx hb hK hw 0 h_gd rfl (by omega) (by omega) (by decide) d_MM_rank_131 ?_
                          refine lv_istore (lv' := [(8, .int (iI (g2 ((32 * rW) + b)))), (0, .ref o), (1, .int (iI t)), (2, .int (iI pp)), (4, .int (iI dn)), (5, .int (iI a)), (6, .int (iI rW)), (7, .int (iI b))]) hx hb d_MM_rank_132 hl (by decide) rfl (fun ls hl => ?_)
                          refine lv_aload_n hx hb d_MM_rank_134 rfl (lv_at hl 1 rfl) ?_
                          refine zq_get hx hb hts i_MM hown hK hw h_o rfl 29 (by decide) (hts _ tw_615) rfl d_MM_rank_135 ?_
                          refine lv_bipush (v := iI 32) hx hb d_MM_rank_138 (by decide) ?_
                          refine lv_iload hx hb d_MM_rank_140 (lv_at hl 6 rfl) ?_
                          refine zq_imul hx hb d_MM_rank_142 ?_
                          refine lv_iload hx hb d_MM_rank_143 (lv_at hl 7 rfl) ?_
                          refine zq_iadd hx hb d_MM_rank_145 ?_
                          refine lv_aload_n hx hb d_MM_rank_146 rfl (lv_at hl 1 rfl) ?_
                          refine zq_get hx hb hts i_MM hown hK hw h_o rfl 29 (by decide) (hts _ tw_615) rfl d_MM_rank_147 ?_
                          refine lv_bipush (v := iI 32) hx hb d_MM_rank_150 (by decide) ?_
                          refine lv_iload hx hb d_MM_rank_152 (lv_at hl 4 rfl) ?_
                          refine zq_imul hx hb d_MM_rank_154 ?_
                          refine lv_iload hx hb d_MM_rank_155 (lv_at hl 7 rfl) ?_
                          refine zq_iadd hx hb d_MM_rank_157 ?_
                          refine zq_iald hx hb hK hw 0 h_gd rfl (by omega) (by omega) (by decide) d_MM_rank_158 ?_
                          refine zq_iast hx hb hK hw 0 h_gd rfl (by omega) (by omega) (by decide) d_MM_rank_159 (fun M16 H locs hs ho hw => ?_)
                          have h_o : M16 o = some (.inr (9, [.int (iI th), .int (iI put), .int (iI wr), .ref (bd 0), .ref (bd 1), .int (iI nn), .int (iI cir), .int (iI oN), .int (iI oC), .ref (bd 2), .ref (bd 3), .ref (bd 4), .ref (bd 5), .int (iI lbs), .ref (bd 6), .ref (bd 7), .ref (bd 8), .int (iI fcs), .ref (bd 9), .int (iI arcs1), .ref (bd 10), .ref (bd 11), .ref (bd 12), .ref (bd 13), .int (iI mns1), .ref (bd 14), .ref (bd 15), .ref (bd 16), .int (iI 1), .ref (bd 17)])) := (ho _ (zq_ne h_o h_gd (by simp))).trans h_o
                          have h_pS : M16 (bd 0) = some (cI (K 0) 12 pS) := (ho _ (zbd hbd 0 17)).trans h_pS
                          have h_pL : M16 (bd 1) = some (cI (K 0) 48 pL) := (ho _ (zbd hbd 1 17)).trans h_pL
                          have h_sg : M16 (bd 2) = some (cI (K 0) 12 sg) := (ho _ (zbd hbd 2 17)).trans h_sg
                          have h_lb : M16 (bd 3) = some (cI (K 0) 48 lb) := (ho _ (zbd hbd 3 17)).trans h_lb
                          have h_oS : M16 (bd 4) = some (cI (K 0) 12 oS) := (ho _ (zbd hbd 4 17)).trans h_oS
                          have h_oL : M16 (bd 5) = some (cI (K 0) 48 oL) := (ho _ (zbd hbd 5 17)).trans h_oL
                          have h_rw : M16 (bd 6) = some (cI (K 0) 48 rw) := (ho _ (zbd hbd 6 17)).trans h_rw
                          have h_fr : M16 (bd 7) = some (cI (K 0) 48 fr) := (ho _ (zbd hbd 7 17)).trans h_fr
                          have h_pi : M16 (bd 8) = some (cI (K 0) 12 pi) := (ho _ (zbd hbd 8 17)).trans h_pi
                          have h_fo : M16 (bd 9) = some (cI (K 0) 48 fo) := (ho _ (zbd hbd 9 17)).trans h_fo
                          have h_al : M16 (bd 10) = some (cI (K 0) 40 al1) := (ho _ (zbd hbd 10 17)).trans h_al
                          have h_on : M16 (bd 11) = some (cI (K 0) 384 on1) := (ho _ (zbd hbd 11 17)).trans h_on
                          have h_tw : M16 (bd 12) = some (cI (K 0) 384 tw1) := (ho _ (zbd hbd 12 17)).trans h_tw
                          have h_sm : M16 (bd 13) = some (cJ (K 1) 114688 sm) := (ho _ (zbd hbd 13 17)).trans h_sm
                          have h_av : M16 (bd 14) = some (cJ (K 1) 2100 av1) := (ho _ (zbd hbd 14 17)).trans h_av
                          have h_po : M16 (bd 15) = some (cJ (K 1) 14 po1) := (ho _ (zbd hbd 15 17)).trans h_po
                          have h_le : M16 (bd 16) = some (cJ (K 1) 28 le) := (ho _ (zbd hbd 16 17)).trans h_le
                          have h_gd : M16 (bd 17) = some (cI (K 0) 384 (zu g2 ((32 * rW) + b) (g2 ((32 * dn) + b)))) := hs
                          have hfr : ∀ q, q ≠ o → (∀ i, i < 18 → q ≠ bd i) → M16 q = M q := fun q g0 g1 => (ho q (g1 17 (by decide))).trans (hfr q g0 g1)
                          refine lv_aload_n hx hb d_MM_rank_160 rfl (lv_at hl 1 rfl) ?_
                          refine zq_get hx hb hts i_MM hown hK hw h_o rfl 29 (by decide) (hts _ tw_615) rfl d_MM_rank_161 ?_
                          refine lv_bipush (v := iI 32) hx hb d_MM_rank_164 (by decide) ?_
                          refine lv_iload hx hb d_MM_rank_166 (lv_at hl 4 rfl) ?_
                          refine zq_imul hx hb d_MM_rank_168 ?_
                          refine lv_iload hx hb d_MM_rank_169 (lv_at hl 7 rfl) ?_
                          refine zq_iadd hx hb d_MM_rank_171 ?_
                          refine lv_iload hx hb d_MM_rank_172 (lv_at hl 0 rfl) ?_
                          refine zq_iast hx hb hK hw 0 h_gd rfl (by omega) (by omega) (by decide) d_MM_rank_174 (fun M17 H locs hs ho hw => ?_)
                          have h_o : M17 o = some (.inr (9, [.int (iI th), .int (iI put), .int (iI wr), .ref (bd 0), .ref (bd 1), .int (iI nn), .int (iI cir), .int (iI oN), .int (iI oC), .ref (bd 2), .ref (bd 3), .ref (bd 4), .ref (bd 5), .int (iI lbs), .ref (bd 6), .ref (bd 7), .ref (bd 8), .int (iI fcs), .ref (bd 9), .int (iI arcs1), .ref (bd 10), .ref (bd 11), .ref (bd 12), .ref (bd 13), .int (iI mns1), .ref (bd 14), .ref (bd 15), .ref (bd 16), .int (iI 1), .ref (bd 17)])) := (ho _ (zq_ne h_o h_gd (by simp))).trans h_o
                          have h_pS : M17 (bd 0) = some (cI (K 0) 12 pS) := (ho _ (zbd hbd 0 17)).trans h_pS
                          have h_pL : M17 (bd 1) = some (cI (K 0) 48 pL) := (ho _ (zbd hbd 1 17)).trans h_pL
                          have h_sg : M17 (bd 2) = some (cI (K 0) 12 sg) := (ho _ (zbd hbd 2 17)).trans h_sg
                          have h_lb : M17 (bd 3) = some (cI (K 0) 48 lb) := (ho _ (zbd hbd 3 17)).trans h_lb
                          have h_oS : M17 (bd 4) = some (cI (K 0) 12 oS) := (ho _ (zbd hbd 4 17)).trans h_oS
                          have h_oL : M17 (bd 5) = some (cI (K 0) 48 oL) := (ho _ (zbd hbd 5 17)).trans h_oL
                          have h_rw : M17 (bd 6) = some (cI (K 0) 48 rw) := (ho _ (zbd hbd 6 17)).trans h_rw
                          have h_fr : M17 (bd 7) = some (cI (K 0) 48 fr) := (ho _ (zbd hbd 7 17)).trans h_fr
                          have h_pi : M17 (bd 8) = some (cI (K 0) 12 pi) := (ho _ (zbd hbd 8 17)).trans h_pi
                          have h_fo : M17 (bd 9) = some (cI (K 0) 48 fo) := (ho _ (zbd hbd 9 17)).trans h_fo
                          have h_al : M17 (bd 10) = some (cI (K 0) 40 al1) := (ho _ (zbd hbd 10 17)).trans h_al
                          have h_on : M17 (bd 11) = some (cI (K 0) 384 on1) := (ho _ (zbd hbd 11 17)).trans h_on
                          have h_tw : M17 (bd 12) = some (cI (K 0) 384 tw1) := (ho _ (zbd hbd 12 17)).trans h_tw
                          have h_sm : M17 (bd 13) = some (cJ (K 1) 114688 sm) := (ho _ (zbd hbd 13 17)).trans h_sm
                          have h_av : M17 (bd 14) = some (cJ (K 1) 2100 av1) := (ho _ (zbd hbd 14 17)).trans h_av
                          have h_po : M17 (bd 15) = some (cJ (K 1) 14 po1) := (ho _ (zbd hbd 15 17)).trans h_po
                          have h_le : M17 (bd 16) = some (cJ (K 1) 28 le) := (ho _ (zbd hbd 16 17)).trans h_le
                          have h_gd : M17 (bd 17) = some (cI (K 0) 384 (zu (zu g2 ((32 * rW) + b) (g2 ((32 * dn) + b))) ((32 * dn) + b) (g2 ((32 * rW) + b)))) := hs
                          have hfr : ∀ q, q ≠ o → (∀ i, i < 18 → q ≠ bd i) → M17 q = M q := fun q g0 g1 => (ho q (g1 17 (by decide))).trans (hfr q g0 g1)
                          refine lv_iinc (v := iI (b + 1)) (lv' := [(7, .int (iI (b + 1))), (8, .int (iI (g2 ((32 * rW) + b)))), (0, .ref o), (1, .int (iI t)), (2, .int (iI pp)), (4, .int (iI dn)), (5, .int (iI a)), (6, .int (iI rW))]) hx hb d_MM_rank_175 hl (k := 7) rfl (iI_add _ _) (by decide) rfl (fun ls hl => ?_)
                          refine lv_goto (tgt := 110) hx hb d_MM_rank_178 (by decide) ?_
                          exact ih_hL3 (b + 1) (zu (zu g2 ((32 * rW) + b) (g2 ((32 * dn) + b))) ((32 * dn) + b) (g2 ((32 * rW) + b))) M17 _ _ _ (by omega) (zsw2_s hg2 ⟨by omega, by omega⟩) (by omega) hfr h_o h_pS h_pL h_sg h_lb h_oS h_oL h_rw h_fr h_pi h_fo h_al h_on h_tw h_sm h_av h_po h_le h_gd hw (lv_sub hl [2, 3, 4, 5, 6, 7, 0] rfl)
                    refine lv_iconst (v := iI 0) hx hb d_MM_rank_107 rfl ?_
                    refine lv_istore (lv' := [(7, .int (iI 0)), (6, .int (iI rW)), (0, .ref o), (1, .int (iI t)), (2, .int (iI pp)), (4, .int (iI dn)), (5, .int (iI a))]) hx hb d_MM_rank_108 hl (by decide) rfl (fun ls hl => ?_)
                    exact hL3 _ 0 g Mq _ _ _ ⟨by omega, by omega⟩ (zsw2_0 _ _ _) (Nat.lt_succ_self _) hfr h_o h_pS h_pL h_sg h_lb h_oS h_oL h_rw h_fr h_pi h_fo h_al h_on h_tw h_sm h_av h_po h_le h_gd hw (lv_sub hl [2, 3, 4, 5, 6, 1, 0] rfl)
          refine lv_iconst (v := iI 0) hx hb d_MM_rank_68 rfl ?_
          refine lv_istore (lv' := [(4, .int (iI 0)), (0, .ref o), (1, .int (iI t)), (2, .int (iI pp)), (3, .int (iI (t % pp)))]) hx hb d_MM_rank_69 hl (by decide) rfl (fun ls hl => ?_)
          refine lv_iconst (v := iI 0) hx hb d_MM_rank_71 rfl ?_
          refine lv_istore (lv' := [(5, .int (iI 0)), (4, .int (iI 0)), (0, .ref o), (1, .int (iI t)), (2, .int (iI pp)), (3, .int (iI (t % pp)))]) hx hb d_MM_rank_72 hl (by decide) rfl (fun ls hl => ?_)
          exact hL2 _ 0 0 g Mq _ _ _ ⟨by omega, by omega⟩ ⟨by omega, by omega⟩ ⟨fun i j h1 h2 h3 h4 => by show g (32 * i + j) = _; rw [hg, if_pos ⟨by omega, by omega⟩], rfl⟩ (fun z h1 h2 => by rw [hg, if_pos ⟨h1, by omega⟩]; exact zemr (by omega)) (Nat.lt_succ_self _) hfr h_o h_pS h_pL h_sg h_lb h_oS h_oL h_rw h_fr h_pi h_fo h_al h_on h_tw h_sm h_av h_po h_le h_gd hw (lv_sub hl [2, 3, 4, 1, 0] rfl)
        · have hi1 := (hIn1 i (by omega) (by omega)).1
          have hi2 := (hIn1 i (by omega) (by omega)).2
          have hi3 := zprb (u := tw1 i) (x := t % pp) (by omega) (by omega)
          refine lv_aload_n hx hb d_MM_rank_31 rfl (lv_at hl 0 rfl) ?_
          refine zq_get hx hb hts i_MM hown hK hw h_o rfl 29 (by decide) (hts _ tw_615) rfl d_MM_rank_32 ?_
          refine lv_iload hx hb d_MM_rank_35 (lv_at hl 4 rfl) ?_
          refine lv_aload_n hx hb d_MM_rank_37 rfl (lv_at hl 0 rfl) ?_
          refine zq_get hx hb hts i_MM hown hK hw h_o rfl 21 (by decide) (hts _ tw_607) rfl d_MM_rank_38 ?_
          refine lv_iload hx hb d_MM_rank_41 (lv_at hl 4 rfl) ?_
          refine zq_iald hx hb hK hw 0 h_on rfl (by omega) (by omega) (by decide) d_MM_rank_43 ?_
          refine zq_i2l hx hb (hIn1 _ (by omega) (by omega)).1 d_MM_rank_44 ?_
          refine lv_aload_n hx hb d_MM_rank_45 rfl (lv_at hl 0 rfl) ?_
          refine zq_get hx hb hts i_MM hown hK hw h_o rfl 22 (by decide) (hts _ tw_608) rfl d_MM_rank_46 ?_
          refine lv_iload hx hb d_MM_rank_49 (lv_at hl 4 rfl) ?_
          refine zq_iald hx hb hK hw 0 h_tw rfl (by omega) (by omega) (by decide) d_MM_rank_51 ?_
          refine zq_i2l hx hb (hIn1 _ (by omega) (by omega)).2 d_MM_rank_52 ?_
          refine lv_iload_n hx hb d_MM_rank_53 rfl (lv_at hl 3 rfl) ?_
          refine zq_i2l hx hb ⟨by omega, by omega⟩ d_MM_rank_54 ?_
          refine zq_lmul hx hb d_MM_rank_55 ?_
          refine zq_ladd hx hb d_MM_rank_56 ?_
          refine lv_iload_n hx hb d_MM_rank_57 rfl (lv_at hl 2 rfl) ?_
          refine zq_callS (b := 0) (C := "") (As := [.long (iL ((on1 i) + ((tw1 i) * (t % pp)))), .int (iI pp)]) (rest := [.int (iI i), .ref (bd 17)]) ⟨hx, hb, hml, hown, hts⟩ (c_MM_mod l D K Mq    ((on1 i) + ((tw1 i) * (t % pp))) pp  ⟨⟨by omega, by omega⟩, by omega⟩ ⟨hp2, hp97⟩) (va_cwS 2 hts (zg_T tw_837 tw_838 tw_10 tw_839) rfl rfl rfl (by decide +kernel) ⟨Nat.le_of_ble_eq_true rfl, Nat.le_of_ble_eq_true rfl⟩) hZ hw hA rfl rfl hl.1 (Nat.le_of_ble_eq_true rfl) d_MM_rank_58 ⟨Nat.le_of_ble_eq_true rfl, Nat.le_of_ble_eq_true rfl⟩ (fun v M18 H locs hp hw => ?_)
          obtain ⟨rfl, hMe⟩ := hp
          rw [hMe] at hw
          refine W.eq (g2 := F0 m 61 ls [.int (iI (((on1 i) + ((tw1 i) * (t % pp))) % pp)), .int (iI i), .ref (bd 17)]) rfl ?_
          refine zq_iast hx hb hK hw 0 h_gd rfl (by omega) (by omega) (by decide) d_MM_rank_61 (fun M19 H locs hs ho hw => ?_)
          have h_o : M19 o = some (.inr (9, [.int (iI th), .int (iI put), .int (iI wr), .ref (bd 0), .ref (bd 1), .int (iI nn), .int (iI cir), .int (iI oN), .int (iI oC), .ref (bd 2), .ref (bd 3), .ref (bd 4), .ref (bd 5), .int (iI lbs), .ref (bd 6), .ref (bd 7), .ref (bd 8), .int (iI fcs), .ref (bd 9), .int (iI arcs1), .ref (bd 10), .ref (bd 11), .ref (bd 12), .ref (bd 13), .int (iI mns1), .ref (bd 14), .ref (bd 15), .ref (bd 16), .int (iI 1), .ref (bd 17)])) := (ho _ (zq_ne h_o h_gd (by simp))).trans h_o
          have h_pS : M19 (bd 0) = some (cI (K 0) 12 pS) := (ho _ (zbd hbd 0 17)).trans h_pS
          have h_pL : M19 (bd 1) = some (cI (K 0) 48 pL) := (ho _ (zbd hbd 1 17)).trans h_pL
          have h_sg : M19 (bd 2) = some (cI (K 0) 12 sg) := (ho _ (zbd hbd 2 17)).trans h_sg
          have h_lb : M19 (bd 3) = some (cI (K 0) 48 lb) := (ho _ (zbd hbd 3 17)).trans h_lb
          have h_oS : M19 (bd 4) = some (cI (K 0) 12 oS) := (ho _ (zbd hbd 4 17)).trans h_oS
          have h_oL : M19 (bd 5) = some (cI (K 0) 48 oL) := (ho _ (zbd hbd 5 17)).trans h_oL
          have h_rw : M19 (bd 6) = some (cI (K 0) 48 rw) := (ho _ (zbd hbd 6 17)).trans h_rw
          have h_fr : M19 (bd 7) = some (cI (K 0) 48 fr) := (ho _ (zbd hbd 7 17)).trans h_fr
          have h_pi : M19 (bd 8) = some (cI (K 0) 12 pi) := (ho _ (zbd hbd 8 17)).trans h_pi
          have h_fo : M19 (bd 9) = some (cI (K 0) 48 fo) := (ho _ (zbd hbd 9 17)).trans h_fo
          have h_al : M19 (bd 10) = some (cI (K 0) 40 al1) := (ho _ (zbd hbd 10 17)).trans h_al
          have h_on : M19 (bd 11) = some (cI (K 0) 384 on1) := (ho _ (zbd hbd 11 17)).trans h_on
          have h_tw : M19 (bd 12) = some (cI (K 0) 384 tw1) := (ho _ (zbd hbd 12 17)).trans h_tw
          have h_sm : M19 (bd 13) = some (cJ (K 1) 114688 sm) := (ho _ (zbd hbd 13 17)).trans h_sm
          have h_av : M19 (bd 14) = some (cJ (K 1) 2100 av1) := (ho _ (zbd hbd 14 17)).trans h_av
          have h_po : M19 (bd 15) = some (cJ (K 1) 14 po1) := (ho _ (zbd hbd 15 17)).trans h_po
          have h_le : M19 (bd 16) = some (cJ (K 1) 28 le) := (ho _ (zbd hbd 16 17)).trans h_le
          have h_gd : M19 (bd 17) = some (cI (K 0) 384 (zu g i (((on1 i) + ((tw1 i) * (t % pp))) % pp))) := hs
          have hfr : ∀ q, q ≠ o → (∀ i, i < 18 → q ≠ bd i) → M19 q = M q := fun q g0 g1 => (ho q (g1 17 (by decide))).trans (hfr q g0 g1)
          refine lv_iinc (v := iI (i + 1)) (lv' := [(4, .int (iI (i + 1))), (0, .ref o), (1, .int (iI t)), (2, .int (iI pp)), (3, .int (iI (t % pp)))]) hx hb d_MM_rank_62 hl (k := 4) rfl (iI_add _ _) (by decide) rfl (fun ls hl => ?_)
          refine lv_goto (tgt := 23) hx hb d_MM_rank_65 (by decide) ?_
          exact ih_hL1 (i + 1) (zu g i (((on1 i) + ((tw1 i) * (t % pp))) % pp)) M19 _ _ _ (by omega) (zcp_step hg hi.1) (by omega) hfr h_o h_pS h_pL h_sg h_lb h_oS h_oL h_rw h_fr h_pi h_fo h_al h_on h_tw h_sm h_av h_po h_le h_gd hw (lv_sub hl [1, 2, 3, 4, 0] rfl)
    refine lv_iconst (v := iI 0) hx hb d_MM_rank_20 rfl ?_
    refine lv_istore (lv' := [(4, .int (iI 0)), (3, .int (iI (t % pp))), (0, .ref o), (1, .int (iI t)), (2, .int (iI pp))]) hx hb d_MM_rank_21 hl (by decide) rfl (fun ls hl => ?_)
    exact hL1 _ 0 gd M4 _ _ _ ⟨by omega, by omega⟩ (fun z => (if_neg (by omega)).symm) (Nat.lt_succ_self _) hfr h_o h_pS h_pL h_sg h_lb h_oS h_oL h_rw h_fr h_pi h_fo h_al h_on h_tw h_sm h_av h_po h_le h_gd hw (lv_sub hl [2, 3, 4, 1, 0] rfl)
  · have hNp := (hPip1.resolve_left (fun h => absurd h.1 (by omega))).2
    refine lv_iconst (v := iI (-1)) hx hb d_MM_rank_7 rfl ?_
    exact zq_iret hx hb hr hlocks hZ hw ⟨-1, rfl, Or.inl ⟨hNp, rfl, rfl⟩⟩ d_MM_rank_8
