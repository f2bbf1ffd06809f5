abbrev P_JM_floorMod (K : Nat → ClassId) (M : zq_M) (x : Int) (y : Int) : Option Value → zq_M → Prop := fun v M' => v = some (.int (iI (x % y))) ∧ M' = M
set_option maxHeartbeats 4000000 in
set_option maxRecDepth 100000 in
theorem c_JM_floorMod (l : Launch) (D : va_G) (K : Nat → ClassId) (M : zq_M) (x : Int) (y : Int) (hx0 : inI x) (hy0 : 2 ≤ y ∧ y ≤ 97) : zq_Met l y_JM_floorMod (.code y_JM_floorMod b_JM_floorMod 3 (some .int) :: lw_gd) { frames := 0, cells := 0, slots := 0, locals := 0 } D vwCl (zT K) [.int (iI x), .int (iI y)] M (P_JM_floorMod K M x y) 0 0 := by
  refine zq_startF (cc := b_JM_floorMod) (maxL := 3) (ret := (some .int)) (by decide +kernel) rfl (Nat.le_of_ble_eq_true rfl) ?_
  intro p e s m below meth co A ls hx hb hr hml hts hown hnm hlocks hA hZ hw hl
  have hts : ∀ w ∈ lw_gd, w.before [.int (iI x), .int (iI y)].toArray s = true := fun w h => hts w (List.mem_cons_of_mem _ h)
  have hown : s.vm.findClass "java/lang/Math" = some m.cls := hown
  have hK := hZ.1
  have hl : lv_has ls 3 [(0, .int (iI x)), (1, .int (iI y))] := hl
  have htm := ztm_in (x := x) (y := y) (by omega) (by omega)
  refine lv_iload_n hx hb d_JM_floorMod_0 rfl (lv_at hl 0 rfl) ?_
  refine lv_iload_n hx hb d_JM_floorMod_1 rfl (lv_at hl 1 rfl) ?_
  refine zq_trem hx hb hx0 (by omega) ⟨by omega, by omega⟩ d_JM_floorMod_2 ?_
  refine lv_istore_n (lv' := [(2, .int (iI (Int.tmod x y))), (0, .int (iI x)), (1, .int (iI y))]) hx hb d_JM_floorMod_3 rfl hl (by decide) rfl (fun ls hl => ?_)
  refine lv_iload_n hx hb d_JM_floorMod_4 rfl (lv_at hl 1 rfl) ?_
  refine lv_iload_n hx hb d_JM_floorMod_5 rfl (lv_at hl 2 rfl) ?_
  refine zq_xor_ge (tgt := 18) hx hb d_JM_floorMod_6 d_JM_floorMod_7 (by decide) hx0 ⟨by omega, by omega⟩ (by omega) (fun hcx => ?_) (fun hcx => ?_)
  · refine lv_iload_n hx hb d_JM_floorMod_18 rfl (lv_at hl 0 rfl) ?_
    exact zq_iret hx hb hr hlocks hZ hw ⟨zq_ri (by first | exact Int.tmod_eq_emod_of_nonneg hcx | exact zmod_zero (by assumption)), rfl⟩ d_JM_floorMod_19
  · refine lv_iload_n hx hb d_JM_floorMod_10 rfl (lv_at hl 0 rfl) ?_
    refine zq_if_eq (tgt := 18) hx hb d_JM_floorMod_11 (by decide) ⟨by omega, by omega⟩ (fun hc1 => ?_) (fun hc1 => ?_)
    · refine lv_iload_n hx hb d_JM_floorMod_18 rfl (lv_at hl 0 rfl) ?_
      exact zq_iret hx hb hr hlocks hZ hw ⟨zq_ri (by first | exact Int.tmod_eq_emod_of_nonneg hcx | exact zmod_zero (by assumption)), rfl⟩ d_JM_floorMod_19
    · refine lv_iload_n hx hb d_JM_floorMod_14 rfl (lv_at hl 0 rfl) ?_
      refine lv_iload_n hx hb d_JM_floorMod_15 rfl (lv_at hl 2 rfl) ?_
      refine zq_iadd hx hb d_JM_floorMod_16 ?_
      exact zq_iret hx hb hr hlocks hZ hw ⟨zq_ri (zmod_neg (by omega) hcx (by assumption)), rfl⟩ d_JM_floorMod_17
abbrev P_JA_fill (K : Nat → ClassId) (M : zq_M) (a : Nat) (nn : Nat) (f : Int → Int) (x : Int) : Option Value → zq_M → Prop := fun v M' => v = none ∧ M' a = some (cI (K 0) nn (fun _ => x)) ∧ ∀ q, q ≠ a → M' q = M q
set_option maxHeartbeats 4000000 in
set_option maxRecDepth 100000 in
theorem c_JA_fill (l : Launch) (D : va_G) (K : Nat → ClassId) (M : zq_M) (a : Nat) (nn : Nat) (f : Int → Int) (x : Int) (h_a : M a = some (cI (K 0) nn f)) (hn : nn ≤ 1000000) : zq_Met l y_JA_fill (.code y_JA_fill b_JA_fill 4 none :: lw_gd) { frames := 0, cells := 0, slots := 0, locals := 0 } D vwCl (zT K) [.ref a, .int (iI x)] M (P_JA_fill K M a nn f x) 0 0 := by
  refine zq_start (cc := b_JA_fill) (maxL := 4) (ret := none) (by decide) rfl (Nat.le_of_ble_eq_true rfl) ?_
  intro p e s m below meth co A ls hx hb hr hml hts hown hnm hlocks hA hZ hw hl
  have hts : ∀ w ∈ lw_gd, w.before [.ref a, .int (iI x)].toArray s = true := fun w h => hts w (List.mem_cons_of_mem _ h)
  have hown : s.vm.findClass "java/util/Arrays" = some m.cls := hown
  have hK := hZ.1
  have hl : lv_has ls 4 [(0, .ref a), (1, .int (iI x))] := hl
  have hfr : ∀ q, q ≠ a → M q = M q := fun q _ => rfl
  have hL : ∀ (n : Nat) (i : Int) (h : Int → Int) (Mq : zq_M) (H : Heap) (locs : List Loc) (ls : Array Slot), (0 ≤ i ∧ i ≤ nn) → (∀ j, 0 ≤ j → j < i → h j = x) → (nn - i).toNat < n → (∀ q, q ≠ a → Mq q = M q) → Mq a = some (cI (K 0) nn h) → zq_W D vwCl A s.heap Mq H locs → lv_has ls 4 [(0, .ref a), (1, .int (iI x)), (2, .int (iI i)), (3, .int (iI (nn : Int)))] → W p l e ({ frames := 0, cells := 0, slots := 0, locals := 0 } : Room) s m [.ref a, .int (iI x)].toArray below meth co H locs 0 0 (MQ below (zq_Q D vwCl (zT K) (P_JA_fill K M a nn f x) A) [.ref a, .int (iI x)].toArray s 0 0 A) (F0 m 5 ls []) := by
    intro n
    induction n with
    | zero =>
      intro i h Mq H locs ls hi hh hms hfr h_a hw hl
      exact absurd hms (Nat.not_lt_zero _)
    | succ n ih_hL =>
      intro i h Mq H locs ls hi hh hms hfr h_a hw hl
      refine lv_iload_n hx hb d_JA_fill_5 rfl (lv_at hl 2 rfl) ?_
      refine lv_iload_n hx hb d_JA_fill_6 rfl (lv_at hl 3 rfl) ?_
      refine zq_icmp_ge (tgt := 20) hx hb d_JA_fill_7 (by decide) ⟨by omega, by omega⟩ ⟨by omega, by omega⟩ (fun hc1 => ?_) (fun hc1 => ?_)
      · obtain ⟨M9, hs9, ho9, hw⟩ := zq_normI (g := fun _ => x) hw h_a (fun j h1 h2 => hh j h1 (by omega))
        have hfr : ∀ q, q ≠ a → M9 q = M q := fun q g0 => (ho9 q g0).trans (hfr q g0)
        exact zq_vret hx hb hr hlocks hZ hw ⟨rfl, hs9, hfr⟩ d_JA_fill_20
      · refine lv_aload_n hx hb d_JA_fill_10 rfl (lv_at hl 0 rfl) ?_
        refine lv_iload_n hx hb d_JA_fill_11 rfl (lv_at hl 2 rfl) ?_
        refine lv_iload_n hx hb d_JA_fill_12 rfl (lv_at hl 1 rfl) ?_
        refine zq_iast hx hb hK hw 0 h_a rfl (by omega) (by omega) (by omega) d_JA_fill_13 (fun M2 H locs hs ho hw => ?_)
        have h_a : M2 a = some (cI (K 0) nn (zu h i x)) := hs
        have hfr : ∀ q, q ≠ a → M2 q = M q := fun q g0 => (ho q g0).trans (hfr q g0)
        refine lv_iinc (v := iI (i + 1)) (lv' := [(2, .int (iI (i + 1))), (0, .ref a), (1, .int (iI x)), (3, .int (iI (nn : Int)))]) hx hb d_JA_fill_14 hl (k := 2) rfl (iI_add _ _) (by decide) rfl (fun ls hl => ?_)
        refine lv_goto (tgt := 5) hx hb d_JA_fill_17 (by decide) ?_
        exact ih_hL (i + 1) (zu h i x) M2 _ _ _ (by omega) (fun j h1 h2 => by by_cases q : j = i; rw [q, zu_self]; rw [zu_ne _ _ q]; exact hh j h1 (by omega)) (by omega) hfr h_a hw (lv_sub hl [1, 2, 0, 3] rfl)
  refine lv_iconst (v := iI 0) hx hb d_JA_fill_0 rfl ?_
  refine lv_istore_n (lv' := [(2, .int (iI 0)), (0, .ref a), (1, .int (iI x))]) hx hb d_JA_fill_1 rfl hl (by decide) rfl (fun ls hl => ?_)
  refine lv_aload_n hx hb d_JA_fill_2 rfl (lv_at hl 1 rfl) ?_
  refine zq_alen hx hb hK hw 0 h_a rfl (by omega) d_JA_fill_3 ?_
  refine lv_istore_n (lv' := [(3, .int (iI (nn : Int))), (2, .int (iI 0)), (0, .ref a), (1, .int (iI x))]) hx hb d_JA_fill_4 rfl hl (by decide) rfl (fun ls hl => ?_)
  exact hL _ 0 f M _ _ _ (by omega) (fun j h1 h2 => by omega) (Nat.lt_succ_self _) hfr h_a hw (lv_sub hl [2, 3, 1, 0] rfl)
