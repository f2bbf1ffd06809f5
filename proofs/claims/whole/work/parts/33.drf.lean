abbrev P_DR_findPieces (K : Nat → ClassId) (M : zq_M) (o : Nat) (aA : Nat) (bA : Nat) (cA : Nat) (dA : Nat) (pf : Int → Int) (pcs : Int → Int) (sp : Int → Int) (sn : Int → Int) (cnt : Int) : Option Value → zq_M → Prop := fun v M' => v = none ∧ M' bA = some (cI (K 0) 12 (zlb pf (4 * cnt).toNat)) ∧ ∀ q, q ≠ bA → M' q = M q
set_option maxHeartbeats 4000000 in
set_option maxRecDepth 100000 in
theorem c_DR_findPieces (l : Launch) (D : va_G) (K : Nat → ClassId) (M : zq_M) (o : Nat) (aA : Nat) (bA : Nat) (cA : Nat) (dA : Nat) (pf : Int → Int) (pcs : Int → Int) (sp : Int → Int) (sn : Int → Int) (cnt : Int) (h_o : M o = some (.inr (4, [.ref aA, .ref bA, .ref cA, .ref dA]))) (h_a : M aA = some (cI (K 0) 48 pf)) (h_b : M bA = some (cI (K 0) 12 pcs)) (h_c : M cA = some (cI (K 0) 12 sp)) (h_d : M dA = some (cI (K 2) 48 sn)) (hbc : bA ≠ cA) (had : aA ≠ dA) (hcnt : 0 ≤ cnt ∧ cnt ≤ 12) (hpf : ∀ z, 0 ≤ z → z < 4 * cnt → 0 ≤ pf z ∧ pf z < 4 * cnt) : zq_Met l y_DR_findPieces (.code y_DR_findPieces b_DR_findPieces 6 none :: lw_gd) { frames := 1, cells := 0, slots := 0, locals := 22 } D vwCl (zT K) [.ref o, .int (iI (4 * cnt))] M (P_DR_findPieces K M o aA bA cA dA pf pcs sp sn cnt) 0 0 := by
  refine zq_start (cc := b_DR_findPieces) (maxL := 6) (ret := none) (by decide) rfl (Nat.le_of_ble_eq_true rfl) ?_
  intro p e s m below meth co A ls hx hb hr hml hts hown hnm hlocks hA hZ hw hl
  have hts : ∀ w ∈ lw_gd, w.before [.ref o, .int (iI (4 * cnt))].toArray s = true := fun w h => hts w (List.mem_cons_of_mem _ h)
  have hown : s.vm.findClass R_DR = some m.cls := hown
  have hK := hZ.1
  have hl : lv_has ls 6 [(0, .ref o), (1, .int (iI (4 * cnt)))] := hl
  have hfr : ∀ q, q ≠ bA → M q = M q := fun q _ => rfl
  have hL2 : ∀ (n : Nat) (k : Nat) (i : Int) (g : Int → Int) (Mz : zq_M) (H : Heap) (locs : List Loc) (ls : Array Slot), (i = k) → (i ≤ 4 * cnt) → (∀ z, 0 ≤ z → z < 12 → g z = zlb pf k z) → (4 * cnt - i).toNat < n → (∀ q, q ≠ bA → Mz q = M q) → Mz o = some (.inr (4, [.ref aA, .ref bA, .ref cA, .ref dA])) → Mz aA = some (cI (K 0) 48 pf) → Mz bA = some (cI (K 0) 12 g) → Mz cA = some (cI (K 0) 12 sp) → Mz dA = some (cI (K 2) 48 sn) → zq_W D vwCl A s.heap Mz H locs → lv_has ls 6 [(0, .ref o), (1, .int (iI (4 * cnt))), (2, .int (iI i))] → W p l e ({ frames := 1, cells := 0, slots := 0, locals := 22 } : Room) s m [.ref o, .int (iI (4 * cnt))].toArray below meth co H locs 0 0 (MQ below (zq_Q D vwCl (zT K) (P_DR_findPieces K M o aA bA cA dA pf pcs sp sn cnt) A) [.ref o, .int (iI (4 * cnt))].toArray s 0 0 A) (F0 m 23 ls []) := by
    intro n
    induction n with
    | zero =>
      intro k i g Mz H locs ls hik hi hg hms hfr h_o h_a h_b h_c h_d hw hl
      exact absurd hms (Nat.not_lt_zero _)
    | succ n ih_hL2 =>
      intro k i g Mz H locs ls hik hi hg hms hfr h_o h_a h_b h_c h_d hw hl
      have hL3 : ∀ (n : Nat) (j : Int) (h : Int → Int) (Mq : zq_M) (H : Heap) (locs : List Loc) (ls : Array Slot), (0 ≤ j ∧ j ≤ 12 ∧ i < 4 * cnt) → (∀ z, 0 ≤ z → z < 12 → h z = if z < j then zlb pf (k + 1) z else zlb pf k z) → (12 - j).toNat < n → (∀ q, q ≠ bA → Mq q = M q) → Mq o = some (.inr (4, [.ref aA, .ref bA, .ref cA, .ref dA])) → Mq aA = some (cI (K 0) 48 pf) → Mq bA = some (cI (K 0) 12 h) → Mq cA = some (cI (K 0) 12 sp) → Mq dA = some (cI (K 2) 48 sn) → zq_W D vwCl A s.heap Mq H locs → lv_has ls 6 [(0, .ref o), (1, .int (iI (4 * cnt))), (2, .int (iI i)), (3, .int (iI (zlb pf k (i / 4)))), (4, .int (iI (zlb pf k (pf i / 4)))), (5, .int (iI j))] → W p l e ({ frames := 1, cells := 0, slots := 0, locals := 22 } : Room) s m [.ref o, .int (iI (4 * cnt))].toArray below meth co H locs 0 0 (MQ below (zq_Q D vwCl (zT K) (P_DR_findPieces K M o aA bA cA dA pf pcs sp sn cnt) A) [.ref o, .int (iI (4 * cnt))].toArray s 0 0 A) (F0 m 49 ls []) := by
        intro n
        induction n with
        | zero =>
          intro j h Mq H locs ls hj hh hms hfr h_o h_a h_b h_c h_d hw hl
          exact absurd hms (Nat.not_lt_zero _)
        | succ n ih_hL3 =>
          intro j h Mq H locs ls hj hh hms hfr h_o h_a h_b h_c h_d hw hl
          have hpi := hpf i (by omega) (by omega)
          refine lv_iload hx hb d_DR_findPieces_49 (lv_at hl 5 rfl) ?_
          refine lv_bipush (v := iI 12) hx hb d_DR_findPieces_51 (by decide) ?_
          refine zq_icmp_ge (tgt := 82) hx hb d_DR_findPieces_53 (by decide) ⟨by omega, by omega⟩ (by decide) (fun hc1 => ?_) (fun hc1 => ?_)
          · refine lv_iinc (v := iI (i + 1)) (lv' := [(2, .int (iI (i + 1))), (0, .ref o), (1, .int (iI (4 * cnt))), (3, .int (iI (zlb pf k (i / 4)))), (4, .int (iI (zlb pf k (pf i / 4)))), (5, .int (iI j))]) hx hb d_DR_findPieces_82 hl (k := 2) rfl (iI_add _ _) (by decide) rfl (fun ls hl => ?_)
            refine lv_goto (tgt := 23) hx hb d_DR_findPieces_85 (by decide) ?_
            exact ih_hL2 (k + 1) (i + 1) h Mq _ _ _ (by omega) (by omega) (fun z h1 h2 => by rw [hh z h1 h2, if_pos (by omega)]) (by omega) hfr h_o h_a h_b h_c h_d hw (lv_sub hl [1, 2, 0] rfl)
          · refine lv_aload_n hx hb d_DR_findPieces_56 rfl (lv_at hl 0 rfl) ?_
            refine zq_get hx hb hts i_DR hown hK hw h_o rfl 1 (by decide) (hts _ tw_46) rfl d_DR_findPieces_57 ?_
            refine lv_iload hx hb d_DR_findPieces_60 (lv_at hl 5 rfl) ?_
            refine zq_iald hx hb hK hw 0 h_b rfl (by omega) (by omega) (by decide) d_DR_findPieces_62 ?_
            have hhj : h j = zlb pf k j := by rw [hh j (by omega) (by omega), if_neg (by omega)]
            refine lv_iload hx hb d_DR_findPieces_63 (lv_at hl 4 rfl) ?_
            refine zq_icmp_ne (tgt := 76) hx hb d_DR_findPieces_65 (by decide) (by rw [hhj]; have := zlb_in (pf := pf) k (by omega) j (by omega) (by omega); exact ⟨by omega, by omega⟩) (by have := zlb_in (pf := pf) k (by omega) (pf i / 4) (by omega) (by omega); exact ⟨by omega, by omega⟩) (fun hc2 => ?_) (fun hc2 => ?_)
            · refine lv_iinc (v := iI (j + 1)) (lv' := [(5, .int (iI (j + 1))), (0, .ref o), (1, .int (iI (4 * cnt))), (2, .int (iI i)), (3, .int (iI (zlb pf k (i / 4)))), (4, .int (iI (zlb pf k (pf i / 4))))]) hx hb d_DR_findPieces_76 hl (k := 5) rfl (iI_add _ _) (by decide) rfl (fun ls hl => ?_)
              refine lv_goto (tgt := 49) hx hb d_DR_findPieces_79 (by decide) ?_
              exact ih_hL3 (j + 1) h Mq _ _ _ (by omega) (zlb_skip hh (by rw [← hhj, ← hik]; assumption)) (by omega) hfr h_o h_a h_b h_c h_d hw (lv_sub hl [1, 2, 3, 4, 5, 0] rfl)
            · refine lv_aload_n hx hb d_DR_findPieces_68 rfl (lv_at hl 0 rfl) ?_
              refine zq_get hx hb hts i_DR hown hK hw h_o rfl 1 (by decide) (hts _ tw_46) rfl d_DR_findPieces_69 ?_
              refine lv_iload hx hb d_DR_findPieces_72 (lv_at hl 5 rfl) ?_
              refine lv_iload_n hx hb d_DR_findPieces_74 rfl (lv_at hl 3 rfl) ?_
              refine zq_iast hx hb hK hw 0 h_b rfl (by omega) (by omega) (by decide) d_DR_findPieces_75 (fun M3 H locs hs ho hw => ?_)
              have h_o : M3 o = some (.inr (4, [.ref aA, .ref bA, .ref cA, .ref dA])) := (ho _ (zq_ne h_o h_b (by simp))).trans h_o
              have h_a : M3 aA = some (cI (K 0) 48 pf) := (ho _ (zq_ne h_a h_b (by simp))).trans h_a
              have h_c : M3 cA = some (cI (K 0) 12 sp) := (ho _ (Ne.symm hbc)).trans h_c
              have h_d : M3 dA = some (cI (K 2) 48 sn) := (ho _ (zq_ne h_d h_b (by simp))).trans h_d
              have h_b : M3 bA = some (cI (K 0) 12 (zu h j (zlb pf k (i / 4)))) := hs
              have hfr : ∀ q, q ≠ bA → M3 q = M q := fun q g0 => (ho q g0).trans (hfr q g0)
              refine lv_iinc (v := iI (j + 1)) (lv' := [(5, .int (iI (j + 1))), (0, .ref o), (1, .int (iI (4 * cnt))), (2, .int (iI i)), (3, .int (iI (zlb pf k (i / 4)))), (4, .int (iI (zlb pf k (pf i / 4))))]) hx hb d_DR_findPieces_76 hl (k := 5) rfl (iI_add _ _) (by decide) rfl (fun ls hl => ?_)
              refine lv_goto (tgt := 49) hx hb d_DR_findPieces_79 (by decide) ?_
              exact ih_hL3 (j + 1) (zu h j (zlb pf k (i / 4))) M3 _ _ _ (by omega) (by have e1 := zlb_step hg hh (by omega) (by rw [← hhj, ← hik]; assumption); rw [← hik] at e1; exact e1) (by omega) hfr h_o h_a h_b h_c h_d hw (lv_sub hl [1, 2, 3, 4, 5, 0] rfl)
      refine lv_iload_n hx hb d_DR_findPieces_23 rfl (lv_at hl 2 rfl) ?_
      refine lv_iload_n hx hb d_DR_findPieces_24 rfl (lv_at hl 1 rfl) ?_
      refine zq_icmp_ge (tgt := 88) hx hb d_DR_findPieces_25 (by decide) ⟨by omega, by omega⟩ ⟨by omega, by omega⟩ (fun hc4 => ?_) (fun hc4 => ?_)
      · obtain ⟨M9, hs9, ho9, hw⟩ := zq_normI (g := zlb pf (4 * cnt).toNat) hw h_b (fun j h1 h2 => by rw [show (4 * cnt).toNat = k from by omega]; exact hg j h1 (by omega))
        have hfr : ∀ q, q ≠ bA → M9 q = M q := fun q g0 => (ho9 q g0).trans (hfr q g0)
        exact zq_vret hx hb hr hlocks hZ hw ⟨rfl, hs9, hfr⟩ d_DR_findPieces_88
      · have hpi := hpf i (by omega) (by omega)
        refine lv_aload_n hx hb d_DR_findPieces_28 rfl (lv_at hl 0 rfl) ?_
        refine lv_iload_n hx hb d_DR_findPieces_29 rfl (lv_at hl 2 rfl) ?_
        refine zq_callV (As := [.int (iI i)]) (rest := []) ⟨hx, hb, hml, hown, hts⟩ (c_DR_pieceAt l D K Mz o aA bA cA dA pf g sp sn i h_o h_a h_b h_c h_d hbc had ⟨by omega, by omega⟩) (cwV 1 hts (zg_V tw_280 tw_282 ts_5 tw_3 tw_283) rfl rfl rfl (by decide +kernel) ⟨Nat.le_of_ble_eq_true rfl, Nat.le_of_ble_eq_true rfl⟩) hZ hw hA h_o rfl rfl rfl rfl hl.1 (Nat.le_of_ble_eq_true rfl) d_DR_findPieces_30 ⟨Nat.le_of_ble_eq_true rfl, Nat.le_of_ble_eq_true rfl⟩ (fun v M5 H locs hp hw => ?_)
        obtain ⟨rfl, hMe⟩ := hp
        rw [hMe] at hw
        refine W.eq (g2 := F0 m 33 ls [.int (iI (g (i / 4)))]) rfl ?_
        rw [show (g (i / 4) : Int) = zlb pf k (i / 4) from hg _ (by omega) (by omega)]
        refine lv_istore_n (lv' := [(3, .int (iI (zlb pf k (i / 4)))), (0, .ref o), (1, .int (iI (4 * cnt))), (2, .int (iI i))]) hx hb d_DR_findPieces_33 rfl hl (by decide) rfl (fun ls hl => ?_)
        refine lv_aload_n hx hb d_DR_findPieces_34 rfl (lv_at hl 1 rfl) ?_
        refine lv_aload_n hx hb d_DR_findPieces_35 rfl (lv_at hl 1 rfl) ?_
        refine zq_get hx hb hts i_DR hown hK hw h_o rfl 0 (by decide) (hts _ tw_45) rfl d_DR_findPieces_36 ?_
        refine lv_iload_n hx hb d_DR_findPieces_39 rfl (lv_at hl 3 rfl) ?_
        refine zq_iald hx hb hK hw 0 h_a rfl (by omega) (by omega) (by decide) d_DR_findPieces_40 ?_
        refine zq_callV (As := [.int (iI (pf i))]) (rest := []) ⟨hx, hb, hml, hown, hts⟩ (c_DR_pieceAt l D K Mz o aA bA cA dA pf g sp sn (pf i) h_o h_a h_b h_c h_d hbc had ⟨by omega, by omega⟩) (cwV 1 hts (zg_V tw_280 tw_282 ts_5 tw_3 tw_283) rfl rfl rfl (by decide +kernel) ⟨Nat.le_of_ble_eq_true rfl, Nat.le_of_ble_eq_true rfl⟩) hZ hw hA h_o rfl rfl rfl rfl hl.1 (Nat.le_of_ble_eq_true rfl) d_DR_findPieces_41 ⟨Nat.le_of_ble_eq_true rfl, Nat.le_of_ble_eq_true rfl⟩ (fun v M6 H locs hp hw => ?_)
        obtain ⟨rfl, hMe⟩ := hp
        rw [hMe] at hw
        refine W.eq (g2 := F0 m 44 ls [.int (iI (g ((pf i) / 4)))]) rfl ?_
        rw [show (g ((pf i) / 4) : Int) = zlb pf k (pf i / 4) from hg _ (by omega) (by omega)]
        refine lv_istore (lv' := [(4, .int (iI (zlb pf k (pf i / 4)))), (3, .int (iI (zlb pf k (i / 4)))), (0, .ref o), (1, .int (iI (4 * cnt))), (2, .int (iI i))]) hx hb d_DR_findPieces_44 hl (by decide) rfl (fun ls hl => ?_)
        refine lv_iconst (v := iI 0) hx hb d_DR_findPieces_46 rfl ?_
        refine lv_istore (lv' := [(5, .int (iI 0)), (4, .int (iI (zlb pf k (pf i / 4)))), (3, .int (iI (zlb pf k (i / 4)))), (0, .ref o), (1, .int (iI (4 * cnt))), (2, .int (iI i))]) hx hb d_DR_findPieces_47 hl (by decide) rfl (fun ls hl => ?_)
        exact hL3 _ 0 g Mz _ _ _ (by omega) (fun z h1 h2 => by rw [if_neg (by omega)]; exact hg z h1 h2) (Nat.lt_succ_self _) hfr h_o h_a h_b h_c h_d hw (lv_sub hl [3, 4, 5, 2, 1, 0] rfl)
  have hL1 : ∀ (n : Nat) (i : Int) (g : Int → Int) (Mq : zq_M) (H : Heap) (locs : List Loc) (ls : Array Slot), (0 ≤ i ∧ i ≤ 12) → (∀ z, 0 ≤ z → z < i → g z = z) → (12 - i).toNat < n → (∀ q, q ≠ bA → Mq q = M q) → Mq o = some (.inr (4, [.ref aA, .ref bA, .ref cA, .ref dA])) → Mq aA = some (cI (K 0) 48 pf) → Mq bA = some (cI (K 0) 12 g) → Mq cA = some (cI (K 0) 12 sp) → Mq dA = some (cI (K 2) 48 sn) → zq_W D vwCl A s.heap Mq H locs → lv_has ls 6 [(0, .ref o), (1, .int (iI (4 * cnt))), (2, .int (iI i))] → W p l e ({ frames := 1, cells := 0, slots := 0, locals := 22 } : Room) s m [.ref o, .int (iI (4 * cnt))].toArray below meth co H locs 0 0 (MQ below (zq_Q D vwCl (zT K) (P_DR_findPieces K M o aA bA cA dA pf pcs sp sn cnt) A) [.ref o, .int (iI (4 * cnt))].toArray s 0 0 A) (F0 m 2 ls []) := by
    intro n
    induction n with
    | zero =>
      intro i g Mq H locs ls hi hg hms hfr h_o h_a h_b h_c h_d hw hl
      exact absurd hms (Nat.not_lt_zero _)
    | succ n ih_hL1 =>
      intro i g Mq H locs ls hi hg hms hfr h_o h_a h_b h_c h_d hw hl
      refine lv_iload_n hx hb d_DR_findPieces_2 rfl (lv_at hl 2 rfl) ?_
      refine lv_bipush (v := iI 12) hx hb d_DR_findPieces_3 (by decide) ?_
      refine zq_icmp_ge (tgt := 21) hx hb d_DR_findPieces_5 (by decide) ⟨by omega, by omega⟩ (by decide) (fun hc7 => ?_) (fun hc7 => ?_)
      · refine lv_iconst (v := iI 0) hx hb d_DR_findPieces_21 rfl ?_
        refine lv_istore_n (lv' := [(2, .int (iI 0)), (0, .ref o), (1, .int (iI (4 * cnt)))]) hx hb d_DR_findPieces_22 rfl hl (by decide) rfl (fun ls hl => ?_)
        exact hL2 _ 0 0 g Mq _ _ _ rfl (by omega) (fun z h1 h2 => hg z h1 (by omega)) (Nat.lt_succ_self _) hfr h_o h_a h_b h_c h_d hw (lv_sub hl [1, 2, 0] rfl)
      · refine lv_aload_n hx hb d_DR_findPieces_8 rfl (lv_at hl 0 rfl) ?_
        refine zq_get hx hb hts i_DR hown hK hw h_o rfl 1 (by decide) (hts _ tw_46) rfl d_DR_findPieces_9 ?_
        refine lv_iload_n hx hb d_DR_findPieces_12 rfl (lv_at hl 2 rfl) ?_
        refine lv_iload_n hx hb d_DR_findPieces_13 rfl (lv_at hl 2 rfl) ?_
        refine zq_iast hx hb hK hw 0 h_b rfl (by omega) (by omega) (by decide) d_DR_findPieces_14 (fun M8 H locs hs ho hw => ?_)
        have h_o : M8 o = some (.inr (4, [.ref aA, .ref bA, .ref cA, .ref dA])) := (ho _ (zq_ne h_o h_b (by simp))).trans h_o
        have h_a : M8 aA = some (cI (K 0) 48 pf) := (ho _ (zq_ne h_a h_b (by simp))).trans h_a
        have h_c : M8 cA = some (cI (K 0) 12 sp) := (ho _ (Ne.symm hbc)).trans h_c
        have h_d : M8 dA = some (cI (K 2) 48 sn) := (ho _ (zq_ne h_d h_b (by simp))).trans h_d
        have h_b : M8 bA = some (cI (K 0) 12 (zu g i i)) := hs
        have hfr : ∀ q, q ≠ bA → M8 q = M q := fun q g0 => (ho q g0).trans (hfr q g0)
        refine lv_iinc (v := iI (i + 1)) (lv' := [(2, .int (iI (i + 1))), (0, .ref o), (1, .int (iI (4 * cnt)))]) hx hb d_DR_findPieces_15 hl (k := 2) rfl (iI_add _ _) (by decide) rfl (fun ls hl => ?_)
        refine lv_goto (tgt := 2) hx hb d_DR_findPieces_18 (by decide) ?_
        exact ih_hL1 (i + 1) (zu g i i) M8 _ _ _ (by omega) (fun z h1 h2 => by by_cases q : z = i; rw [q, zu_self]; rw [zu_ne _ _ q]; exact hg z h1 (by omega)) (by omega) hfr h_o h_a h_b h_c h_d hw (lv_sub hl [1, 2, 0] rfl)
  refine lv_iconst (v := iI 0) hx hb d_DR_findPieces_0 rfl ?_
  refine lv_istore_n (lv' := [(2, .int (iI 0)), (0, .ref o), (1, .int (iI (4 * cnt)))]) hx hb d_DR_findPieces_1 rfl hl (by decide) rfl (fun ls hl => ?_)
  exact hL1 _ 0 pcs M _ _ _ (by omega) (fun z h1 h2 => by omega) (Nat.lt_succ_self _) hfr h_o h_a h_b h_c h_d hw (lv_sub hl [1, 2, 0] rfl)
abbrev P_DR_findPartners (K : Nat → ClassId) (M : zq_M) (o : Nat) (aA : Nat) (bA : Nat) (cA : Nat) (dA : Nat) (pf : Int → Int) (pcs : Int → Int) (sp : Int → Int) (sn : Int → Int) (o2 : Nat) (s2 : Nat) (l2 : Nat) (cnt : Int) (sg : Int → Int) (lb : Int → Int) : Option Value → zq_M → Prop := fun v M' => ∃ r pf', v = some (.int (iI r)) ∧ ((r = 1 ∧ zPr lb (4 * cnt) pf') ∨ (r = 0 ∧ ∃ x, 0 ≤ x ∧ x < 4 * cnt ∧ ¬ ∃ y, zPo lb (4 * cnt) x y)) ∧ (∀ z, inI (pf' z)) ∧ M' aA = some (cI (K 0) 48 pf') ∧ ∀ q, q ≠ aA → M' q = M q
set_option maxHeartbeats 4000000 in
set_option maxRecDepth 100000 in
theorem c_DR_findPartners (l : Launch) (D : va_G) (K : Nat → ClassId) (M : zq_M) (o : Nat) (aA : Nat) (bA : Nat) (cA : Nat) (dA : Nat) (pf : Int → Int) (pcs : Int → Int) (sp : Int → Int) (sn : Int → Int) (o2 : Nat) (s2 : Nat) (l2 : Nat) (cnt : Int) (sg : Int → Int) (lb : Int → Int) (h_o : M o = some (.inr (4, [.ref aA, .ref bA, .ref cA, .ref dA]))) (h_a : M aA = some (cI (K 0) 48 pf)) (h_b : M bA = some (cI (K 0) 12 pcs)) (h_c : M cA = some (cI (K 0) 12 sp)) (h_d : M dA = some (cI (K 2) 48 sn)) (hbc : bA ≠ cA) (had : aA ≠ dA) (h_o2 : M o2 = some (.inr (2, [.ref s2, .ref l2, .int (iI cnt)]))) (h_s2 : M s2 = some (cI (K 0) 12 sg)) (h_l2 : M l2 = some (cI (K 0) 48 lb)) (hC : zC cnt sg lb) (hal : aA ≠ l2) (hbs : bA ≠ s2) (hcs : cA ≠ s2) (hdl : dA ≠ l2) (hpi : ∀ z, inI (pf z)) : zq_Met l y_DR_findPartners (.code y_DR_findPartners b_DR_findPartners 6 (some .boolean) :: lw_gd) { frames := 2, cells := 0, slots := 0, locals := 41 } D vwCl (zT K) [.ref o, .ref o2, .int (iI (4 * cnt))] M (P_DR_findPartners K M o aA bA cA dA pf pcs sp sn o2 s2 l2 cnt sg lb) 0 0 := by
  refine zq_start (cc := b_DR_findPartners) (maxL := 6) (ret := (some .boolean)) (by decide) rfl (Nat.le_of_ble_eq_true rfl) ?_
  intro p e s m below meth co A ls hx hb hr hml hts hown hnm hlocks hA hZ hw hl
  have hts : ∀ w ∈ lw_gd, w.before [.ref o, .ref o2, .int (iI (4 * cnt))].toArray s = true := fun w h => hts w (List.mem_cons_of_mem _ h)
  have hown : s.vm.findClass R_DR = some m.cls := hown
  have hK := hZ.1
  have hl : lv_has ls 6 [(0, .ref o), (1, .ref o2), (2, .int (iI (4 * cnt)))] := hl
  have hfr : ∀ q, q ≠ aA → M q = M q := fun q _ => rfl
  obtain ⟨hc1, hc2, hc3, hc4⟩ := id hC
  have hO : ∀ (n : Nat) (i : Int) (g : Int → Int) (Mz : zq_M) (H : Heap) (locs : List Loc) (ls : Array Slot), (0 ≤ i ∧ i ≤ 4 * cnt) → (∀ x, 0 ≤ x → x < i → zPo lb (4 * cnt) x (g x)) → (∀ z, inI (g z)) → (4 * cnt - i).toNat < n → (∀ q, q ≠ aA → Mz q = M q) → Mz o = some (.inr (4, [.ref aA, .ref bA, .ref cA, .ref dA])) → Mz aA = some (cI (K 0) 48 g) → Mz bA = some (cI (K 0) 12 pcs) → Mz cA = some (cI (K 0) 12 sp) → Mz dA = some (cI (K 2) 48 sn) → Mz o2 = some (.inr (2, [.ref s2, .ref l2, .int (iI cnt)])) → Mz s2 = some (cI (K 0) 12 sg) → Mz l2 = some (cI (K 0) 48 lb) → zq_W D vwCl A s.heap Mz H locs → lv_has ls 6 [(0, .ref o), (1, .ref o2), (2, .int (iI (4 * cnt))), (3, .int (iI i))] → W p l e ({ frames := 2, cells := 0, slots := 0, locals := 41 } : Room) s m [.ref o, .ref o2, .int (iI (4 * cnt))].toArray below meth co H locs 0 0 (MQ below (zq_Q D vwCl (zT K) (P_DR_findPartners K M o aA bA cA dA pf pcs sp sn o2 s2 l2 cnt sg lb) A) [.ref o, .ref o2, .int (iI (4 * cnt))].toArray s 0 0 A) (F0 m 2 ls []) := by
    intro n
    induction n with
    | zero =>
      intro i g Mz H locs ls hi hg hgi hms hfr h_o h_a h_b h_c h_d h_o2 h_s2 h_l2 hw hl
      exact absurd hms (Nat.not_lt_zero _)
    | succ n ih_hO =>
      intro i g Mz H locs ls hi hg hgi hms hfr h_o h_a h_b h_c h_d h_o2 h_s2 h_l2 hw hl
      have hN : ∀ (n : Nat) (jj : Int) (fn : Int) (h : Int → Int) (Mq : zq_M) (H : Heap) (locs : List Loc) (ls : Array Slot), (0 ≤ jj ∧ jj ≤ 4 * cnt ∧ i < 4 * cnt) → (zFn lb i jj fn (h i)) → (∀ x, x ≠ i → h x = g x) → (∀ z, inI (h z)) → (4 * cnt - jj).toNat < n → (∀ q, q ≠ aA → Mq q = M q) → Mq o = some (.inr (4, [.ref aA, .ref bA, .ref cA, .ref dA])) → Mq aA = some (cI (K 0) 48 h) → Mq bA = some (cI (K 0) 12 pcs) → Mq cA = some (cI (K 0) 12 sp) → Mq dA = some (cI (K 2) 48 sn) → Mq o2 = some (.inr (2, [.ref s2, .ref l2, .int (iI cnt)])) → Mq s2 = some (cI (K 0) 12 sg) → Mq l2 = some (cI (K 0) 48 lb) → zq_W D vwCl A s.heap Mq H locs → lv_has ls 6 [(0, .ref o), (1, .ref o2), (2, .int (iI (4 * cnt))), (3, .int (iI i)), (4, .int (iI fn)), (5, .int (iI jj))] → W p l e ({ frames := 2, cells := 0, slots := 0, locals := 41 } : Room) s m [.ref o, .ref o2, .int (iI (4 * cnt))].toArray below meth co H locs 0 0 (MQ below (zq_Q D vwCl (zT K) (P_DR_findPartners K M o aA bA cA dA pf pcs sp sn o2 s2 l2 cnt sg lb) A) [.ref o, .ref o2, .int (iI (4 * cnt))].toArray s 0 0 A) (F0 m 13 ls []) := by
        intro n
        induction n with
        | zero =>
          intro jj fn h Mq H locs ls hj hfn hhg hhi hms hfr h_o h_a h_b h_c h_d h_o2 h_s2 h_l2 hw hl
          exact absurd hms (Nat.not_lt_zero _)
        | succ n ih_hN =>
          intro jj fn h Mq H locs ls hj hfn hhg hhi hms hfr h_o h_a h_b h_c h_d h_o2 h_s2 h_l2 hw hl
          refine lv_iload hx hb d_DR_findPartners_13 (lv_at hl 5 rfl) ?_
          refine lv_iload_n hx hb d_DR_findPartners_15 rfl (lv_at hl 2 rfl) ?_
          refine zq_icmp_ge (tgt := 56) hx hb d_DR_findPartners_16 (by decide) ⟨by omega, by omega⟩ ⟨by omega, by omega⟩ (fun hc1 => ?_) (fun hc1 => ?_)
          · refine lv_iload hx hb d_DR_findPartners_56 (lv_at hl 4 rfl) ?_
            refine lv_iconst (v := iI 1) hx hb d_DR_findPartners_58 rfl ?_
            refine zq_icmp_eq (tgt := 64) hx hb d_DR_findPartners_59 (by decide) ⟨by have := hfn.1; omega, by have := hfn.2.1; omega⟩ (by decide) (fun hc2 => ?_) (fun hc2 => ?_)
            · refine lv_iinc (v := iI (i + 1)) (lv' := [(3, .int (iI (i + 1))), (0, .ref o), (1, .ref o2), (2, .int (iI (4 * cnt))), (4, .int (iI fn)), (5, .int (iI jj))]) hx hb d_DR_findPartners_64 hl (k := 3) rfl (iI_add _ _) (by decide) rfl (fun ls hl => ?_)
              refine lv_goto (tgt := 2) hx hb d_DR_findPartners_67 (by decide) ?_
              exact ih_hO (i + 1) h Mq _ _ _ (by omega) (fun x h1 h2 => by by_cases q : x = i; rw [q]; rw [show fn = 1 from by assumption] at hfn; rw [show jj = 4 * cnt from by omega] at hfn; exact zFn_one hfn; rw [hhg x q]; exact hg x h1 (by omega)) hhi (by omega) hfr h_o h_a h_b h_c h_d h_o2 h_s2 h_l2 hw (lv_sub hl [1, 2, 3, 0] rfl)
            · refine lv_iconst (v := iI 0) hx hb d_DR_findPartners_62 rfl ?_
              exact zq_zret hx hb hr rfl hlocks hZ hw ⟨_, _, rfl, Or.inr ⟨rfl, i, by omega, by omega, by rw [show jj = 4 * cnt from by omega] at hfn; exact zFn_bad hfn (by assumption)⟩, hhi, h_a, hfr⟩ d_DR_findPartners_63
          · refine lv_iload hx hb d_DR_findPartners_19 (lv_at hl 5 rfl) ?_
            refine lv_iload_n hx hb d_DR_findPartners_21 rfl (lv_at hl 3 rfl) ?_
            refine zq_icmp_eq (tgt := 50) hx hb d_DR_findPartners_22 (by decide) ⟨by omega, by omega⟩ ⟨by omega, by omega⟩ (fun hc3 => ?_) (fun hc3 => ?_)
            · refine lv_iinc (v := iI (jj + 1)) (lv' := [(5, .int (iI (jj + 1))), (0, .ref o), (1, .ref o2), (2, .int (iI (4 * cnt))), (3, .int (iI i)), (4, .int (iI fn))]) hx hb d_DR_findPartners_50 hl (k := 5) rfl (iI_add _ _) (by decide) rfl (fun ls hl => ?_)
              refine lv_goto (tgt := 13) hx hb d_DR_findPartners_53 (by decide) ?_
              exact ih_hN (jj + 1) fn h Mq _ _ _ (by omega) (zFn_no hfn (by first | exact Or.inl (by assumption) | exact Or.inr (by assumption))) hhg hhi (by omega) hfr h_o h_a h_b h_c h_d h_o2 h_s2 h_l2 hw (lv_sub hl [1, 2, 3, 4, 5, 0] rfl)
            · refine lv_aload_n hx hb d_DR_findPartners_25 rfl (lv_at hl 1 rfl) ?_
              refine lv_iload hx hb d_DR_findPartners_26 (lv_at hl 5 rfl) ?_
              refine zq_callV (As := [.int (iI jj)]) (rest := []) ⟨hx, hb, hml, hown, hts⟩ (c_CR_labelAt l D K Mq o2 s2 l2 cnt sg lb jj h_o2 h_s2 h_l2 hC ⟨by omega, by omega⟩) (cwV 1 hts (zg_V tw_247 tw_248 tw_249 tw_2 tw_250) rfl rfl rfl (by decide +kernel) ⟨Nat.le_of_ble_eq_true rfl, Nat.le_of_ble_eq_true rfl⟩) hZ hw hA h_o2 rfl rfl rfl rfl hl.1 (Nat.le_of_ble_eq_true rfl) d_DR_findPartners_28 ⟨Nat.le_of_ble_eq_true rfl, Nat.le_of_ble_eq_true rfl⟩ (fun v M4 H locs hp hw => ?_)
              obtain ⟨rfl, hMe⟩ := hp
              rw [hMe] at hw
              refine W.eq (g2 := F0 m 31 ls [.int (iI (lb jj))]) rfl ?_
              refine lv_aload_n hx hb d_DR_findPartners_31 rfl (lv_at hl 1 rfl) ?_
              refine lv_iload_n hx hb d_DR_findPartners_32 rfl (lv_at hl 3 rfl) ?_
              refine zq_callV (As := [.int (iI i)]) (rest := [.int (iI (lb jj))]) ⟨hx, hb, hml, hown, hts⟩ (c_CR_labelAt l D K Mq o2 s2 l2 cnt sg lb i h_o2 h_s2 h_l2 hC ⟨by omega, by omega⟩) (cwV 1 hts (zg_V tw_247 tw_248 tw_249 tw_2 tw_250) rfl rfl rfl (by decide +kernel) ⟨Nat.le_of_ble_eq_true rfl, Nat.le_of_ble_eq_true rfl⟩) hZ hw hA h_o2 rfl rfl rfl rfl hl.1 (Nat.le_of_ble_eq_true rfl) d_DR_findPartners_33 ⟨Nat.le_of_ble_eq_true rfl, Nat.le_of_ble_eq_true rfl⟩ (fun v M5 H locs hp hw => ?_)
              obtain ⟨rfl, hMe⟩ := hp
              rw [hMe] at hw
              refine W.eq (g2 := F0 m 36 ls [.int (iI (lb i)), .int (iI (lb jj))]) rfl ?_
              refine zq_icmp_ne (tgt := 50) hx hb d_DR_findPartners_36 (by decide) (hc4 _) (hc4 _) (fun hc6 => ?_) (fun hc6 => ?_)
              · refine lv_iinc (v := iI (jj + 1)) (lv' := [(5, .int (iI (jj + 1))), (0, .ref o), (1, .ref o2), (2, .int (iI (4 * cnt))), (3, .int (iI i)), (4, .int (iI fn))]) hx hb d_DR_findPartners_50 hl (k := 5) rfl (iI_add _ _) (by decide) rfl (fun ls hl => ?_)
                refine lv_goto (tgt := 13) hx hb d_DR_findPartners_53 (by decide) ?_
                exact ih_hN (jj + 1) fn h Mq _ _ _ (by omega) (zFn_no hfn (by first | exact Or.inl (by assumption) | exact Or.inr (by assumption))) hhg hhi (by omega) hfr h_o h_a h_b h_c h_d h_o2 h_s2 h_l2 hw (lv_sub hl [1, 2, 3, 4, 5, 0] rfl)
              · refine lv_aload_n hx hb d_DR_findPartners_39 rfl (lv_at hl 0 rfl) ?_
                refine zq_get hx hb hts i_DR hown hK hw h_o rfl 0 (by decide) (hts _ tw_45) rfl d_DR_findPartners_40 ?_
                refine lv_iload_n hx hb d_DR_findPartners_43 rfl (lv_at hl 3 rfl) ?_
                refine lv_iload hx hb d_DR_findPartners_44 (lv_at hl 5 rfl) ?_
                refine zq_iast hx hb hK hw 0 h_a rfl (by omega) (by omega) (by decide) d_DR_findPartners_46 (fun M7 H locs hs ho hw => ?_)
                have h_o : M7 o = some (.inr (4, [.ref aA, .ref bA, .ref cA, .ref dA])) := (ho _ (zq_ne h_o h_a (by simp))).trans h_o
                have h_b : M7 bA = some (cI (K 0) 12 pcs) := (ho _ (zq_ne h_b h_a (by simp))).trans h_b
                have h_c : M7 cA = some (cI (K 0) 12 sp) := (ho _ (zq_ne h_c h_a (by simp))).trans h_c
                have h_d : M7 dA = some (cI (K 2) 48 sn) := (ho _ (Ne.symm had)).trans h_d
                have h_o2 : M7 o2 = some (.inr (2, [.ref s2, .ref l2, .int (iI cnt)])) := (ho _ (zq_ne h_o2 h_a (by simp))).trans h_o2
                have h_s2 : M7 s2 = some (cI (K 0) 12 sg) := (ho _ (zq_ne h_s2 h_a (by simp))).trans h_s2
                have h_l2 : M7 l2 = some (cI (K 0) 48 lb) := (ho _ (Ne.symm hal)).trans h_l2
                have h_a : M7 aA = some (cI (K 0) 48 (zu h i jj)) := hs
                have hfr : ∀ q, q ≠ aA → M7 q = M q := fun q g0 => (ho q g0).trans (hfr q g0)
                refine lv_iinc (v := iI (fn + 1)) (lv' := [(4, .int (iI (fn + 1))), (0, .ref o), (1, .ref o2), (2, .int (iI (4 * cnt))), (3, .int (iI i)), (5, .int (iI jj))]) hx hb d_DR_findPartners_47 hl (k := 4) rfl (iI_add _ _) (by decide) rfl (fun ls hl => ?_)
                refine lv_iinc (v := iI (jj + 1)) (lv' := [(5, .int (iI (jj + 1))), (4, .int (iI (fn + 1))), (0, .ref o), (1, .ref o2), (2, .int (iI (4 * cnt))), (3, .int (iI i))]) hx hb d_DR_findPartners_50 hl (k := 5) rfl (iI_add _ _) (by decide) rfl (fun ls hl => ?_)
                refine lv_goto (tgt := 13) hx hb d_DR_findPartners_53 (by decide) ?_
                exact ih_hN (jj + 1) (fn + 1) (zu h i jj) M7 _ _ _ (by omega) (by rw [zu_self]; exact zFn_yes hfn (by omega) (by assumption) (by assumption)) (fun x q => by rw [zu_ne _ _ q]; exact hhg x q) (fun z => by unfold zu; split; exact ⟨by omega, by omega⟩; exact hhi z) (by omega) hfr h_o h_a h_b h_c h_d h_o2 h_s2 h_l2 hw (lv_sub hl [2, 3, 4, 5, 1, 0] rfl)
      refine lv_iload_n hx hb d_DR_findPartners_2 rfl (lv_at hl 3 rfl) ?_
      refine lv_iload_n hx hb d_DR_findPartners_3 rfl (lv_at hl 2 rfl) ?_
      refine zq_icmp_ge (tgt := 70) hx hb d_DR_findPartners_4 (by decide) ⟨by omega, by omega⟩ ⟨by omega, by omega⟩ (fun hc8 => ?_) (fun hc8 => ?_)
      · refine lv_iconst (v := iI 1) hx hb d_DR_findPartners_70 rfl ?_
        exact zq_zret hx hb hr rfl hlocks hZ hw ⟨_, _, rfl, Or.inl ⟨rfl, fun x h1 h2 => hg x h1 (by omega)⟩, hgi, h_a, hfr⟩ d_DR_findPartners_71
      · refine lv_iconst (v := iI 0) hx hb d_DR_findPartners_7 rfl ?_
        refine lv_istore (lv' := [(4, .int (iI 0)), (0, .ref o), (1, .ref o2), (2, .int (iI (4 * cnt))), (3, .int (iI i))]) hx hb d_DR_findPartners_8 hl (by decide) rfl (fun ls hl => ?_)
        refine lv_iconst (v := iI 0) hx hb d_DR_findPartners_10 rfl ?_
        refine lv_istore (lv' := [(5, .int (iI 0)), (4, .int (iI 0)), (0, .ref o), (1, .ref o2), (2, .int (iI (4 * cnt))), (3, .int (iI i))]) hx hb d_DR_findPartners_11 hl (by decide) rfl (fun ls hl => ?_)
        exact hN _ 0 0 g Mz _ _ _ (by omega) ⟨by omega, by omega, Or.inl ⟨rfl, fun z h1 h2 => by omega⟩⟩ (fun x _ => rfl) hgi (Nat.lt_succ_self _) hfr h_o h_a h_b h_c h_d h_o2 h_s2 h_l2 hw (lv_sub hl [2, 3, 4, 5, 1, 0] rfl)
  refine lv_iconst (v := iI 0) hx hb d_DR_findPartners_0 rfl ?_
  refine lv_istore_n (lv' := [(3, .int (iI 0)), (0, .ref o), (1, .ref o2), (2, .int (iI (4 * cnt)))]) hx hb d_DR_findPartners_1 rfl hl (by decide) rfl (fun ls hl => ?_)
  exact hO _ 0 pf M _ _ _ (by omega) (fun x h1 h2 => by omega) hpi (Nat.lt_succ_self _) hfr h_o h_a h_b h_c h_d h_o2 h_s2 h_l2 hw (lv_sub hl [1, 2, 3, 0] rfl)
abbrev P_DR_partnersAreEdges (K : Nat → ClassId) (M : zq_M) (o : Nat) (aA : Nat) (bA : Nat) (cA : Nat) (dA : Nat) (pf : Int → Int) (pcs : Int → Int) (sp : Int → Int) (sn : Int → Int) (o2 : Nat) (s2 : Nat) (l2 : Nat) (cnt : Int) (sg : Int → Int) (lb : Int → Int) : Option Value → zq_M → Prop := fun v M' => ∃ r, v = some (.int (iI r)) ∧ ((r = 1 ∧ zEd sg (4 * cnt) pf) ∨ (r = 0 ∧ ¬ zEd sg (4 * cnt) pf)) ∧ M' = M
set_option maxHeartbeats 4000000 in
set_option maxRecDepth 100000 in
theorem c_DR_partnersAreEdges (l : Launch) (D : va_G) (K : Nat → ClassId) (M : zq_M) (o : Nat) (aA : Nat) (bA : Nat) (cA : Nat) (dA : Nat) (pf : Int → Int) (pcs : Int → Int) (sp : Int → Int) (sn : Int → Int) (o2 : Nat) (s2 : Nat) (l2 : Nat) (cnt : Int) (sg : Int → Int) (lb : Int → Int) (h_o : M o = some (.inr (4, [.ref aA, .ref bA, .ref cA, .ref dA]))) (h_a : M aA = some (cI (K 0) 48 pf)) (h_b : M bA = some (cI (K 0) 12 pcs)) (h_c : M cA = some (cI (K 0) 12 sp)) (h_d : M dA = some (cI (K 2) 48 sn)) (hbc : bA ≠ cA) (had : aA ≠ dA) (h_o2 : M o2 = some (.inr (2, [.ref s2, .ref l2, .int (iI cnt)]))) (h_s2 : M s2 = some (cI (K 0) 12 sg)) (h_l2 : M l2 = some (cI (K 0) 48 lb)) (hC : zC cnt sg lb) (hal : aA ≠ l2) (hbs : bA ≠ s2) (hcs : cA ≠ s2) (hdl : dA ≠ l2) (hpf : ∀ z, 0 ≤ z → z < 4 * cnt → 0 ≤ pf z ∧ pf z < 4 * cnt) : zq_Met l y_DR_partnersAreEdges (.code y_DR_partnersAreEdges b_DR_partnersAreEdges 4 (some .boolean) :: lw_gd) { frames := 4, cells := 0, slots := 0, locals := 85 } D vwCl (zT K) [.ref o, .ref o2, .int (iI (4 * cnt))] M (P_DR_partnersAreEdges K M o aA bA cA dA pf pcs sp sn o2 s2 l2 cnt sg lb) 0 0 := by
  refine zq_start (cc := b_DR_partnersAreEdges) (maxL := 4) (ret := (some .boolean)) (by decide) rfl (Nat.le_of_ble_eq_true rfl) ?_
  intro p e s m below meth co A ls hx hb hr hml hts hown hnm hlocks hA hZ hw hl
  have hts : ∀ w ∈ lw_gd, w.before [.ref o, .ref o2, .int (iI (4 * cnt))].toArray s = true := fun w h => hts w (List.mem_cons_of_mem _ h)
  have hown : s.vm.findClass R_DR = some m.cls := hown
  have hK := hZ.1
  have hl : lv_has ls 4 [(0, .ref o), (1, .ref o2), (2, .int (iI (4 * cnt)))] := hl
  obtain ⟨hc1, hc2, hc3, hc4⟩ := id hC
  have hL : ∀ (n : Nat) (i : Int) (H : Heap) (locs : List Loc) (ls : Array Slot), (0 ≤ i ∧ i ≤ 4 * cnt) → (∀ x, 0 ≤ x → x < i → ¬ ((if zgi (sg (x / 4)) x then (1 : Int) else 0) = if zgi (sg (pf x / 4)) (pf x) then (1 : Int) else 0)) → (4 * cnt - i).toNat < n → zq_W D vwCl A s.heap M H locs → lv_has ls 4 [(0, .ref o), (1, .ref o2), (2, .int (iI (4 * cnt))), (3, .int (iI i))] → W p l e ({ frames := 4, cells := 0, slots := 0, locals := 85 } : Room) s m [.ref o, .ref o2, .int (iI (4 * cnt))].toArray below meth co H locs 0 0 (MQ below (zq_Q D vwCl (zT K) (P_DR_partnersAreEdges K M o aA bA cA dA pf pcs sp sn o2 s2 l2 cnt sg lb) A) [.ref o, .ref o2, .int (iI (4 * cnt))].toArray s 0 0 A) (F0 m 2 ls []) := by
    intro n
    induction n with
    | zero =>
      intro i H locs ls hi hn hms hw hl
      exact absurd hms (Nat.not_lt_zero _)
    | succ n ih_hL =>
      intro i H locs ls hi hn hms hw hl
      refine lv_iload_n hx hb d_DR_partnersAreEdges_2 rfl (lv_at hl 3 rfl) ?_
      refine lv_iload_n hx hb d_DR_partnersAreEdges_3 rfl (lv_at hl 2 rfl) ?_
      refine zq_icmp_ge (tgt := 33) hx hb d_DR_partnersAreEdges_4 (by decide) ⟨by omega, by omega⟩ ⟨by omega, by omega⟩ (fun hc1 => ?_) (fun hc1 => ?_)
      · refine lv_iconst (v := iI 1) hx hb d_DR_partnersAreEdges_33 rfl ?_
        exact zq_zret hx hb hr rfl hlocks hZ hw ⟨_, rfl, Or.inl ⟨rfl, fun x h1 h2 => hn x h1 (by omega)⟩, rfl⟩ d_DR_partnersAreEdges_34
      · have hpi := hpf i (by omega) (by omega)
        refine lv_aload_n hx hb d_DR_partnersAreEdges_7 rfl (lv_at hl 1 rfl) ?_
        refine lv_iload_n hx hb d_DR_partnersAreEdges_8 rfl (lv_at hl 3 rfl) ?_
        refine zq_callV (As := [.int (iI i)]) (rest := []) ⟨hx, hb, hml, hown, hts⟩ (c_CR_goesIn l D K M o2 s2 l2 cnt sg lb i h_o2 h_s2 h_l2 hC ⟨by omega, by omega⟩) (cwV 1 hts (zg_V tw_256 tw_257 tw_258 tw_2 tw_259) rfl rfl rfl (by decide +kernel) ⟨Nat.le_of_ble_eq_true rfl, Nat.le_of_ble_eq_true rfl⟩) hZ hw hA h_o2 rfl rfl rfl rfl hl.1 (Nat.le_of_ble_eq_true rfl) d_DR_partnersAreEdges_9 ⟨Nat.le_of_ble_eq_true rfl, Nat.le_of_ble_eq_true rfl⟩ (fun v M2 H locs hp hw => ?_)
        obtain ⟨rfl, hMe⟩ := hp
        rw [hMe] at hw
        refine W.eq (g2 := F0 m 12 ls [.int (iI (if zgi (sg (i / 4)) i then 1 else 0))]) rfl ?_
        refine lv_aload_n hx hb d_DR_partnersAreEdges_12 rfl (lv_at hl 1 rfl) ?_
        refine lv_aload_n hx hb d_DR_partnersAreEdges_13 rfl (lv_at hl 0 rfl) ?_
        refine zq_get hx hb hts i_DR hown hK hw h_o rfl 0 (by decide) (hts _ tw_45) rfl d_DR_partnersAreEdges_14 ?_
        refine lv_iload_n hx hb d_DR_partnersAreEdges_17 rfl (lv_at hl 3 rfl) ?_
        refine zq_iald hx hb hK hw 0 h_a rfl (by omega) (by omega) (by decide) d_DR_partnersAreEdges_18 ?_
        refine zq_callV (As := [.int (iI (pf i))]) (rest := [.int (iI (if zgi (sg (i / 4)) i then 1 else 0))]) ⟨hx, hb, hml, hown, hts⟩ (c_CR_goesIn l D K M o2 s2 l2 cnt sg lb (pf i) h_o2 h_s2 h_l2 hC ⟨by omega, by omega⟩) (cwV 1 hts (zg_V tw_256 tw_257 tw_258 tw_2 tw_259) rfl rfl rfl (by decide +kernel) ⟨Nat.le_of_ble_eq_true rfl, Nat.le_of_ble_eq_true rfl⟩) hZ hw hA h_o2 rfl rfl rfl rfl hl.1 (Nat.le_of_ble_eq_true rfl) d_DR_partnersAreEdges_19 ⟨Nat.le_of_ble_eq_true rfl, Nat.le_of_ble_eq_true rfl⟩ (fun v M3 H locs hp hw => ?_)
        obtain ⟨rfl, hMe⟩ := hp
        rw [hMe] at hw
        refine W.eq (g2 := F0 m 22 ls [.int (iI (if zgi (sg ((pf i) / 4)) (pf i) then 1 else 0)), .int (iI (if zgi (sg (i / 4)) i then 1 else 0))]) rfl ?_
        refine zq_icmp_ne (tgt := 27) hx hb d_DR_partnersAreEdges_22 (by decide) (by split <;> decide) (by split <;> decide) (fun hc4 => ?_) (fun hc4 => ?_)
        · refine lv_iinc (v := iI (i + 1)) (lv' := [(3, .int (iI (i + 1))), (0, .ref o), (1, .ref o2), (2, .int (iI (4 * cnt)))]) hx hb d_DR_partnersAreEdges_27 hl (k := 3) rfl (iI_add _ _) (by decide) rfl (fun ls hl => ?_)
          refine lv_goto (tgt := 2) hx hb d_DR_partnersAreEdges_30 (by decide) ?_
          exact ih_hL (i + 1) _ _ _ (by omega) (fun x h1 h2 => by by_cases q : x = i; rw [q]; assumption; exact hn x h1 (by omega)) (by omega) hw (lv_sub hl [1, 2, 3, 0] rfl)
        · refine lv_iconst (v := iI 0) hx hb d_DR_partnersAreEdges_25 rfl ?_
          exact zq_zret hx hb hr rfl hlocks hZ hw ⟨_, rfl, Or.inr ⟨rfl, fun z => z i (by omega) (by omega) (by assumption)⟩, rfl⟩ d_DR_partnersAreEdges_26
  refine lv_iconst (v := iI 0) hx hb d_DR_partnersAreEdges_0 rfl ?_
  refine lv_istore_n (lv' := [(3, .int (iI 0)), (0, .ref o), (1, .ref o2), (2, .int (iI (4 * cnt)))]) hx hb d_DR_partnersAreEdges_1 rfl hl (by decide) rfl (fun ls hl => ?_)
  exact hL _ 0 _ _ _ (by omega) (fun x h1 h2 => by omega) (Nat.lt_succ_self _) hw (lv_sub hl [1, 2, 3, 0] rfl)
