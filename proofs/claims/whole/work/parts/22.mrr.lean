abbrev P_MR_rankOf (K : Nat → ClassId) (M : zq_M) (o : Nat) (gA : Nat) (ra : Int → Nat) (F : Int → Int → Int) (o2 : Nat) (g2 : Nat) (k2 : Nat) (rc : Int → Nat) (rd : Int → Nat) (rw0 : Int) (co0 : Int) (E : Int → Int → Int) (S : Int → Int → Int) (t : Int) (pp : Int) : Option Value → zq_M → Prop := fun v M' => ∃ fd F' ra', v = some (.int (iI fd)) ∧ zEl (fun a b => if 0 ≤ a ∧ a < rw0 ∧ 0 ≤ b ∧ b < co0 then zent E S (t % pp) pp a b else F a b) rw0 pp co0.toNat F' fd ∧ zG K M' gA ra' F' ∧ (∀ i j, 0 ≤ F' i j ∧ F' i j ≤ 96) ∧ (∀ i, 0 ≤ i → i < 12 → ∃ j, 0 ≤ j ∧ j < 12 ∧ ra' i = ra j) ∧ ∀ q, q ≠ gA → (∀ i, 0 ≤ i → i < 12 → q ≠ ra i) → M' q = M q
set_option maxHeartbeats 4000000 in
set_option maxRecDepth 100000 in
theorem c_MR_rankOf (l : Launch) (D : va_G) (K : Nat → ClassId) (M : zq_M) (o : Nat) (gA : Nat) (ra : Int → Nat) (F : Int → Int → Int) (o2 : Nat) (g2 : Nat) (k2 : Nat) (rc : Int → Nat) (rd : Int → Nat) (rw0 : Int) (co0 : Int) (E : Int → Int → Int) (S : Int → Int → Int) (t : Int) (pp : Int) (h_o : M o = some (.inr (7, [.ref gA]))) (hG1 : zG K M gA ra F) (hR : ∀ i j, 0 ≤ F i j ∧ F i j ≤ 96) (h_o2 : M o2 = some (.inr (5, [.ref g2, .ref k2, .int (iI rw0), .int (iI co0)]))) (hE1 : zG K M g2 rc E) (hE2 : zG K M k2 rd S) (hE : zE rw0 co0 rc rd E S) (hEs : ∀ i j, (-10 ≤ E i j ∧ E i j ≤ 10) ∧ -10 ≤ S i j ∧ S i j ≤ 10) (hgg : g2 ≠ gA ∧ k2 ≠ gA) (hdj : ∀ i j, 0 ≤ i → i < 12 → 0 ≤ j → j < 12 → ra i ≠ rc j ∧ ra i ≠ rd j) (ht : inI t) (hpp : 2 ≤ pp ∧ pp ≤ 97) : zq_Met l y_MR_rankOf (.code y_MR_rankOf b_MR_rankOf 10 (some .int) :: lw_gd) { frames := 2, cells := 0, slots := 0, locals := 51 } D vwCl (zT K) [.ref o, .ref o2, .int (iI t), .int (iI pp)] M (P_MR_rankOf K M o gA ra F o2 g2 k2 rc rd rw0 co0 E S t pp) 0 0 := by
  refine zq_start (cc := b_MR_rankOf) (maxL := 10) (ret := (some .int)) (by decide) rfl (Nat.le_of_ble_eq_true rfl) ?_
  intro p e s m below meth co A ls hx hb hr hml hts hown hnm hlocks hA hZ hw hl
  have hts : ∀ w ∈ lw_gd, w.before [.ref o, .ref o2, .int (iI t), .int (iI pp)].toArray s = true := fun w h => hts w (List.mem_cons_of_mem _ h)
  have hown : s.vm.findClass R_MR = some m.cls := hown
  have hK := hZ.1
  have hl : lv_has ls 10 [(0, .ref o), (1, .ref o2), (2, .int (iI t)), (3, .int (iI pp))] := hl
  have hfr : ∀ q, q ≠ gA → (∀ i, 0 ≤ i → i < 12 → q ≠ ra i) → M q = M q := fun q _ _ => rfl
  have h_g := hG1.1
  obtain ⟨he1, he2, he3, he4, he5, he6, he7⟩ := id hE
  have h_g2 := hE1.1
  have h_k2 := hE2.1
  have hv := zmodp (x := t) hpp
  have hLC : ∀ (n : Nat) (k : Nat) (col : Int) (fd : Int) (ra1 : Int → Nat) (F1 : Int → Int → Int) (Mq : zq_M) (H : Heap) (locs : List Loc) (ls : Array Slot), (col = k) → (col ≤ co0 ∧ 0 ≤ fd ∧ fd ≤ rw0) → (zG K Mq gA ra1 F1) → (zEl (fun a b => if 0 ≤ a ∧ a < rw0 ∧ 0 ≤ b ∧ b < co0 then zent E S (t % pp) pp a b else F a b) rw0 pp k F1 fd) → (∀ i j, 0 ≤ F1 i j ∧ F1 i j ≤ 96) → (∀ i, 0 ≤ i → i < 12 → ∃ j, 0 ≤ j ∧ j < 12 ∧ ra1 i = ra j) → (co0 - col).toNat < n → (∀ q, q ≠ gA → (∀ i, 0 ≤ i → i < 12 → q ≠ ra i) → Mq q = M q) → Mq o = some (.inr (7, [.ref gA])) → Mq gA = some (cQ (K 4) 12 (fun i => some (ra1 i))) → Mq o2 = some (.inr (5, [.ref g2, .ref k2, .int (iI rw0), .int (iI co0)])) → Mq g2 = some (cQ (K 4) 12 (fun i => some (rc i))) → Mq k2 = some (cQ (K 4) 12 (fun i => some (rd i))) → zq_W D vwCl A s.heap Mq H locs → lv_has ls 10 [(0, .ref o), (1, .ref o2), (2, .int (iI t)), (3, .int (iI pp)), (4, .int (iI rw0)), (5, .int (iI co0)), (6, .int (iI (t % pp))), (7, .int (iI fd)), (8, .int (iI col))] → W p l e ({ frames := 2, cells := 0, slots := 0, locals := 51 } : Room) s m [.ref o, .ref o2, .int (iI t), .int (iI pp)].toArray below meth co H locs 0 0 (MQ below (zq_Q D vwCl (zT K) (P_MR_rankOf K M o gA ra F o2 g2 k2 rc rd rw0 co0 E S t pp) A) [.ref o, .ref o2, .int (iI t), .int (iI pp)].toArray s 0 0 A) (F0 m 118 ls []) := by
    intro n
    induction n with
    | zero =>
      intro k col fd ra1 F1 Mq H locs ls hk hcf hF hEl hR1 hsub hms hfr h_o h_g h_o2 h_g2 h_k2 hw hl
      exact absurd hms (Nat.not_lt_zero _)
    | succ n ih_hLC =>
      intro k col fd ra1 F1 Mq H locs ls hk hcf hF hEl hR1 hsub hms hfr h_o h_g h_o2 h_g2 h_k2 hw hl
      refine lv_iload hx hb d_MR_rankOf_118 (lv_at hl 8 rfl) ?_
      refine lv_iload hx hb d_MR_rankOf_120 (lv_at hl 5 rfl) ?_
      refine zq_icmp_ge (tgt := 177) hx hb d_MR_rankOf_122 (by decide) ⟨by omega, by omega⟩ ⟨by omega, by omega⟩ (fun hc1 => ?_) (fun hc1 => ?_)
      · refine lv_iload hx hb d_MR_rankOf_177 (lv_at hl 7 rfl) ?_
        exact zq_iret hx hb hr hlocks hZ hw ⟨fd, F1, ra1, rfl, (by first | (rw [show co0.toNat = k from by omega]; exact hEl) | exact zEl_ext hEl (by omega) (by omega)), hF, hR1, hsub, hfr⟩ d_MR_rankOf_179
      · refine lv_iload hx hb d_MR_rankOf_125 (lv_at hl 7 rfl) ?_
        refine lv_iload hx hb d_MR_rankOf_127 (lv_at hl 4 rfl) ?_
        refine zq_icmp_ge (tgt := 177) hx hb d_MR_rankOf_129 (by decide) ⟨by omega, by omega⟩ ⟨by omega, by omega⟩ (fun hc2 => ?_) (fun hc2 => ?_)
        · refine lv_iload hx hb d_MR_rankOf_177 (lv_at hl 7 rfl) ?_
          exact zq_iret hx hb hr hlocks hZ hw ⟨fd, F1, ra1, rfl, (by first | (rw [show co0.toNat = k from by omega]; exact hEl) | exact zEl_ext hEl (by omega) (by omega)), hF, hR1, hsub, hfr⟩ d_MR_rankOf_179
        · refine lv_aload_n hx hb d_MR_rankOf_132 rfl (lv_at hl 0 rfl) ?_
          refine lv_iload hx hb d_MR_rankOf_133 (lv_at hl 7 rfl) ?_
          refine lv_iload hx hb d_MR_rankOf_135 (lv_at hl 4 rfl) ?_
          refine lv_iload hx hb d_MR_rankOf_137 (lv_at hl 8 rfl) ?_
          refine zq_callV (As := [.int (iI fd), .int (iI rw0), .int (iI col)]) (rest := []) ⟨hx, hb, hml, hown, hts⟩ (c_MR_findPivot l D K Mq o gA ra1 F1 fd rw0 col h_o hF hR1 ⟨by omega, by omega, by omega, by omega, by omega⟩) (cwV 3 hts (zg_V tw_534 tw_536 ts_21 tw_9 tw_537) rfl rfl rfl (by decide +kernel) ⟨Nat.le_of_ble_eq_true rfl, Nat.le_of_ble_eq_true rfl⟩) hZ hw hA h_o rfl rfl rfl rfl hl.1 (Nat.le_of_ble_eq_true rfl) d_MR_rankOf_139 ⟨Nat.le_of_ble_eq_true rfl, Nat.le_of_ble_eq_true rfl⟩ (fun v M4 H locs hp hw => ?_)
          obtain ⟨rr3, rfl, hFrr3, hMe⟩ := hp
          rw [hMe] at hw
          refine W.eq (g2 := F0 m 142 ls [.int (iI rr3)]) rfl ?_
          refine lv_istore (lv' := [(9, .int (iI rr3)), (0, .ref o), (1, .ref o2), (2, .int (iI t)), (3, .int (iI pp)), (4, .int (iI rw0)), (5, .int (iI co0)), (6, .int (iI (t % pp))), (7, .int (iI fd)), (8, .int (iI col))]) hx hb d_MR_rankOf_142 hl (by decide) rfl (fun ls hl => ?_)
          refine lv_iload hx hb d_MR_rankOf_144 (lv_at hl 0 rfl) ?_
          have hrr9 : -1 ≤ rr3 ∧ rr3 < 12 := by rcases hFrr3 with h | h <;> omega
          refine zq_if_lt (tgt := 171) hx hb d_MR_rankOf_146 (by decide) ⟨by omega, by omega⟩ (fun hc5 => ?_) (fun hc5 => ?_)
          · refine lv_iinc (v := iI (col + 1)) (lv' := [(8, .int (iI (col + 1))), (9, .int (iI rr3)), (0, .ref o), (1, .ref o2), (2, .int (iI t)), (3, .int (iI pp)), (4, .int (iI rw0)), (5, .int (iI co0)), (6, .int (iI (t % pp))), (7, .int (iI fd))]) hx hb d_MR_rankOf_171 hl (k := 9) rfl (iI_add _ _) (by decide) rfl (fun ls hl => ?_)
            refine lv_goto (tgt := 118) hx hb d_MR_rankOf_174 (by decide) ?_
            exact ih_hLC (k + 1) (col + 1) fd ra1 F1 Mq _ _ _ (by omega) (by omega) hF ⟨F1, fd, hEl, Or.inr ⟨by omega, rr3, by rw [← hk]; exact hFrr3, Or.inl ⟨by rcases hFrr3 with h | h; omega; exact h.1, rfl, rfl⟩⟩⟩ hR1 hsub (by omega) hfr h_o h_g h_o2 h_g2 h_k2 hw (lv_sub hl [2, 3, 4, 5, 6, 7, 8, 9, 0] rfl)
          · refine lv_aload_n hx hb d_MR_rankOf_149 rfl (lv_at hl 1 rfl) ?_
            refine lv_iload hx hb d_MR_rankOf_150 (lv_at hl 8 rfl) ?_
            refine lv_iload hx hb d_MR_rankOf_152 (lv_at hl 0 rfl) ?_
            refine zq_callV (As := [.int (iI fd), .int (iI rr3)]) (rest := []) ⟨hx, hb, hml, hown, hts⟩ (c_MR_exchangeRows l D K Mq o gA ra1 F1 fd rr3 h_o hF hR1 ⟨by omega, by omega⟩ ⟨by omega, by omega⟩) (cwV 2 hts (zg_V tw_538 tw_540 ts_22 tw_9 tw_541) rfl rfl rfl (by decide +kernel) ⟨Nat.le_of_ble_eq_true rfl, Nat.le_of_ble_eq_true rfl⟩) hZ hw hA h_o rfl rfl rfl rfl hl.1 (Nat.le_of_ble_eq_true rfl) d_MR_rankOf_154 ⟨Nat.le_of_ble_eq_true rfl, Nat.le_of_ble_eq_true rfl⟩ (fun v M6 H locs hp hw => ?_)
            obtain ⟨rfl, hgN, ho⟩ := hp
            have h_o : M6 o = some (.inr (7, [.ref gA])) := (ho _ (zq_ne h_o h_g (by simp))).trans h_o
            have h_o2 : M6 o2 = some (.inr (5, [.ref g2, .ref k2, .int (iI rw0), .int (iI co0)])) := (ho _ (zq_ne h_o2 h_g (by simp))).trans h_o2
            have h_g2 : M6 g2 = some (cQ (K 4) 12 (fun i => some (rc i))) := (ho _ hgg.1).trans h_g2
            have h_k2 : M6 k2 = some (cQ (K 4) 12 (fun i => some (rd i))) := (ho _ hgg.2).trans h_k2
            have h_g : M6 gA = some (cQ (K 4) 12 (fun i => some (zswp ra1 fd rr3 i))) := hgN.1
            have hfr : ∀ q, q ≠ gA → (∀ i, 0 ≤ i → i < 12 → q ≠ ra i) → M6 q = M q := fun q g0 g1 => (ho q g0).trans (hfr q g0 g1)
            refine W.eq (g2 := F0 m 157 ls []) rfl ?_
            have hF2 := hgN
            have hsub2 : ∀ i, 0 ≤ i → i < 12 → ∃ j, 0 ≤ j ∧ j < 12 ∧ zswp ra1 fd rr3 i = ra j := fun i h1 h2 => by have z9 := zsi_in (n := 12) (show 0 ≤ fd ∧ fd < 12 by omega) (show 0 ≤ rr3 ∧ rr3 < 12 by rcases hFrr3 with h | h <;> omega) ⟨h1, h2⟩; exact hsub _ z9.1 z9.2
            refine lv_aload_n hx hb d_MR_rankOf_157 rfl (lv_at hl 1 rfl) ?_
            refine lv_iload hx hb d_MR_rankOf_158 (lv_at hl 8 rfl) ?_
            refine lv_iload hx hb d_MR_rankOf_160 (lv_at hl 5 rfl) ?_
            refine lv_iload hx hb d_MR_rankOf_162 (lv_at hl 9 rfl) ?_
            refine lv_iload_n hx hb d_MR_rankOf_164 rfl (lv_at hl 4 rfl) ?_
            refine zq_callV (As := [.int (iI fd), .int (iI rw0), .int (iI col), .int (iI pp)]) (rest := []) ⟨hx, hb, hml, hown, hts⟩ (c_MR_clearBelow l D K M6 o gA (zswp ra1 fd rr3) (zswp F1 fd rr3) fd rw0 col pp h_o hF2 (fun i j => hR1 _ j) ⟨by omega, by omega, by omega, by omega, by omega, by omega⟩ hpp) (cwV 4 hts (zg_V tw_542 tw_544 ts_23 tw_9 tw_545) rfl rfl rfl (by decide +kernel) ⟨Nat.le_of_ble_eq_true rfl, Nat.le_of_ble_eq_true rfl⟩) hZ hw hA h_o rfl rfl rfl rfl hl.1 (Nat.le_of_ble_eq_true rfl) d_MR_rankOf_165 ⟨Nat.le_of_ble_eq_true rfl, Nat.le_of_ble_eq_true rfl⟩ (fun v M7 H locs hp hw => ?_)
            obtain ⟨rfl, hgN, ho⟩ := hp
            have hF3 := hgN
            have h_o : M7 o = some (.inr (7, [.ref gA])) := (ho _ (fun i h1 h2 => zq_ne h_o (hF2.2.1 i h1 h2) (by simp))).trans h_o
            have h_g : M7 gA = some (cQ (K 4) 12 (fun i => some (zswp ra1 fd rr3 i))) := (ho _ (fun i h1 h2 => zq_ne h_g (hF2.2.1 i h1 h2) (by simp))).trans h_g
            have h_o2 : M7 o2 = some (.inr (5, [.ref g2, .ref k2, .int (iI rw0), .int (iI co0)])) := (ho _ (fun i h1 h2 => zq_ne h_o2 (hF2.2.1 i h1 h2) (by simp))).trans h_o2
            have h_g2 : M7 g2 = some (cQ (K 4) 12 (fun i => some (rc i))) := (ho _ (fun i h1 h2 => zq_ne h_g2 (hF2.2.1 i h1 h2) (by simp))).trans h_g2
            have h_k2 : M7 k2 = some (cQ (K 4) 12 (fun i => some (rd i))) := (ho _ (fun i h1 h2 => zq_ne h_k2 (hF2.2.1 i h1 h2) (by simp))).trans h_k2
            have hfr : ∀ q, q ≠ gA → (∀ i, 0 ≤ i → i < 12 → q ≠ ra i) → M7 q = M q := fun q g0 g1 => (ho q (fun i h1 h2 e9 => by obtain ⟨j, j1, j2, e⟩ := hsub2 i h1 h2; exact g1 j j1 j2 (e9.trans e))).trans (hfr q g0 g1)
            refine W.eq (g2 := F0 m 168 ls []) rfl ?_
            refine lv_iinc (v := iI (fd + 1)) (lv' := [(7, .int (iI (fd + 1))), (9, .int (iI rr3)), (0, .ref o), (1, .ref o2), (2, .int (iI t)), (3, .int (iI pp)), (4, .int (iI rw0)), (5, .int (iI co0)), (6, .int (iI (t % pp))), (8, .int (iI col))]) hx hb d_MR_rankOf_168 hl (k := 8) rfl (iI_add _ _) (by decide) rfl (fun ls hl => ?_)
            refine lv_iinc (v := iI (col + 1)) (lv' := [(8, .int (iI (col + 1))), (7, .int (iI (fd + 1))), (9, .int (iI rr3)), (0, .ref o), (1, .ref o2), (2, .int (iI t)), (3, .int (iI pp)), (4, .int (iI rw0)), (5, .int (iI co0)), (6, .int (iI (t % pp)))]) hx hb d_MR_rankOf_171 hl (k := 9) rfl (iI_add _ _) (by decide) rfl (fun ls hl => ?_)
            refine lv_goto (tgt := 118) hx hb d_MR_rankOf_174 (by decide) ?_
            exact ih_hLC (k + 1) (col + 1) (fd + 1) (zswp ra1 fd rr3) (zclr (zswp F1 fd rr3) fd rw0 col pp) M7 _ _ _ (by omega) (by omega) hF3 ⟨F1, fd, hEl, Or.inr ⟨by omega, rr3, by rw [← hk]; exact hFrr3, Or.inr ⟨by omega, by rw [← hk], rfl⟩⟩⟩ (zclr_in hpp (fun i j => hR1 _ j)) hsub2 (by omega) hfr h_o h_g h_o2 h_g2 h_k2 hw (lv_sub hl [3, 4, 5, 6, 7, 8, 9, 1, 0] rfl)
  have hLA : ∀ (n : Nat) (i : Int) (F1 : Int → Int → Int) (Mz : zq_M) (H : Heap) (locs : List Loc) (ls : Array Slot), (0 ≤ i ∧ i ≤ rw0) → (zG K Mz gA ra F1) → (∀ a b, F1 a b = if 0 ≤ a ∧ a < i ∧ 0 ≤ b ∧ b < co0 then zent E S (t % pp) pp a b else F a b) → (rw0 - i).toNat < n → (∀ q, q ≠ gA → (∀ i, 0 ≤ i → i < 12 → q ≠ ra i) → Mz q = M q) → Mz o = some (.inr (7, [.ref gA])) → Mz gA = some (cQ (K 4) 12 (fun i => some (ra i))) → Mz o2 = some (.inr (5, [.ref g2, .ref k2, .int (iI rw0), .int (iI co0)])) → Mz g2 = some (cQ (K 4) 12 (fun i => some (rc i))) → Mz k2 = some (cQ (K 4) 12 (fun i => some (rd i))) → zq_W D vwCl A s.heap Mz H locs → lv_has ls 10 [(0, .ref o), (1, .ref o2), (2, .int (iI t)), (3, .int (iI pp)), (4, .int (iI rw0)), (5, .int (iI co0)), (6, .int (iI (t % pp))), (7, .int (iI i))] → W p l e ({ frames := 2, cells := 0, slots := 0, locals := 51 } : Room) s m [.ref o, .ref o2, .int (iI t), .int (iI pp)].toArray below meth co H locs 0 0 (MQ below (zq_Q D vwCl (zT K) (P_MR_rankOf K M o gA ra F o2 g2 k2 rc rd rw0 co0 E S t pp) A) [.ref o, .ref o2, .int (iI t), .int (iI pp)].toArray s 0 0 A) (F0 m 45 ls []) := by
    intro n
    induction n with
    | zero =>
      intro i F1 Mz H locs ls hi hF hF1 hms hfr h_o h_g h_o2 h_g2 h_k2 hw hl
      exact absurd hms (Nat.not_lt_zero _)
    | succ n ih_hLA =>
      intro i F1 Mz H locs ls hi hF hF1 hms hfr h_o h_g h_o2 h_g2 h_k2 hw hl
      have hLB : ∀ (n : Nat) (j : Int) (h : Int → Int) (Mq : zq_M) (H : Heap) (locs : List Loc) (ls : Array Slot), (0 ≤ j ∧ j ≤ co0 ∧ i < rw0) → (∀ b, h b = if 0 ≤ b ∧ b < j then zent E S (t % pp) pp i b else F1 i b) → (∀ q, q ≠ ra i → Mq q = Mz q) → (co0 - j).toNat < n → (∀ q, q ≠ gA → (∀ i, 0 ≤ i → i < 12 → q ≠ ra i) → Mq q = M q) → Mq o = some (.inr (7, [.ref gA])) → Mq gA = some (cQ (K 4) 12 (fun i => some (ra i))) → Mq o2 = some (.inr (5, [.ref g2, .ref k2, .int (iI rw0), .int (iI co0)])) → Mq g2 = some (cQ (K 4) 12 (fun i => some (rc i))) → Mq k2 = some (cQ (K 4) 12 (fun i => some (rd i))) → Mq (ra i) = some (cI (K 0) 33 h) → zq_W D vwCl A s.heap Mq H locs → lv_has ls 10 [(0, .ref o), (1, .ref o2), (2, .int (iI t)), (3, .int (iI pp)), (4, .int (iI rw0)), (5, .int (iI co0)), (6, .int (iI (t % pp))), (7, .int (iI i)), (8, .int (iI j))] → W p l e ({ frames := 2, cells := 0, slots := 0, locals := 51 } : Room) s m [.ref o, .ref o2, .int (iI t), .int (iI pp)].toArray below meth co H locs 0 0 (MQ below (zq_Q D vwCl (zT K) (P_MR_rankOf K M o gA ra F o2 g2 k2 rc rd rw0 co0 E S t pp) A) [.ref o, .ref o2, .int (iI t), .int (iI pp)].toArray s 0 0 A) (F0 m 55 ls []) := by
        intro n
        induction n with
        | zero =>
          intro j h Mq H locs ls hj hh hfb hms hfr h_o h_g h_o2 h_g2 h_k2 h_r hw hl
          exact absurd hms (Nat.not_lt_zero _)
        | succ n ih_hLB =>
          intro j h Mq H locs ls hj hh hfb hms hfr h_o h_g h_o2 h_g2 h_k2 h_r hw hl
          refine lv_iload hx hb d_MR_rankOf_55 (lv_at hl 8 rfl) ?_
          refine lv_iload hx hb d_MR_rankOf_57 (lv_at hl 5 rfl) ?_
          refine zq_icmp_ge (tgt := 106) hx hb d_MR_rankOf_59 (by decide) ⟨by omega, by omega⟩ ⟨by omega, by omega⟩ (fun hc8 => ?_) (fun hc8 => ?_)
          · refine lv_iinc (v := iI (i + 1)) (lv' := [(7, .int (iI (i + 1))), (0, .ref o), (1, .ref o2), (2, .int (iI t)), (3, .int (iI pp)), (4, .int (iI rw0)), (5, .int (iI co0)), (6, .int (iI (t % pp))), (8, .int (iI j))]) hx hb d_MR_rankOf_106 hl (k := 7) rfl (iI_add _ _) (by decide) rfl (fun ls hl => ?_)
            refine lv_goto (tgt := 45) hx hb d_MR_rankOf_109 (by decide) ?_
            exact ih_hLA (i + 1) (zu F1 i h) Mq _ _ _ (by omega) (zG_one hF h_r hfb (by omega) (by omega)) (zentF_step hF1 hh (by omega) (by omega)) (by omega) hfr h_o h_g h_o2 h_g2 h_k2 hw (lv_sub hl [1, 2, 3, 4, 5, 6, 7, 0] rfl)
          · have hE1m := zG_far hE1 hG1 hfr hgg.1 (fun i j h1 h2 h3 h4 => (hdj i j h1 h2 h3 h4).1)
            have hE2m := zG_far hE2 hG1 hfr hgg.2 (fun i j h1 h2 h3 h4 => (hdj i j h1 h2 h3 h4).2)
            refine lv_aload_n hx hb d_MR_rankOf_62 rfl (lv_at hl 1 rfl) ?_
            refine lv_iload hx hb d_MR_rankOf_63 (lv_at hl 7 rfl) ?_
            refine lv_iload hx hb d_MR_rankOf_65 (lv_at hl 8 rfl) ?_
            refine zq_callV (As := [.int (iI i), .int (iI j)]) (rest := []) ⟨hx, hb, hml, hown, hts⟩ (c_ET_constantAt l D K Mq o2 g2 k2 rc rd rw0 co0 E S i j h_o2 hE1m hE2m hE ⟨by omega, by omega⟩ ⟨by omega, by omega⟩) (cwV 2 hts (zg_V tw_532 tw_409 tw_410 tw_5 tw_411) rfl rfl rfl (by decide +kernel) ⟨Nat.le_of_ble_eq_true rfl, Nat.le_of_ble_eq_true rfl⟩) hZ hw hA h_o2 rfl rfl rfl rfl hl.1 (Nat.le_of_ble_eq_true rfl) d_MR_rankOf_67 ⟨Nat.le_of_ble_eq_true rfl, Nat.le_of_ble_eq_true rfl⟩ (fun v M9 H locs hp hw => ?_)
            obtain ⟨rfl, hMe⟩ := hp
            rw [hMe] at hw
            refine W.eq (g2 := F0 m 70 ls [.int (iI (zat E rw0 co0 i j))]) rfl ?_
            refine lv_aload_n hx hb d_MR_rankOf_70 rfl (lv_at hl 1 rfl) ?_
            refine lv_iload hx hb d_MR_rankOf_71 (lv_at hl 7 rfl) ?_
            refine lv_iload hx hb d_MR_rankOf_73 (lv_at hl 8 rfl) ?_
            refine zq_callV (As := [.int (iI i), .int (iI j)]) (rest := [.int (iI (zat E rw0 co0 i j))]) ⟨hx, hb, hml, hown, hts⟩ (c_ET_slopeAt l D K Mq o2 g2 k2 rc rd rw0 co0 E S i j h_o2 hE1m hE2m hE ⟨by omega, by omega⟩ ⟨by omega, by omega⟩) (cwV 2 hts (zg_V tw_533 tw_413 tw_414 tw_5 tw_415) rfl rfl rfl (by decide +kernel) ⟨Nat.le_of_ble_eq_true rfl, Nat.le_of_ble_eq_true rfl⟩) hZ hw hA h_o2 rfl rfl rfl rfl hl.1 (Nat.le_of_ble_eq_true rfl) d_MR_rankOf_75 ⟨Nat.le_of_ble_eq_true rfl, Nat.le_of_ble_eq_true rfl⟩ (fun v M10 H locs hp hw => ?_)
            obtain ⟨rfl, hMe⟩ := hp
            rw [hMe] at hw
            refine W.eq (g2 := F0 m 78 ls [.int (iI (zat S rw0 co0 i j)), .int (iI (zat E rw0 co0 i j))]) rfl ?_
            refine lv_iload hx hb d_MR_rankOf_78 (lv_at hl 6 rfl) ?_
            refine zq_imul hx hb d_MR_rankOf_80 ?_
            refine zq_iadd hx hb d_MR_rankOf_81 ?_
            rw [show ((zat E rw0 co0 i j) + ((zat S rw0 co0 i j) * (t % pp)) : Int) = E i j + S i j * (t % pp) from (by unfold zat; rw [if_pos (by omega), if_pos (by omega)])]
            refine lv_istore (lv' := [(9, .int (iI (E i j + S i j * (t % pp)))), (0, .ref o), (1, .ref o2), (2, .int (iI t)), (3, .int (iI pp)), (4, .int (iI rw0)), (5, .int (iI co0)), (6, .int (iI (t % pp))), (7, .int (iI i)), (8, .int (iI j))]) hx hb d_MR_rankOf_82 hl (by decide) rfl (fun ls hl => ?_)
            refine lv_aload_n hx hb d_MR_rankOf_84 rfl (lv_at hl 1 rfl) ?_
            refine zq_get hx hb hts i_MR hown hK hw h_o rfl 0 (by decide) (hts _ tw_176) rfl d_MR_rankOf_85 ?_
            refine lv_iload hx hb d_MR_rankOf_88 (lv_at hl 8 rfl) ?_
            refine zq_aald hx hb hK hw 4 rfl h_g rfl (by omega) (by omega) (by decide) rfl d_MR_rankOf_90 ?_
            refine lv_iload hx hb d_MR_rankOf_91 (lv_at hl 9 rfl) ?_
            refine lv_iload hx hb d_MR_rankOf_93 (lv_at hl 0 rfl) ?_
            refine lv_iload_n hx hb d_MR_rankOf_95 rfl (lv_at hl 4 rfl) ?_
            refine zq_callS (b := 0) (C := "") (As := [.int (iI (E i j + S i j * (t % pp))), .int (iI pp)]) (rest := [.int (iI j), .ref (ra i)]) ⟨hx, hb, hml, hown, hts⟩ (c_JM_floorMod l D K Mq (E i j + S i j * (t % pp)) pp (zent_in (hEs i j) hv) ⟨by omega, by omega⟩) (va_cwS 2 hts (zg_T tw_529 tw_530 tw_11 tw_531) rfl rfl rfl (by decide +kernel) ⟨Nat.le_of_ble_eq_true rfl, Nat.le_of_ble_eq_true rfl⟩) hZ hw hA rfl rfl hl.1 (Nat.le_of_ble_eq_true rfl) d_MR_rankOf_96 ⟨Nat.le_of_ble_eq_true rfl, Nat.le_of_ble_eq_true rfl⟩ (fun v M11 H locs hp hw => ?_)
            obtain ⟨rfl, hMe⟩ := hp
            rw [hMe] at hw
            refine W.eq (g2 := F0 m 99 ls [.int (iI ((E i j + S i j * (t % pp)) % pp)), .int (iI j), .ref (ra i)]) rfl ?_
            refine zq_iast hx hb hK hw 0 h_r rfl (by omega) (by omega) (by decide) d_MR_rankOf_99 (fun M12 H locs hs ho hw => ?_)
            have h_o : M12 o = some (.inr (7, [.ref gA])) := (ho _ (zq_ne h_o h_r (by simp))).trans h_o
            have h_g : M12 gA = some (cQ (K 4) 12 (fun i => some (ra i))) := (ho _ (zq_ne h_g h_r (by simp))).trans h_g
            have h_o2 : M12 o2 = some (.inr (5, [.ref g2, .ref k2, .int (iI rw0), .int (iI co0)])) := (ho _ (zq_ne h_o2 h_r (by simp))).trans h_o2
            have h_g2 : M12 g2 = some (cQ (K 4) 12 (fun i => some (rc i))) := (ho _ (zq_ne h_g2 h_r (by simp))).trans h_g2
            have h_k2 : M12 k2 = some (cQ (K 4) 12 (fun i => some (rd i))) := (ho _ (zq_ne h_k2 h_r (by simp))).trans h_k2
            have h_r : M12 (ra i) = some (cI (K 0) 33 (zu h j ((E i j + S i j * (t % pp)) % pp))) := hs
            have hfr : ∀ q, q ≠ gA → (∀ i, 0 ≤ i → i < 12 → q ≠ ra i) → M12 q = M q := fun q g0 g1 => (ho q (g1 i (by omega) (by omega))).trans (hfr q g0 g1)
            refine lv_iinc (v := iI (j + 1)) (lv' := [(8, .int (iI (j + 1))), (9, .int (iI (E i j + S i j * (t % pp)))), (0, .ref o), (1, .ref o2), (2, .int (iI t)), (3, .int (iI pp)), (4, .int (iI rw0)), (5, .int (iI co0)), (6, .int (iI (t % pp))), (7, .int (iI i))]) hx hb d_MR_rankOf_100 hl (k := 9) rfl (iI_add _ _) (by decide) rfl (fun ls hl => ?_)
            refine lv_goto (tgt := 55) hx hb d_MR_rankOf_103 (by decide) ?_
            exact ih_hLB (j + 1) (zu h j ((E i j + S i j * (t % pp)) % pp)) M12 _ _ _ (by omega) (zent_step hh (by omega)) (fun q g0 => (ho q g0).trans (hfb q g0)) (by omega) hfr h_o h_g h_o2 h_g2 h_k2 h_r hw (lv_sub hl [2, 3, 4, 5, 6, 7, 8, 9, 0] rfl)
      refine lv_iload hx hb d_MR_rankOf_45 (lv_at hl 7 rfl) ?_
      refine lv_iload hx hb d_MR_rankOf_47 (lv_at hl 4 rfl) ?_
      refine zq_icmp_ge (tgt := 112) hx hb d_MR_rankOf_49 (by decide) ⟨by omega, by omega⟩ ⟨by omega, by omega⟩ (fun hc13 => ?_) (fun hc13 => ?_)
      · have hR1 : ∀ i j, 0 ≤ F1 i j ∧ F1 i j ≤ 96 := fun a b => by rw [hF1]; split; exact zmodp hpp; exact hR a b
        refine lv_iconst (v := iI 0) hx hb d_MR_rankOf_112 rfl ?_
        refine lv_istore (lv' := [(7, .int (iI 0)), (0, .ref o), (1, .ref o2), (2, .int (iI t)), (3, .int (iI pp)), (4, .int (iI rw0)), (5, .int (iI co0)), (6, .int (iI (t % pp)))]) hx hb d_MR_rankOf_113 hl (by decide) rfl (fun ls hl => ?_)
        refine lv_iconst (v := iI 0) hx hb d_MR_rankOf_115 rfl ?_
        refine lv_istore (lv' := [(8, .int (iI 0)), (7, .int (iI 0)), (0, .ref o), (1, .ref o2), (2, .int (iI t)), (3, .int (iI pp)), (4, .int (iI rw0)), (5, .int (iI co0)), (6, .int (iI (t % pp)))]) hx hb d_MR_rankOf_116 hl (by decide) rfl (fun ls hl => ?_)
        exact hLC _ 0 0 0 ra F1 Mz _ _ _ rfl (by omega) hF ⟨funext fun a => funext fun b => by rw [hF1, show i = rw0 from by omega], rfl⟩ hR1 (fun i h1 h2 => ⟨i, h1, h2, rfl⟩) (Nat.lt_succ_self _) hfr h_o h_g h_o2 h_g2 h_k2 hw (lv_sub hl [2, 3, 4, 5, 6, 7, 8, 1, 0] rfl)
      · have h_r : Mz (ra i) = some (cI (K 0) 33 (F1 i)) := hF.2.1 i (by omega) (by omega)
        refine lv_iconst (v := iI 0) hx hb d_MR_rankOf_52 rfl ?_
        refine lv_istore (lv' := [(8, .int (iI 0)), (0, .ref o), (1, .ref o2), (2, .int (iI t)), (3, .int (iI pp)), (4, .int (iI rw0)), (5, .int (iI co0)), (6, .int (iI (t % pp))), (7, .int (iI i))]) hx hb d_MR_rankOf_53 hl (by decide) rfl (fun ls hl => ?_)
        exact hLB _ 0 (F1 i) Mz _ _ _ (by omega) (fun b => by rw [if_neg (by omega)]) (fun q _ => rfl) (Nat.lt_succ_self _) hfr h_o h_g h_o2 h_g2 h_k2 h_r hw (lv_sub hl [1, 2, 3, 4, 5, 6, 7, 8, 0] rfl)
  refine lv_iload_n hx hb d_MR_rankOf_0 rfl (lv_at hl 3 rfl) ?_
  refine lv_iconst (v := iI 2) hx hb d_MR_rankOf_1 rfl ?_
  refine zq_icmp_lt (tgt := 11) hx hb d_MR_rankOf_2 (by decide) ⟨by omega, by omega⟩ (by decide) (fun hc14 => ?_) (fun hc14 => ?_)
  · exact absurd hc14 (by omega)
  · refine lv_iload_n hx hb d_MR_rankOf_5 rfl (lv_at hl 3 rfl) ?_
    refine lv_bipush (v := iI 97) hx hb d_MR_rankOf_6 (by decide) ?_
    refine zq_icmp_le (tgt := 13) hx hb d_MR_rankOf_8 (by decide) ⟨by omega, by omega⟩ (by decide) (fun hc15 => ?_) (fun hc15 => ?_)
    · refine lv_aload_n hx hb d_MR_rankOf_13 rfl (lv_at hl 1 rfl) ?_
      refine zq_callV (As := []) (rest := []) ⟨hx, hb, hml, hown, hts⟩ (c_ET_rows l D K M o2 g2 k2 rw0 co0  h_o2 (by omega)) (cwV 0 hts (zg_V tw_526 tw_390 tw_391 tw_5 tw_392) rfl rfl rfl (by decide +kernel) ⟨Nat.le_of_ble_eq_true rfl, Nat.le_of_ble_eq_true rfl⟩) hZ hw hA h_o2 rfl rfl rfl rfl hl.1 (Nat.le_of_ble_eq_true rfl) d_MR_rankOf_14 ⟨Nat.le_of_ble_eq_true rfl, Nat.le_of_ble_eq_true rfl⟩ (fun v M16 H locs hp hw => ?_)
      obtain ⟨rfl, hMe⟩ := hp
      rw [hMe] at hw
      refine W.eq (g2 := F0 m 17 ls [.int (iI rw0)]) rfl ?_
      refine lv_bipush (v := iI 12) hx hb d_MR_rankOf_17 (by decide) ?_
      refine zq_min hx hb (hml.trans hl.1.symm) hown (hts _ tw_527) (hts _ tw_241) (hts _ tw_11) (hts _ tw_242) (Nat.le_of_ble_eq_true rfl) (Nat.le_of_ble_eq_true rfl) (Nat.zero_le _) (Nat.zero_le _) ⟨by omega, by omega⟩ (by decide) d_MR_rankOf_19 ?_
      rw [show (min rw0 12 : Int) = rw0 from (by omega)]
      refine lv_istore (lv' := [(4, .int (iI rw0)), (0, .ref o), (1, .ref o2), (2, .int (iI t)), (3, .int (iI pp))]) hx hb d_MR_rankOf_22 hl (by decide) rfl (fun ls hl => ?_)
      refine lv_aload_n hx hb d_MR_rankOf_24 rfl (lv_at hl 2 rfl) ?_
      refine zq_callV (As := []) (rest := []) ⟨hx, hb, hml, hown, hts⟩ (c_ET_columns l D K M o2 g2 k2 rw0 co0  h_o2 (by omega)) (cwV 0 hts (zg_V tw_528 tw_394 tw_395 tw_5 tw_396) rfl rfl rfl (by decide +kernel) ⟨Nat.le_of_ble_eq_true rfl, Nat.le_of_ble_eq_true rfl⟩) hZ hw hA h_o2 rfl rfl rfl rfl hl.1 (Nat.le_of_ble_eq_true rfl) d_MR_rankOf_25 ⟨Nat.le_of_ble_eq_true rfl, Nat.le_of_ble_eq_true rfl⟩ (fun v M17 H locs hp hw => ?_)
      obtain ⟨rfl, hMe⟩ := hp
      rw [hMe] at hw
      refine W.eq (g2 := F0 m 28 ls [.int (iI co0)]) rfl ?_
      refine lv_bipush (v := iI 33) hx hb d_MR_rankOf_28 (by decide) ?_
      refine zq_min hx hb (hml.trans hl.1.symm) hown (hts _ tw_527) (hts _ tw_241) (hts _ tw_11) (hts _ tw_242) (Nat.le_of_ble_eq_true rfl) (Nat.le_of_ble_eq_true rfl) (Nat.zero_le _) (Nat.zero_le _) ⟨by omega, by omega⟩ (by decide) d_MR_rankOf_30 ?_
      rw [show (min co0 33 : Int) = co0 from (by omega)]
      refine lv_istore (lv' := [(5, .int (iI co0)), (4, .int (iI rw0)), (0, .ref o), (1, .ref o2), (2, .int (iI t)), (3, .int (iI pp))]) hx hb d_MR_rankOf_33 hl (by decide) rfl (fun ls hl => ?_)
      refine lv_iload_n hx hb d_MR_rankOf_35 rfl (lv_at hl 4 rfl) ?_
      refine lv_iload_n hx hb d_MR_rankOf_36 rfl (lv_at hl 5 rfl) ?_
      refine zq_callS (b := 0) (C := "") (As := [.int (iI t), .int (iI pp)]) (rest := []) ⟨hx, hb, hml, hown, hts⟩ (c_JM_floorMod l D K M t pp ht ⟨by omega, by omega⟩) (va_cwS 2 hts (zg_T tw_529 tw_530 tw_11 tw_531) rfl rfl rfl (by decide +kernel) ⟨Nat.le_of_ble_eq_true rfl, Nat.le_of_ble_eq_true rfl⟩) hZ hw hA rfl rfl hl.1 (Nat.le_of_ble_eq_true rfl) d_MR_rankOf_37 ⟨Nat.le_of_ble_eq_true rfl, Nat.le_of_ble_eq_true rfl⟩ (fun v M18 H locs hp hw => ?_)
      obtain ⟨rfl, hMe⟩ := hp
      rw [hMe] at hw
      refine W.eq (g2 := F0 m 40 ls [.int (iI (t % pp))]) rfl ?_
      refine lv_istore (lv' := [(6, .int (iI (t % pp))), (5, .int (iI co0)), (4, .int (iI rw0)), (0, .ref o), (1, .ref o2), (2, .int (iI t)), (3, .int (iI pp))]) hx hb d_MR_rankOf_40 hl (by decide) rfl (fun ls hl => ?_)
      refine lv_iconst (v := iI 0) hx hb d_MR_rankOf_42 rfl ?_
      refine lv_istore (lv' := [(7, .int (iI 0)), (6, .int (iI (t % pp))), (5, .int (iI co0)), (4, .int (iI rw0)), (0, .ref o), (1, .ref o2), (2, .int (iI t)), (3, .int (iI pp))]) hx hb d_MR_rankOf_43 hl (by decide) rfl (fun ls hl => ?_)
      exact hLA _ 0 F M _ _ _ (by omega) hG1 (fun a b => by rw [if_neg (by omega)]) (Nat.lt_succ_self _) hfr h_o h_g h_o2 h_g2 h_k2 hw (lv_sub hl [4, 5, 6, 7, 3, 2, 1, 0] rfl)
    · exact absurd hc15 (by omega)
