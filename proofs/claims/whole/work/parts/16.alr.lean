abbrev P_AL_read (K : Nat → ClassId) (M : zq_M) (o : Nat) (aA : Nat) (bA : Nat) (cA : Nat) (p0 : Int) (c : Int) (al : Int → Int) (at0 : Int → Int) (ls0 : Int → Int) (o2 : Nat) (s2 : Nat) (l2 : Nat) (cnt : Int) (sg : Int → Int) (lb : Int → Int) (cir : Int) : Option Value → zq_M → Prop := fun v M' => v = none ∧ ∃ cN lN, (0 ≤ cN ∧ cN ≤ 24 ∧ zSr lN cN ∧ (∀ v, (∃ j, 0 ≤ j ∧ j < cN ∧ lN j = v) ↔ ∃ x, 0 ≤ x ∧ x < 4 * cnt ∧ (zja sg (zcp lb at0 (4 * cnt)) (4 * cnt) cnt.toNat) x = v) ∧ ∀ j, inI (lN j)) ∧ M' o = some (.inr (1, [.ref aA, .ref bA, .ref cA, .int (iI (4 * cnt)), .int (iI (cN + cir))])) ∧ M' aA = some (cI (K 0) 48 (zcp lb al (4 * cnt))) ∧ M' bA = some (cI (K 0) 48 (zja sg (zcp lb at0 (4 * cnt)) (4 * cnt) cnt.toNat)) ∧ M' cA = some (cI (K 0) 33 (fun z => if cN ≤ z ∧ z < cN + cir then 0 else lN z)) ∧ ∀ q, q ≠ o → q ≠ aA → q ≠ bA → q ≠ cA → M' q = M q
set_option maxHeartbeats 4000000 in
set_option maxRecDepth 100000 in
theorem c_AL_read (l : Launch) (D : va_G) (K : Nat → ClassId) (M : zq_M) (o : Nat) (aA : Nat) (bA : Nat) (cA : Nat) (p0 : Int) (c : Int) (al : Int → Int) (at0 : Int → Int) (ls0 : Int → Int) (o2 : Nat) (s2 : Nat) (l2 : Nat) (cnt : Int) (sg : Int → Int) (lb : Int → Int) (cir : Int) (h_o : M o = some (.inr (1, [.ref aA, .ref bA, .ref cA, .int (iI p0), .int (iI c)]))) (h_a : M aA = some (cI (K 0) 48 al)) (h_b : M bA = some (cI (K 0) 48 at0)) (h_c : M cA = some (cI (K 0) 33 ls0)) (hab : aA ≠ bA) (hA0 : zA p0 c al at0 ls0) (h_o2 : M o2 = some (.inr (2, [.ref s2, .ref l2, .int (iI cnt)]))) (h_s2 : M s2 = some (cI (K 0) 12 sg)) (h_l2 : M l2 = some (cI (K 0) 48 lb)) (hC : zC cnt sg lb) (hal : aA ≠ l2) (hbl : bA ≠ l2) (hcir : 0 ≤ cir ∧ cir ≤ 9) (hcap : ∀ c' ls', zSr ls' c' → (∀ j, 0 ≤ j → j < c' → ∃ x, 0 ≤ x ∧ x < 4 * cnt ∧ (zja sg (zcp lb at0 (4 * cnt)) (4 * cnt) cnt.toNat) x = ls' j) → c' ≤ 24) : zq_Met l y_AL_read (.code y_AL_read b_AL_read 4 none :: lw_gd) { frames := 3, cells := 0, slots := 0, locals := 63 } D vwCl (zT K) [.ref o, .ref o2, .int (iI cir)] M (P_AL_read K M o aA bA cA p0 c al at0 ls0 o2 s2 l2 cnt sg lb cir) 0 0 := by
  refine zq_start (cc := b_AL_read) (maxL := 4) (ret := none) (by decide) rfl (Nat.le_of_ble_eq_true rfl) ?_
  intro p e s m below meth co A ls hx hb hr hml hts hown hnm hlocks hA hZ hw hl
  have hts : ∀ w ∈ lw_gd, w.before [.ref o, .ref o2, .int (iI cir)].toArray s = true := fun w h => hts w (List.mem_cons_of_mem _ h)
  have hown : s.vm.findClass R_AL = some m.cls := hown
  have hK := hZ.1
  have hl : lv_has ls 4 [(0, .ref o), (1, .ref o2), (2, .int (iI cir))] := hl
  have hfr : ∀ q, q ≠ o → q ≠ aA → q ≠ bA → q ≠ cA → M q = M q := fun q _ _ _ _ => rfl
  obtain ⟨hp1, hp2, hq1, hq2, hi1, hi2, hi3⟩ := id hA0
  obtain ⟨hc1, hc2, hc3, hc4⟩ := id hC
  obtain ⟨l1, hl1⟩ : ∃ f, f = zcp lb al (4 * cnt) := ⟨_, rfl⟩
  obtain ⟨tF, htF⟩ : ∃ f, f = zja sg (zcp lb at0 (4 * cnt)) (4 * cnt) cnt.toNat := ⟨_, rfl⟩
  rw [← htF] at hcap
  have hlI : ∀ j, inI (l1 j) := fun j => by rw [hl1]; exact zcp_in hc4 hi1 j
  have htI : ∀ j, inI (tF j) := fun j => by rw [htF]; exact zja_in (zcp_in hc4 hi2) _ j
  have hL4 : ∀ (n : Nat) (i : Int) (cN : Int) (lN : Int → Int) (c2 : Int) (g3 : Int → Int) (Mq : zq_M) (H : Heap) (locs : List Loc) (ls : Array Slot), (0 ≤ i ∧ i ≤ cir ∧ 0 ≤ cN ∧ cN ≤ 24 ∧ c2 = cN + i) → (zSr lN cN) → (∀ v, (∃ j, 0 ≤ j ∧ j < cN ∧ lN j = v) ↔ ∃ x, 0 ≤ x ∧ x < 4 * cnt ∧ tF x = v) → (∀ j, inI (lN j)) → (∀ z, g3 z = if cN ≤ z ∧ z < cN + i then 0 else lN z) → (cir - i).toNat < n → (∀ q, q ≠ o → q ≠ aA → q ≠ bA → q ≠ cA → Mq q = M q) → Mq o = some (.inr (1, [.ref aA, .ref bA, .ref cA, .int (iI (4 * cnt)), .int (iI c2)])) → Mq aA = some (cI (K 0) 48 l1) → Mq bA = some (cI (K 0) 48 tF) → Mq cA = some (cI (K 0) 33 g3) → Mq o2 = some (.inr (2, [.ref s2, .ref l2, .int (iI cnt)])) → Mq s2 = some (cI (K 0) 12 sg) → Mq l2 = some (cI (K 0) 48 lb) → zq_W D vwCl A s.heap Mq H locs → lv_has ls 4 [(0, .ref o), (1, .ref o2), (2, .int (iI cir)), (3, .int (iI i))] → W p l e ({ frames := 3, cells := 0, slots := 0, locals := 63 } : Room) s m [.ref o, .ref o2, .int (iI cir)].toArray below meth co H locs 0 0 (MQ below (zq_Q D vwCl (zT K) (P_AL_read K M o aA bA cA p0 c al at0 ls0 o2 s2 l2 cnt sg lb cir) A) [.ref o, .ref o2, .int (iI cir)].toArray s 0 0 A) (F0 m 115 ls []) := by
    intro n
    induction n with
    | zero =>
      intro i cN lN c2 g3 Mq H locs ls hi hS hM hI hg3 hms hfr h_o h_a h_b h_c h_o2 h_s2 h_l2 hw hl
      exact absurd hms (Nat.not_lt_zero _)
    | succ n ih_hL4 =>
      intro i cN lN c2 g3 Mq H locs ls hi hS hM hI hg3 hms hfr h_o h_a h_b h_c h_o2 h_s2 h_l2 hw hl
      refine lv_iload_n hx hb d_AL_read_115 rfl (lv_at hl 3 rfl) ?_
      refine lv_iload_n hx hb d_AL_read_116 rfl (lv_at hl 2 rfl) ?_
      refine zq_icmp_ge (tgt := 155) hx hb d_AL_read_117 (by decide) ⟨by omega, by omega⟩ ⟨by omega, by omega⟩ (fun hc1 => ?_) (fun hc1 => ?_)
      · exact zq_vret hx hb hr hlocks hZ hw ⟨rfl, cN, lN, ⟨by omega, by omega, hS, by rw [← htF]; exact hM, hI⟩, by rw [show cN + cir = c2 from by omega]; exact h_o, by rw [← hl1]; exact h_a, by rw [← htF]; exact h_b, by rw [show (fun z => if cN ≤ z ∧ z < cN + cir then 0 else lN z) = g3 from funext fun z => by rw [hg3, show i = cir from by omega]]; exact h_c, hfr⟩ d_AL_read_155
      · refine lv_aload_n hx hb d_AL_read_120 rfl (lv_at hl 0 rfl) ?_
        refine zq_get hx hb hts i_AL hown hK hw h_o rfl 4 (by decide) (hts _ tw_69) rfl d_AL_read_121 ?_
        refine lv_bipush (v := iI 33) hx hb d_AL_read_124 (by decide) ?_
        refine zq_icmp_ge (tgt := 155) hx hb d_AL_read_126 (by decide) ⟨by omega, by omega⟩ (by decide) (fun hc2 => ?_) (fun hc2 => ?_)
        · exact absurd hc2 (by omega)
        · refine lv_aload_n hx hb d_AL_read_129 rfl (lv_at hl 0 rfl) ?_
          refine zq_get hx hb hts i_AL hown hK hw h_o rfl 2 (by decide) (hts _ tw_67) rfl d_AL_read_130 ?_
          refine lv_aload_n hx hb d_AL_read_133 rfl (lv_at hl 0 rfl) ?_
          refine zq_get hx hb hts i_AL hown hK hw h_o rfl 4 (by decide) (hts _ tw_69) rfl d_AL_read_134 ?_
          refine lv_iconst (v := iI 0) hx hb d_AL_read_137 rfl ?_
          refine zq_iast hx hb hK hw 0 h_c rfl (by omega) (by omega) (by decide) d_AL_read_138 (fun M3 H locs hs ho hw => ?_)
          have h_o : M3 o = some (.inr (1, [.ref aA, .ref bA, .ref cA, .int (iI (4 * cnt)), .int (iI c2)])) := (ho _ (zq_ne h_o h_c (by simp))).trans h_o
          have h_a : M3 aA = some (cI (K 0) 48 l1) := (ho _ (zq_ne h_a h_c (by simp))).trans h_a
          have h_b : M3 bA = some (cI (K 0) 48 tF) := (ho _ (zq_ne h_b h_c (by simp))).trans h_b
          have h_o2 : M3 o2 = some (.inr (2, [.ref s2, .ref l2, .int (iI cnt)])) := (ho _ (zq_ne h_o2 h_c (by simp))).trans h_o2
          have h_s2 : M3 s2 = some (cI (K 0) 12 sg) := (ho _ (zq_ne h_s2 h_c (by simp))).trans h_s2
          have h_l2 : M3 l2 = some (cI (K 0) 48 lb) := (ho _ (zq_ne h_l2 h_c (by simp))).trans h_l2
          have h_c : M3 cA = some (cI (K 0) 33 (zu g3 c2 0)) := hs
          have hfr : ∀ q, q ≠ o → q ≠ aA → q ≠ bA → q ≠ cA → M3 q = M q := fun q g0 g1 g2 g3 => (ho q g3).trans (hfr q g0 g1 g2 g3)
          refine lv_aload_n hx hb d_AL_read_139 rfl (lv_at hl 0 rfl) ?_
          refine lv_dup hx hb d_AL_read_140 rfl ?_
          refine zq_get hx hb hts i_AL hown hK hw h_o rfl 4 (by decide) (hts _ tw_69) rfl d_AL_read_141 ?_
          refine lv_iconst (v := iI 1) hx hb d_AL_read_144 rfl ?_
          refine zq_iadd hx hb d_AL_read_145 ?_
          refine zq_put (ci := 1) (v := .int (iI (c2 + 1))) (ty := .int) hx hb hts i_AL t_AL t_AL_ok n_AL hown hK hw h_o rfl 4 (by decide) (hts _ tw_69) rfl (by decide +kernel) rfl rfl (Nat.le_of_ble_eq_true rfl) d_AL_read_146 (fun M4 H locs hs ho hw => ?_)
          have h_a : M4 aA = some (cI (K 0) 48 l1) := (ho _ (zq_ne h_a h_o (by simp))).trans h_a
          have h_b : M4 bA = some (cI (K 0) 48 tF) := (ho _ (zq_ne h_b h_o (by simp))).trans h_b
          have h_c : M4 cA = some (cI (K 0) 33 (zu g3 c2 0)) := (ho _ (zq_ne h_c h_o (by simp))).trans h_c
          have h_o2 : M4 o2 = some (.inr (2, [.ref s2, .ref l2, .int (iI cnt)])) := (ho _ (zq_ne h_o2 h_o (by simp))).trans h_o2
          have h_s2 : M4 s2 = some (cI (K 0) 12 sg) := (ho _ (zq_ne h_s2 h_o (by simp))).trans h_s2
          have h_l2 : M4 l2 = some (cI (K 0) 48 lb) := (ho _ (zq_ne h_l2 h_o (by simp))).trans h_l2
          have h_o : M4 o = some (.inr (1, [.ref aA, .ref bA, .ref cA, .int (iI (4 * cnt)), .int (iI (c2 + 1))])) := hs
          have hfr : ∀ q, q ≠ o → q ≠ aA → q ≠ bA → q ≠ cA → M4 q = M q := fun q g0 g1 g2 g3 => (ho q g0).trans (hfr q g0 g1 g2 g3)
          refine lv_iinc (v := iI (i + 1)) (lv' := [(3, .int (iI (i + 1))), (0, .ref o), (1, .ref o2), (2, .int (iI cir))]) hx hb d_AL_read_149 hl (k := 3) rfl (iI_add _ _) (by decide) rfl (fun ls hl => ?_)
          refine lv_goto (tgt := 115) hx hb d_AL_read_152 (by decide) ?_
          exact ih_hL4 (i + 1) cN lN (c2 + 1) (zu g3 c2 0) M4 _ _ _ (by omega) hS hM hI (zcir_step hg3 (by omega) (by omega)) (by omega) hfr h_o h_a h_b h_c h_o2 h_s2 h_l2 hw (lv_sub hl [1, 2, 3, 0] rfl)
  have hL3 : ∀ (n : Nat) (i : Int) (cN : Int) (lN : Int → Int) (Mq : zq_M) (H : Heap) (locs : List Loc) (ls : Array Slot), (0 ≤ i ∧ i ≤ 4 * cnt ∧ 0 ≤ cN) → (zSr lN cN) → (∀ v, (∃ j, 0 ≤ j ∧ j < cN ∧ lN j = v) ↔ ∃ x, 0 ≤ x ∧ x < i ∧ tF x = v) → (∀ j, inI (lN j)) → (4 * cnt - i).toNat < n → (∀ q, q ≠ o → q ≠ aA → q ≠ bA → q ≠ cA → Mq q = M q) → Mq o = some (.inr (1, [.ref aA, .ref bA, .ref cA, .int (iI (4 * cnt)), .int (iI cN)])) → Mq aA = some (cI (K 0) 48 l1) → Mq bA = some (cI (K 0) 48 tF) → Mq cA = some (cI (K 0) 33 lN) → Mq o2 = some (.inr (2, [.ref s2, .ref l2, .int (iI cnt)])) → Mq s2 = some (cI (K 0) 12 sg) → Mq l2 = some (cI (K 0) 48 lb) → zq_W D vwCl A s.heap Mq H locs → lv_has ls 4 [(0, .ref o), (1, .ref o2), (2, .int (iI cir)), (3, .int (iI i))] → W p l e ({ frames := 3, cells := 0, slots := 0, locals := 63 } : Room) s m [.ref o, .ref o2, .int (iI cir)].toArray below meth co H locs 0 0 (MQ below (zq_Q D vwCl (zT K) (P_AL_read K M o aA bA cA p0 c al at0 ls0 o2 s2 l2 cnt sg lb cir) A) [.ref o, .ref o2, .int (iI cir)].toArray s 0 0 A) (F0 m 89 ls []) := by
    intro n
    induction n with
    | zero =>
      intro i cN lN Mq H locs ls hi hS hM hI hms hfr h_o h_a h_b h_c h_o2 h_s2 h_l2 hw hl
      exact absurd hms (Nat.not_lt_zero _)
    | succ n ih_hL3 =>
      intro i cN lN Mq H locs ls hi hS hM hI hms hfr h_o h_a h_b h_c h_o2 h_s2 h_l2 hw hl
      refine lv_iload_n hx hb d_AL_read_89 rfl (lv_at hl 3 rfl) ?_
      refine lv_aload_n hx hb d_AL_read_90 rfl (lv_at hl 0 rfl) ?_
      refine zq_get hx hb hts i_AL hown hK hw h_o rfl 3 (by decide) (hts _ tw_68) rfl d_AL_read_91 ?_
      refine zq_icmp_ge (tgt := 113) hx hb d_AL_read_94 (by decide) ⟨by omega, by omega⟩ ⟨by omega, by omega⟩ (fun hc5 => ?_) (fun hc5 => ?_)
      · refine lv_iconst (v := iI 0) hx hb d_AL_read_113 rfl ?_
        refine lv_istore_n (lv' := [(3, .int (iI 0)), (0, .ref o), (1, .ref o2), (2, .int (iI cir))]) hx hb d_AL_read_114 rfl hl (by decide) rfl (fun ls hl => ?_)
        exact hL4 _ 0 cN lN cN lN Mq _ _ _ (by have hcN := hcap cN lN hS (fun j h1 h2 => (hM (lN j)).mp ⟨j, h1, h2, rfl⟩ |>.imp fun x h => ⟨h.1, by omega, h.2.2⟩); omega) hS (by rw [← show i = 4 * cnt from by omega]; exact hM) hI (fun z => by rw [if_neg (by omega)]) (Nat.lt_succ_self _) hfr h_o h_a h_b h_c h_o2 h_s2 h_l2 hw (lv_sub hl [1, 2, 3, 0] rfl)
      · have hcN := hcap cN lN hS (fun j h1 h2 => (hM (lN j)).mp ⟨j, h1, h2, rfl⟩ |>.imp fun x h => ⟨h.1, by omega, h.2.2⟩)
        have hA1 : zA (4 * cnt) cN l1 tF lN := ⟨by omega, by omega, by omega, by omega, hlI, htI, hI⟩
        refine lv_aload_n hx hb d_AL_read_97 rfl (lv_at hl 0 rfl) ?_
        refine lv_aload_n hx hb d_AL_read_98 rfl (lv_at hl 0 rfl) ?_
        refine zq_get hx hb hts i_AL hown hK hw h_o rfl 1 (by decide) (hts _ tw_66) rfl d_AL_read_99 ?_
        refine lv_iload_n hx hb d_AL_read_102 rfl (lv_at hl 3 rfl) ?_
        refine zq_iald hx hb hK hw 0 h_b rfl (by omega) (by omega) (by decide) d_AL_read_103 ?_
        refine zq_callV (As := [.int (iI (tF i))]) (rest := []) ⟨hx, hb, hml, hown, hts⟩ (c_AL_insert l D K Mq o aA bA cA (4 * cnt) cN l1 tF lN (tF i) h_o h_a h_b h_c hab hA1 (htI _) (by omega) hS) (cwV 1 hts (zg_V tw_337 tw_339 ts_12 tw_4 tw_340) rfl rfl rfl (by decide +kernel) ⟨Nat.le_of_ble_eq_true rfl, Nat.le_of_ble_eq_true rfl⟩) hZ hw hA h_o rfl rfl rfl rfl hl.1 (Nat.le_of_ble_eq_true rfl) d_AL_read_104 ⟨Nat.le_of_ble_eq_true rfl, Nat.le_of_ble_eq_true rfl⟩ (fun v M8 H locs hp hw => ?_)
        obtain ⟨rfl, cn6, lf7, hIcn6, hs1, hs2, ho⟩ := hp
        have h_a : M8 aA = some (cI (K 0) 48 l1) := (ho _ (zq_ne h_a h_o (by simp)) (zq_ne h_a h_c (by simp))).trans h_a
        have h_b : M8 bA = some (cI (K 0) 48 tF) := (ho _ (zq_ne h_b h_o (by simp)) (zq_ne h_b h_c (by simp))).trans h_b
        have h_o2 : M8 o2 = some (.inr (2, [.ref s2, .ref l2, .int (iI cnt)])) := (ho _ (zq_ne h_o2 h_o (by simp)) (zq_ne h_o2 h_c (by simp))).trans h_o2
        have h_s2 : M8 s2 = some (cI (K 0) 12 sg) := (ho _ (zq_ne h_s2 h_o (by simp)) (zq_ne h_s2 h_c (by simp))).trans h_s2
        have h_l2 : M8 l2 = some (cI (K 0) 48 lb) := (ho _ (zq_ne h_l2 h_o (by simp)) (zq_ne h_l2 h_c (by simp))).trans h_l2
        have h_o : M8 o = some (.inr (1, [.ref aA, .ref bA, .ref cA, .int (iI (4 * cnt)), .int (iI cn6)])) := hs1
        have h_c : M8 cA = some (cI (K 0) 33 lf7) := hs2
        have hfr : ∀ q, q ≠ o → q ≠ aA → q ≠ bA → q ≠ cA → M8 q = M q := fun q g0 g1 g2 g3 => (ho q g0 g3).trans (hfr q g0 g1 g2 g3)
        refine W.eq (g2 := F0 m 107 ls []) rfl ?_
        refine lv_iinc (v := iI (i + 1)) (lv' := [(3, .int (iI (i + 1))), (0, .ref o), (1, .ref o2), (2, .int (iI cir))]) hx hb d_AL_read_107 hl (k := 3) rfl (iI_add _ _) (by decide) rfl (fun ls hl => ?_)
        refine lv_goto (tgt := 89) hx hb d_AL_read_110 (by decide) ?_
        exact ih_hL3 (i + 1) cn6 lf7 M8 _ _ _ (by have := hIcn6.2.2.1; omega) hIcn6.1 (zmem_step hM hIcn6.2.1 (by omega)) (hIcn6.2.2.2 hI (htI _)) (by omega) hfr h_o h_a h_b h_c h_o2 h_s2 h_l2 hw (lv_sub hl [1, 2, 3, 0] rfl)
  have hL2 : ∀ (n : Nat) (k : Nat) (i : Int) (g2 : Int → Int) (Mq : zq_M) (H : Heap) (locs : List Loc) (ls : Array Slot), (i = k) → (i ≤ cnt) → (g2 = zja sg (zcp lb at0 (4 * cnt)) (4 * cnt) k) → (cnt - i).toNat < n → (∀ q, q ≠ o → q ≠ aA → q ≠ bA → q ≠ cA → Mq q = M q) → Mq o = some (.inr (1, [.ref aA, .ref bA, .ref cA, .int (iI (4 * cnt)), .int (iI c)])) → Mq aA = some (cI (K 0) 48 l1) → Mq bA = some (cI (K 0) 48 g2) → Mq cA = some (cI (K 0) 33 ls0) → Mq o2 = some (.inr (2, [.ref s2, .ref l2, .int (iI cnt)])) → Mq s2 = some (cI (K 0) 12 sg) → Mq l2 = some (cI (K 0) 48 lb) → zq_W D vwCl A s.heap Mq H locs → lv_has ls 4 [(0, .ref o), (1, .ref o2), (2, .int (iI cir)), (3, .int (iI i))] → W p l e ({ frames := 3, cells := 0, slots := 0, locals := 63 } : Room) s m [.ref o, .ref o2, .int (iI cir)].toArray below meth co H locs 0 0 (MQ below (zq_Q D vwCl (zT K) (P_AL_read K M o aA bA cA p0 c al at0 ls0 o2 s2 l2 cnt sg lb cir) A) [.ref o, .ref o2, .int (iI cir)].toArray s 0 0 A) (F0 m 54 ls []) := by
    intro n
    induction n with
    | zero =>
      intro k i g2 Mq H locs ls hik hi hg2 hms hfr h_o h_a h_b h_c h_o2 h_s2 h_l2 hw hl
      exact absurd hms (Nat.not_lt_zero _)
    | succ n ih_hL2 =>
      intro k i g2 Mq H locs ls hik hi hg2 hms hfr h_o h_a h_b h_c h_o2 h_s2 h_l2 hw hl
      refine lv_iload_n hx hb d_AL_read_54 rfl (lv_at hl 3 rfl) ?_
      refine lv_aload_n hx hb d_AL_read_55 rfl (lv_at hl 1 rfl) ?_
      refine zq_callV (As := []) (rest := [.int (iI i)]) ⟨hx, hb, hml, hown, hts⟩ (c_CR_size l D K Mq o2 s2 l2 cnt sg lb  h_o2 h_s2 h_l2 hC ) (cwV 0 hts (zg_V tw_321 tw_322 tw_323 tw_2 tw_324) rfl rfl rfl (by decide +kernel) ⟨Nat.le_of_ble_eq_true rfl, Nat.le_of_ble_eq_true rfl⟩) hZ hw hA h_o2 rfl rfl rfl rfl hl.1 (Nat.le_of_ble_eq_true rfl) d_AL_read_56 ⟨Nat.le_of_ble_eq_true rfl, Nat.le_of_ble_eq_true rfl⟩ (fun v M9 H locs hp hw => ?_)
      obtain ⟨rfl, hMe⟩ := hp
      rw [hMe] at hw
      refine W.eq (g2 := F0 m 59 ls [.int (iI cnt), .int (iI i)]) rfl ?_
      refine zq_icmp_ge (tgt := 82) hx hb d_AL_read_59 (by decide) ⟨by omega, by omega⟩ ⟨by omega, by omega⟩ (fun hc10 => ?_) (fun hc10 => ?_)
      · have hz2 : g2 = tF := by rw [hg2, htF, show k = cnt.toNat from by omega]
        rw [hz2] at h_b
        skip
        refine lv_aload_n hx hb d_AL_read_82 rfl (lv_at hl 0 rfl) ?_
        refine lv_iconst (v := iI 0) hx hb d_AL_read_83 rfl ?_
        refine zq_put (ci := 1) (v := .int (iI 0)) (ty := .int) hx hb hts i_AL t_AL t_AL_ok n_AL hown hK hw h_o rfl 4 (by decide) (hts _ tw_69) rfl (by decide +kernel) rfl rfl (Nat.le_of_ble_eq_true rfl) d_AL_read_84 (fun M11 H locs hs ho hw => ?_)
        have h_a : M11 aA = some (cI (K 0) 48 l1) := (ho _ (zq_ne h_a h_o (by simp))).trans h_a
        have h_b : M11 bA = some (cI (K 0) 48 tF) := (ho _ (zq_ne h_b h_o (by simp))).trans h_b
        have h_c : M11 cA = some (cI (K 0) 33 ls0) := (ho _ (zq_ne h_c h_o (by simp))).trans h_c
        have h_o2 : M11 o2 = some (.inr (2, [.ref s2, .ref l2, .int (iI cnt)])) := (ho _ (zq_ne h_o2 h_o (by simp))).trans h_o2
        have h_s2 : M11 s2 = some (cI (K 0) 12 sg) := (ho _ (zq_ne h_s2 h_o (by simp))).trans h_s2
        have h_l2 : M11 l2 = some (cI (K 0) 48 lb) := (ho _ (zq_ne h_l2 h_o (by simp))).trans h_l2
        have h_o : M11 o = some (.inr (1, [.ref aA, .ref bA, .ref cA, .int (iI (4 * cnt)), .int (iI 0)])) := hs
        have hfr : ∀ q, q ≠ o → q ≠ aA → q ≠ bA → q ≠ cA → M11 q = M q := fun q g0 g1 g2 g3 => (ho q g0).trans (hfr q g0 g1 g2 g3)
        refine lv_iconst (v := iI 0) hx hb d_AL_read_87 rfl ?_
        refine lv_istore_n (lv' := [(3, .int (iI 0)), (0, .ref o), (1, .ref o2), (2, .int (iI cir))]) hx hb d_AL_read_88 rfl hl (by decide) rfl (fun ls hl => ?_)
        exact hL3 _ 0 0 ls0 M11 _ _ _ (by omega) (fun i j h1 h2 h3 => by omega) (fun v => ⟨fun ⟨j, h1, h2, _⟩ => by omega, fun ⟨x, h1, h2, _⟩ => by omega⟩) hi3 (Nat.lt_succ_self _) hfr h_o h_a h_b h_c h_o2 h_s2 h_l2 hw (lv_sub hl [1, 2, 3, 0] rfl)
      · have hu := zup_in (sg i)
        have hu2 := zuo_in (sg i)
        have hA1 : zA (4 * cnt) c l1 g2 ls0 := ⟨by omega, by omega, hq1, hq2, hlI, fun j => by rw [hg2]; exact zja_in (zcp_in hc4 hi2) _ j, hi3⟩
        refine lv_aload_n hx hb d_AL_read_62 rfl (lv_at hl 0 rfl) ?_
        refine lv_aload_n hx hb d_AL_read_63 rfl (lv_at hl 1 rfl) ?_
        refine lv_iload_n hx hb d_AL_read_64 rfl (lv_at hl 3 rfl) ?_
        refine zq_callV (As := [.int (iI i)]) (rest := [.ref o]) ⟨hx, hb, hml, hown, hts⟩ (c_CR_upperIn l D K Mq o2 s2 l2 cnt sg lb i h_o2 h_s2 h_l2 hC ⟨by omega, by omega⟩) (cwV 1 hts (zg_V tw_325 tw_265 tw_266 tw_2 tw_267) rfl rfl rfl (by decide +kernel) ⟨Nat.le_of_ble_eq_true rfl, Nat.le_of_ble_eq_true rfl⟩) hZ hw hA h_o2 rfl rfl rfl rfl hl.1 (Nat.le_of_ble_eq_true rfl) d_AL_read_65 ⟨Nat.le_of_ble_eq_true rfl, Nat.le_of_ble_eq_true rfl⟩ (fun v M12 H locs hp hw => ?_)
        obtain ⟨rfl, hMe⟩ := hp
        rw [hMe] at hw
        refine W.eq (g2 := F0 m 68 ls [.int (iI (4 * i + zup (sg i))), .ref o]) rfl ?_
        refine lv_aload_n hx hb d_AL_read_68 rfl (lv_at hl 1 rfl) ?_
        refine lv_iload_n hx hb d_AL_read_69 rfl (lv_at hl 3 rfl) ?_
        refine zq_callV (As := [.int (iI i)]) (rest := [.int (iI (4 * i + zup (sg i))), .ref o]) ⟨hx, hb, hml, hown, hts⟩ (c_CR_upperOut l D K Mq o2 s2 l2 cnt sg lb i h_o2 h_s2 h_l2 hC ⟨by omega, by omega⟩) (cwV 1 hts (zg_V tw_326 tw_327 tw_328 tw_2 tw_329) rfl rfl rfl (by decide +kernel) ⟨Nat.le_of_ble_eq_true rfl, Nat.le_of_ble_eq_true rfl⟩) hZ hw hA h_o2 rfl rfl rfl rfl hl.1 (Nat.le_of_ble_eq_true rfl) d_AL_read_70 ⟨Nat.le_of_ble_eq_true rfl, Nat.le_of_ble_eq_true rfl⟩ (fun v M13 H locs hp hw => ?_)
        obtain ⟨rfl, hMe⟩ := hp
        rw [hMe] at hw
        refine W.eq (g2 := F0 m 73 ls [.int (iI (4 * i + zuo (sg i))), .int (iI (4 * i + zup (sg i))), .ref o]) rfl ?_
        refine zq_callV (As := [.int (iI (4 * i + zup (sg i))), .int (iI (4 * i + zuo (sg i)))]) (rest := []) ⟨hx, hb, hml, hown, hts⟩ (c_AL_joinOver l D K Mq o aA bA cA (4 * cnt) c l1 g2 ls0 (4 * i + zup (sg i)) (4 * i + zuo (sg i)) h_o h_a h_b h_c hab hA1 ⟨by omega, by omega⟩ ⟨by omega, by omega⟩) (cwV 2 hts (zg_V tw_330 tw_332 ts_11 tw_4 tw_333) rfl rfl rfl (by decide +kernel) ⟨Nat.le_of_ble_eq_true rfl, Nat.le_of_ble_eq_true rfl⟩) hZ hw hA h_o rfl rfl rfl rfl hl.1 (Nat.le_of_ble_eq_true rfl) d_AL_read_73 ⟨Nat.le_of_ble_eq_true rfl, Nat.le_of_ble_eq_true rfl⟩ (fun v M14 H locs hp hw => ?_)
        obtain ⟨rfl, hs1, ho⟩ := hp
        have h_o : M14 o = some (.inr (1, [.ref aA, .ref bA, .ref cA, .int (iI (4 * cnt)), .int (iI c)])) := (ho _ (zq_ne h_o h_b (by simp))).trans h_o
        have h_a : M14 aA = some (cI (K 0) 48 l1) := (ho _ hab).trans h_a
        have h_c : M14 cA = some (cI (K 0) 33 ls0) := (ho _ (zq_ne h_c h_b (by simp))).trans h_c
        have h_o2 : M14 o2 = some (.inr (2, [.ref s2, .ref l2, .int (iI cnt)])) := (ho _ (zq_ne h_o2 h_b (by simp))).trans h_o2
        have h_s2 : M14 s2 = some (cI (K 0) 12 sg) := (ho _ (zq_ne h_s2 h_b (by simp))).trans h_s2
        have h_l2 : M14 l2 = some (cI (K 0) 48 lb) := (ho _ (Ne.symm hbl)).trans h_l2
        have h_b : M14 bA = some (cI (K 0) 48 (zmp g2 (4 * cnt) (g2 (4 * i + zup (sg i))) (g2 (4 * i + zuo (sg i))))) := hs1
        have hfr : ∀ q, q ≠ o → q ≠ aA → q ≠ bA → q ≠ cA → M14 q = M q := fun q g0 g1 g2 g3 => (ho q g2).trans (hfr q g0 g1 g2 g3)
        refine W.eq (g2 := F0 m 76 ls []) rfl ?_
        refine lv_iinc (v := iI (i + 1)) (lv' := [(3, .int (iI (i + 1))), (0, .ref o), (1, .ref o2), (2, .int (iI cir))]) hx hb d_AL_read_76 hl (k := 3) rfl (iI_add _ _) (by decide) rfl (fun ls hl => ?_)
        refine lv_goto (tgt := 54) hx hb d_AL_read_79 (by decide) ?_
        exact ih_hL2 (k + 1) (i + 1) (zmp g2 (4 * cnt) (g2 (4 * i + zup (sg i))) (g2 (4 * i + zuo (sg i)))) M14 _ _ _ (by omega) (by omega) (by subst hg2; subst hik; rfl) (by omega) hfr h_o h_a h_b h_c h_o2 h_s2 h_l2 hw (lv_sub hl [1, 2, 3, 0] rfl)
  have hL1 : ∀ (n : Nat) (i : Int) (g1 : Int → Int) (g2 : Int → Int) (Mq : zq_M) (H : Heap) (locs : List Loc) (ls : Array Slot), (0 ≤ i ∧ i ≤ 4 * cnt) → (∀ z, g1 z = if 0 ≤ z ∧ z < i then lb z else al z) → (∀ z, g2 z = if 0 ≤ z ∧ z < i then lb z else at0 z) → (4 * cnt - i).toNat < n → (∀ q, q ≠ o → q ≠ aA → q ≠ bA → q ≠ cA → Mq q = M q) → Mq o = some (.inr (1, [.ref aA, .ref bA, .ref cA, .int (iI (4 * cnt)), .int (iI c)])) → Mq aA = some (cI (K 0) 48 g1) → Mq bA = some (cI (K 0) 48 g2) → Mq cA = some (cI (K 0) 33 ls0) → Mq o2 = some (.inr (2, [.ref s2, .ref l2, .int (iI cnt)])) → Mq s2 = some (cI (K 0) 12 sg) → Mq l2 = some (cI (K 0) 48 lb) → zq_W D vwCl A s.heap Mq H locs → lv_has ls 4 [(0, .ref o), (1, .ref o2), (2, .int (iI cir)), (3, .int (iI i))] → W p l e ({ frames := 3, cells := 0, slots := 0, locals := 63 } : Room) s m [.ref o, .ref o2, .int (iI cir)].toArray below meth co H locs 0 0 (MQ below (zq_Q D vwCl (zT K) (P_AL_read K M o aA bA cA p0 c al at0 ls0 o2 s2 l2 cnt sg lb cir) A) [.ref o, .ref o2, .int (iI cir)].toArray s 0 0 A) (F0 m 15 ls []) := by
    intro n
    induction n with
    | zero =>
      intro i g1 g2 Mq H locs ls hi hg1 hg2 hms hfr h_o h_a h_b h_c h_o2 h_s2 h_l2 hw hl
      exact absurd hms (Nat.not_lt_zero _)
    | succ n ih_hL1 =>
      intro i g1 g2 Mq H locs ls hi hg1 hg2 hms hfr h_o h_a h_b h_c h_o2 h_s2 h_l2 hw hl
      refine lv_iload_n hx hb d_AL_read_15 rfl (lv_at hl 3 rfl) ?_
      refine lv_aload_n hx hb d_AL_read_16 rfl (lv_at hl 0 rfl) ?_
      refine zq_get hx hb hts i_AL hown hK hw h_o rfl 3 (by decide) (hts _ tw_68) rfl d_AL_read_17 ?_
      refine zq_icmp_ge (tgt := 52) hx hb d_AL_read_20 (by decide) ⟨by omega, by omega⟩ ⟨by omega, by omega⟩ (fun hc15 => ?_) (fun hc15 => ?_)
      · have hz1 : g1 = l1 := by rw [hl1]; exact funext fun z => by rw [hg1, show i = 4 * cnt from by omega]; rfl
        have hz2 : g2 = zja sg (zcp lb at0 (4 * cnt)) (4 * cnt) 0 := funext fun z => by rw [hg2, show i = 4 * cnt from by omega]; rfl
        rw [hz1] at h_a
        skip
        refine lv_iconst (v := iI 0) hx hb d_AL_read_52 rfl ?_
        refine lv_istore_n (lv' := [(3, .int (iI 0)), (0, .ref o), (1, .ref o2), (2, .int (iI cir))]) hx hb d_AL_read_53 rfl hl (by decide) rfl (fun ls hl => ?_)
        exact hL2 _ 0 0 g2 Mq _ _ _ rfl (by omega) hz2 (Nat.lt_succ_self _) hfr h_o h_a h_b h_c h_o2 h_s2 h_l2 hw (lv_sub hl [1, 2, 3, 0] rfl)
      · refine lv_aload_n hx hb d_AL_read_23 rfl (lv_at hl 0 rfl) ?_
        refine zq_get hx hb hts i_AL hown hK hw h_o rfl 0 (by decide) (hts _ tw_65) rfl d_AL_read_24 ?_
        refine lv_iload_n hx hb d_AL_read_27 rfl (lv_at hl 3 rfl) ?_
        refine lv_aload_n hx hb d_AL_read_28 rfl (lv_at hl 1 rfl) ?_
        refine lv_iload_n hx hb d_AL_read_29 rfl (lv_at hl 3 rfl) ?_
        refine zq_callV (As := [.int (iI i)]) (rest := [.int (iI i), .ref aA]) ⟨hx, hb, hml, hown, hts⟩ (c_CR_labelAt l D K Mq o2 s2 l2 cnt sg lb i h_o2 h_s2 h_l2 hC ⟨by omega, by omega⟩) (cwV 1 hts (zg_V tw_320 tw_248 tw_249 tw_2 tw_250) rfl rfl rfl (by decide +kernel) ⟨Nat.le_of_ble_eq_true rfl, Nat.le_of_ble_eq_true rfl⟩) hZ hw hA h_o2 rfl rfl rfl rfl hl.1 (Nat.le_of_ble_eq_true rfl) d_AL_read_30 ⟨Nat.le_of_ble_eq_true rfl, Nat.le_of_ble_eq_true rfl⟩ (fun v M16 H locs hp hw => ?_)
        obtain ⟨rfl, hMe⟩ := hp
        rw [hMe] at hw
        refine W.eq (g2 := F0 m 33 ls [.int (iI (lb i)), .int (iI i), .ref aA]) rfl ?_
        refine zq_iast hx hb hK hw 0 h_a rfl (by omega) (by omega) (by decide) d_AL_read_33 (fun M17 H locs hs ho hw => ?_)
        have h_o : M17 o = some (.inr (1, [.ref aA, .ref bA, .ref cA, .int (iI (4 * cnt)), .int (iI c)])) := (ho _ (zq_ne h_o h_a (by simp))).trans h_o
        have h_b : M17 bA = some (cI (K 0) 48 g2) := (ho _ (Ne.symm hab)).trans h_b
        have h_c : M17 cA = some (cI (K 0) 33 ls0) := (ho _ (zq_ne h_c h_a (by simp))).trans h_c
        have h_o2 : M17 o2 = some (.inr (2, [.ref s2, .ref l2, .int (iI cnt)])) := (ho _ (zq_ne h_o2 h_a (by simp))).trans h_o2
        have h_s2 : M17 s2 = some (cI (K 0) 12 sg) := (ho _ (zq_ne h_s2 h_a (by simp))).trans h_s2
        have h_l2 : M17 l2 = some (cI (K 0) 48 lb) := (ho _ (Ne.symm hal)).trans h_l2
        have h_a : M17 aA = some (cI (K 0) 48 (zu g1 i (lb i))) := hs
        have hfr : ∀ q, q ≠ o → q ≠ aA → q ≠ bA → q ≠ cA → M17 q = M q := fun q g0 g1 g2 g3 => (ho q g1).trans (hfr q g0 g1 g2 g3)
        refine lv_aload_n hx hb d_AL_read_34 rfl (lv_at hl 0 rfl) ?_
        refine zq_get hx hb hts i_AL hown hK hw h_o rfl 1 (by decide) (hts _ tw_66) rfl d_AL_read_35 ?_
        refine lv_iload_n hx hb d_AL_read_38 rfl (lv_at hl 3 rfl) ?_
        refine lv_aload_n hx hb d_AL_read_39 rfl (lv_at hl 0 rfl) ?_
        refine zq_get hx hb hts i_AL hown hK hw h_o rfl 0 (by decide) (hts _ tw_65) rfl d_AL_read_40 ?_
        refine lv_iload_n hx hb d_AL_read_43 rfl (lv_at hl 3 rfl) ?_
        refine zq_iald hx hb hK hw 0 h_a rfl (by omega) (by omega) (by decide) d_AL_read_44 ?_
        rw [show ((zu g1 i (lb i)) i : Int) = lb i from (zu_self _ _ _)]
        refine zq_iast hx hb hK hw 0 h_b rfl (by omega) (by omega) (by decide) d_AL_read_45 (fun M18 H locs hs ho hw => ?_)
        have h_o : M18 o = some (.inr (1, [.ref aA, .ref bA, .ref cA, .int (iI (4 * cnt)), .int (iI c)])) := (ho _ (zq_ne h_o h_b (by simp))).trans h_o
        have h_a : M18 aA = some (cI (K 0) 48 (zu g1 i (lb i))) := (ho _ hab).trans h_a
        have h_c : M18 cA = some (cI (K 0) 33 ls0) := (ho _ (zq_ne h_c h_b (by simp))).trans h_c
        have h_o2 : M18 o2 = some (.inr (2, [.ref s2, .ref l2, .int (iI cnt)])) := (ho _ (zq_ne h_o2 h_b (by simp))).trans h_o2
        have h_s2 : M18 s2 = some (cI (K 0) 12 sg) := (ho _ (zq_ne h_s2 h_b (by simp))).trans h_s2
        have h_l2 : M18 l2 = some (cI (K 0) 48 lb) := (ho _ (Ne.symm hbl)).trans h_l2
        have h_b : M18 bA = some (cI (K 0) 48 (zu g2 i (lb i))) := hs
        have hfr : ∀ q, q ≠ o → q ≠ aA → q ≠ bA → q ≠ cA → M18 q = M q := fun q g0 g1 g2 g3 => (ho q g2).trans (hfr q g0 g1 g2 g3)
        refine lv_iinc (v := iI (i + 1)) (lv' := [(3, .int (iI (i + 1))), (0, .ref o), (1, .ref o2), (2, .int (iI cir))]) hx hb d_AL_read_46 hl (k := 3) rfl (iI_add _ _) (by decide) rfl (fun ls hl => ?_)
        refine lv_goto (tgt := 15) hx hb d_AL_read_49 (by decide) ?_
        exact ih_hL1 (i + 1) (zu g1 i (lb i)) (zu g2 i (lb i)) M18 _ _ _ (by omega) (zcp_step hg1 (by omega)) (zcp_step hg2 (by omega)) (by omega) hfr h_o h_a h_b h_c h_o2 h_s2 h_l2 hw (lv_sub hl [1, 2, 3, 0] rfl)
  refine lv_aload_n hx hb d_AL_read_0 rfl (lv_at hl 0 rfl) ?_
  refine lv_aload_n hx hb d_AL_read_1 rfl (lv_at hl 1 rfl) ?_
  refine zq_callV (As := []) (rest := [.ref o]) ⟨hx, hb, hml, hown, hts⟩ (c_CR_places l D K M o2 s2 l2 cnt sg lb  h_o2 h_s2 h_l2 hC ) (cwV 0 hts (zg_V tw_318 tw_237 tw_238 tw_2 tw_239) rfl rfl rfl (by decide +kernel) ⟨Nat.le_of_ble_eq_true rfl, Nat.le_of_ble_eq_true rfl⟩) hZ hw hA h_o2 rfl rfl rfl rfl hl.1 (Nat.le_of_ble_eq_true rfl) d_AL_read_2 ⟨Nat.le_of_ble_eq_true rfl, Nat.le_of_ble_eq_true rfl⟩ (fun v M19 H locs hp hw => ?_)
  obtain ⟨rfl, hMe⟩ := hp
  rw [hMe] at hw
  refine W.eq (g2 := F0 m 5 ls [.int (iI (4 * cnt)), .ref o]) rfl ?_
  refine lv_bipush (v := iI 48) hx hb d_AL_read_5 (by decide) ?_
  refine zq_min hx hb (hml.trans hl.1.symm) hown (hts _ tw_319) (hts _ tw_241) (hts _ tw_11) (hts _ tw_242) (Nat.le_of_ble_eq_true rfl) (Nat.le_of_ble_eq_true rfl) (Nat.zero_le _) (Nat.zero_le _) ⟨by omega, by omega⟩ (by decide) d_AL_read_7 ?_
  rw [show (min (4 * cnt) 48 : Int) = 4 * cnt from (by omega)]
  refine zq_put (ci := 1) (v := .int (iI (4 * cnt))) (ty := .int) hx hb hts i_AL t_AL t_AL_ok n_AL hown hK hw h_o rfl 3 (by decide) (hts _ tw_68) rfl (by decide +kernel) rfl rfl (Nat.le_of_ble_eq_true rfl) d_AL_read_10 (fun M20 H locs hs ho hw => ?_)
  have h_a : M20 aA = some (cI (K 0) 48 al) := (ho _ (zq_ne h_a h_o (by simp))).trans h_a
  have h_b : M20 bA = some (cI (K 0) 48 at0) := (ho _ (zq_ne h_b h_o (by simp))).trans h_b
  have h_c : M20 cA = some (cI (K 0) 33 ls0) := (ho _ (zq_ne h_c h_o (by simp))).trans h_c
  have h_o2 : M20 o2 = some (.inr (2, [.ref s2, .ref l2, .int (iI cnt)])) := (ho _ (zq_ne h_o2 h_o (by simp))).trans h_o2
  have h_s2 : M20 s2 = some (cI (K 0) 12 sg) := (ho _ (zq_ne h_s2 h_o (by simp))).trans h_s2
  have h_l2 : M20 l2 = some (cI (K 0) 48 lb) := (ho _ (zq_ne h_l2 h_o (by simp))).trans h_l2
  have h_o : M20 o = some (.inr (1, [.ref aA, .ref bA, .ref cA, .int (iI (4 * cnt)), .int (iI c)])) := hs
  have hfr : ∀ q, q ≠ o → q ≠ aA → q ≠ bA → q ≠ cA → M20 q = M q := fun q g0 g1 g2 g3 => (ho q g0).trans (hfr q g0 g1 g2 g3)
  refine lv_iconst (v := iI 0) hx hb d_AL_read_13 rfl ?_
  refine lv_istore_n (lv' := [(3, .int (iI 0)), (0, .ref o), (1, .ref o2), (2, .int (iI cir))]) hx hb d_AL_read_14 rfl hl (by decide) rfl (fun ls hl => ?_)
  exact hL1 _ 0 al at0 M20 _ _ _ (by omega) (fun z => by rw [if_neg (by omega)]) (fun z => by rw [if_neg (by omega)]) (Nat.lt_succ_self _) hfr h_o h_a h_b h_c h_o2 h_s2 h_l2 hw (lv_sub hl [1, 2, 3, 0] rfl)
abbrev P_AL_init (K : Nat → ClassId) (M : zq_M) (o : Nat) : Option Value → zq_M → Prop := fun v M' => v = none ∧ ∃ aA bA cA, M aA = none ∧ M bA = none ∧ M cA = none ∧ aA ≠ bA ∧ M' o = some (.inr (1, [.ref aA, .ref bA, .ref cA, .int (iI 0), .int (iI 0)])) ∧ M' aA = some (cI (K 0) 48 (fun _ => 0)) ∧ M' bA = some (cI (K 0) 48 (fun _ => 0)) ∧ M' cA = some (cI (K 0) 33 (fun _ => 0)) ∧ ∀ q, q ≠ o → q ≠ aA → q ≠ bA → q ≠ cA → M' q = M q
set_option maxHeartbeats 4000000 in
set_option maxRecDepth 100000 in
theorem c_AL_init (l : Launch) (D : va_G) (K : Nat → ClassId) (M : zq_M) (o : Nat) (h_o : M o = some (.inr (1, [.null, .null, .null, .int (iI 0), .int (iI 0)]))) : zq_Met l y_AL_init (.code y_AL_init b_AL_init 1 none :: lw_gd) { frames := 1, cells := 3, slots := 129, locals := 12 } D vwCl (zT K) [.ref o] M (P_AL_init K M o) 3 129 := by
  refine zq_start (cc := b_AL_init) (maxL := 1) (ret := none) (by decide) rfl (Nat.le_of_ble_eq_true rfl) ?_
  intro p e s m below meth co A ls hx hb hr hml hts hown hnm hlocks hA hZ hw hl
  have hts : ∀ w ∈ lw_gd, w.before [.ref o].toArray s = true := fun w h => hts w (List.mem_cons_of_mem _ h)
  have hown : s.vm.findClass R_AL = some m.cls := hown
  have hK := hZ.1
  have hnm : meth.name = "<init>" := hnm
  have hl : lv_has ls 1 [(0, .ref o)] := hl
  have hfr : ∀ q, q ≠ o → M q = M q := fun q _ => rfl
  refine lv_aload_n hx hb d_AL_init_0 rfl (lv_at hl 0 rfl) ?_
  refine W.objInit hx hb hown (hts _ tw_64) (hts _ tw_20) (hts _ tw_21) rfl (by rw [hml]; exact hl.1) rfl d_AL_init_1 (Nat.le_of_ble_eq_true rfl) (Nat.le_of_ble_eq_true rfl) ?_
  refine W.eq (g2 := F0 m 4 ls []) rfl ?_
  refine lv_aload_n hx hb d_AL_init_4 rfl (lv_at hl 0 rfl) ?_
  refine lv_bipush (v := iI 48) hx hb d_AL_init_5 (by decide) ?_
  refine zq_newI hx hb (hts _ tw_38) hK hw hA 0 rfl (N' := 48) rfl (by decide) (Nat.le_of_ble_eq_true rfl) (Nat.le_of_ble_eq_true rfl) d_AL_init_7 (fun aA M1 H hqaA hs ho hw => ?_)
  have hmaA : M aA = none := (hfr aA (zq_nn hqaA h_o).symm).symm.trans hqaA
  have h_o : M1 o = some (.inr (1, [.null, .null, .null, .int (iI 0), .int (iI 0)])) := (ho _ (zq_nn hqaA h_o)).trans h_o
  have h_aA : M1 aA = some (cI (K 0) 48 (fun _ => 0)) := hs
  have hfr : ∀ x, x ≠ o → x ≠ aA → M1 x = M x := fun x g0 g1 => (ho x g1).trans (hfr x g0)
  refine zq_putF (ci := 1) (v := .ref aA) (ty := .array .int) hx hb hts i_AL t_AL t_AL_ok n_AL hown hK hw h_o rfl 0 (by decide) (hts _ tw_65) rfl hnm rfl (by decide +kernel) rfl rfl (Nat.le_of_ble_eq_true rfl) d_AL_init_9 (fun M2 H locs hs ho hw => ?_)
  have h_aA : M2 aA = some (cI (K 0) 48 (fun _ => 0)) := (ho _ (zq_ne h_aA h_o (by simp))).trans h_aA
  have h_o : M2 o = some (.inr (1, [.ref aA, .null, .null, .int (iI 0), .int (iI 0)])) := hs
  have hfr : ∀ q, q ≠ o → q ≠ aA → M2 q = M q := fun q g0 g1 => (ho q g0).trans (hfr q g0 g1)
  refine lv_aload_n hx hb d_AL_init_12 rfl (lv_at hl 0 rfl) ?_
  refine lv_bipush (v := iI 48) hx hb d_AL_init_13 (by decide) ?_
  refine zq_newI hx hb (hts _ tw_38) hK hw hA 0 rfl (N' := 48) rfl (by decide) (Nat.le_of_ble_eq_true rfl) (Nat.le_of_ble_eq_true rfl) d_AL_init_15 (fun bA M3 H hqbA hs ho hw => ?_)
  have hmbA : M bA = none := (hfr bA (zq_nn hqbA h_o).symm (zq_nn hqbA h_aA).symm).symm.trans hqbA
  have h_o : M3 o = some (.inr (1, [.ref aA, .null, .null, .int (iI 0), .int (iI 0)])) := (ho _ (zq_nn hqbA h_o)).trans h_o
  have h_aA : M3 aA = some (cI (K 0) 48 (fun _ => 0)) := (ho _ (zq_nn hqbA h_aA)).trans h_aA
  have h_bA : M3 bA = some (cI (K 0) 48 (fun _ => 0)) := hs
  have hfr : ∀ x, x ≠ o → x ≠ aA → x ≠ bA → M3 x = M x := fun x g0 g1 g2 => (ho x g2).trans (hfr x g0 g1)
  have hab : aA ≠ bA := zq_nn hqbA (by assumption)
  refine zq_putF (ci := 1) (v := .ref bA) (ty := .array .int) hx hb hts i_AL t_AL t_AL_ok n_AL hown hK hw h_o rfl 1 (by decide) (hts _ tw_66) rfl hnm rfl (by decide +kernel) rfl rfl (Nat.le_of_ble_eq_true rfl) d_AL_init_17 (fun M4 H locs hs ho hw => ?_)
  have h_aA : M4 aA = some (cI (K 0) 48 (fun _ => 0)) := (ho _ (zq_ne h_aA h_o (by simp))).trans h_aA
  have h_bA : M4 bA = some (cI (K 0) 48 (fun _ => 0)) := (ho _ (zq_ne h_bA h_o (by simp))).trans h_bA
  have h_o : M4 o = some (.inr (1, [.ref aA, .ref bA, .null, .int (iI 0), .int (iI 0)])) := hs
  have hfr : ∀ q, q ≠ o → q ≠ aA → q ≠ bA → M4 q = M q := fun q g0 g1 g2 => (ho q g0).trans (hfr q g0 g1 g2)
  refine lv_aload_n hx hb d_AL_init_20 rfl (lv_at hl 0 rfl) ?_
  refine lv_bipush (v := iI 33) hx hb d_AL_init_21 (by decide) ?_
  refine zq_newI hx hb (hts _ tw_38) hK hw hA 0 rfl (N' := 33) rfl (by decide) (Nat.le_of_ble_eq_true rfl) (Nat.le_of_ble_eq_true rfl) d_AL_init_23 (fun cA M5 H hqcA hs ho hw => ?_)
  have hmcA : M cA = none := (hfr cA (zq_nn hqcA h_o).symm (zq_nn hqcA h_aA).symm (zq_nn hqcA h_bA).symm).symm.trans hqcA
  have h_o : M5 o = some (.inr (1, [.ref aA, .ref bA, .null, .int (iI 0), .int (iI 0)])) := (ho _ (zq_nn hqcA h_o)).trans h_o
  have h_aA : M5 aA = some (cI (K 0) 48 (fun _ => 0)) := (ho _ (zq_nn hqcA h_aA)).trans h_aA
  have h_bA : M5 bA = some (cI (K 0) 48 (fun _ => 0)) := (ho _ (zq_nn hqcA h_bA)).trans h_bA
  have h_cA : M5 cA = some (cI (K 0) 33 (fun _ => 0)) := hs
  have hfr : ∀ x, x ≠ o → x ≠ aA → x ≠ bA → x ≠ cA → M5 x = M x := fun x g0 g1 g2 g3 => (ho x g3).trans (hfr x g0 g1 g2)
  refine zq_putF (ci := 1) (v := .ref cA) (ty := .array .int) hx hb hts i_AL t_AL t_AL_ok n_AL hown hK hw h_o rfl 2 (by decide) (hts _ tw_67) rfl hnm rfl (by decide +kernel) rfl rfl (Nat.le_of_ble_eq_true rfl) d_AL_init_25 (fun M6 H locs hs ho hw => ?_)
  have h_aA : M6 aA = some (cI (K 0) 48 (fun _ => 0)) := (ho _ (zq_ne h_aA h_o (by simp))).trans h_aA
  have h_bA : M6 bA = some (cI (K 0) 48 (fun _ => 0)) := (ho _ (zq_ne h_bA h_o (by simp))).trans h_bA
  have h_cA : M6 cA = some (cI (K 0) 33 (fun _ => 0)) := (ho _ (zq_ne h_cA h_o (by simp))).trans h_cA
  have h_o : M6 o = some (.inr (1, [.ref aA, .ref bA, .ref cA, .int (iI 0), .int (iI 0)])) := hs
  have hfr : ∀ q, q ≠ o → q ≠ aA → q ≠ bA → q ≠ cA → M6 q = M q := fun q g0 g1 g2 g3 => (ho q g0).trans (hfr q g0 g1 g2 g3)
  refine lv_aload_n hx hb d_AL_init_28 rfl (lv_at hl 0 rfl) ?_
  refine lv_iconst (v := iI 0) hx hb d_AL_init_29 rfl ?_
  refine zq_put (ci := 1) (v := .int (iI 0)) (ty := .int) hx hb hts i_AL t_AL t_AL_ok n_AL hown hK hw h_o rfl 3 (by decide) (hts _ tw_68) rfl (by decide +kernel) rfl rfl (Nat.le_of_ble_eq_true rfl) d_AL_init_30 (fun M7 H locs hs ho hw => ?_)
  have h_aA : M7 aA = some (cI (K 0) 48 (fun _ => 0)) := (ho _ (zq_ne h_aA h_o (by simp))).trans h_aA
  have h_bA : M7 bA = some (cI (K 0) 48 (fun _ => 0)) := (ho _ (zq_ne h_bA h_o (by simp))).trans h_bA
  have h_cA : M7 cA = some (cI (K 0) 33 (fun _ => 0)) := (ho _ (zq_ne h_cA h_o (by simp))).trans h_cA
  have h_o : M7 o = some (.inr (1, [.ref aA, .ref bA, .ref cA, .int (iI 0), .int (iI 0)])) := hs
  have hfr : ∀ q, q ≠ o → q ≠ aA → q ≠ bA → q ≠ cA → M7 q = M q := fun q g0 g1 g2 g3 => (ho q g0).trans (hfr q g0 g1 g2 g3)
  refine lv_aload_n hx hb d_AL_init_33 rfl (lv_at hl 0 rfl) ?_
  refine lv_iconst (v := iI 0) hx hb d_AL_init_34 rfl ?_
  refine zq_put (ci := 1) (v := .int (iI 0)) (ty := .int) hx hb hts i_AL t_AL t_AL_ok n_AL hown hK hw h_o rfl 4 (by decide) (hts _ tw_69) rfl (by decide +kernel) rfl rfl (Nat.le_of_ble_eq_true rfl) d_AL_init_35 (fun M8 H locs hs ho hw => ?_)
  have h_aA : M8 aA = some (cI (K 0) 48 (fun _ => 0)) := (ho _ (zq_ne h_aA h_o (by simp))).trans h_aA
  have h_bA : M8 bA = some (cI (K 0) 48 (fun _ => 0)) := (ho _ (zq_ne h_bA h_o (by simp))).trans h_bA
  have h_cA : M8 cA = some (cI (K 0) 33 (fun _ => 0)) := (ho _ (zq_ne h_cA h_o (by simp))).trans h_cA
  have h_o : M8 o = some (.inr (1, [.ref aA, .ref bA, .ref cA, .int (iI 0), .int (iI 0)])) := hs
  have hfr : ∀ q, q ≠ o → q ≠ aA → q ≠ bA → q ≠ cA → M8 q = M q := fun q g0 g1 g2 g3 => (ho q g0).trans (hfr q g0 g1 g2 g3)
  exact zq_vret hx hb hr hlocks hZ hw ⟨rfl, aA, bA, cA, hmaA, hmbA, hmcA, hab, h_o, h_aA, h_bA, h_cA, hfr⟩ d_AL_init_38
