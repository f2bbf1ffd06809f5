abbrev P_ET_read (K : Nat → ClassId) (M : zq_M) (o : Nat) (gA : Nat) (kA : Nat) (ra : Int → Nat) (rb : Int → Nat) (rw0 : Int) (co0 : Int) (F : Int → Int → Int) (G : Int → Int → Int) (o2 : Nat) (s2 : Nat) (l2 : Nat) (cnt : Int) (sg : Int → Int) (lb : Int → Int) (o3 : Nat) (aA : Nat) (bA : Nat) (cA : Nat) (cc0 : Int) (al : Int → Int) (at0 : Int → Int) (ls0 : Int → Int) (N : Int → Int) : Option Value → zq_M → Prop := fun v M' => v = none ∧ M' o = some (.inr (5, [.ref gA, .ref kA, .int (iI cnt), .int (iI cc0)])) ∧ zG K M' gA ra (fun k => if 0 ≤ k ∧ k < cnt then zrc sg N k else F k) ∧ zG K M' kA rb (fun k => if 0 ≤ k ∧ k < cnt then zrt sg N k else G k) ∧ ∀ q, q ≠ o → (∀ i, 0 ≤ i → i < 12 → q ≠ ra i) → (∀ i, 0 ≤ i → i < 12 → q ≠ rb i) → M' q = M q
set_option maxHeartbeats 4000000 in
set_option maxRecDepth 100000 in
theorem c_ET_read (l : Launch) (D : va_G) (K : Nat → ClassId) (M : zq_M) (o : Nat) (gA : Nat) (kA : Nat) (ra : Int → Nat) (rb : Int → Nat) (rw0 : Int) (co0 : Int) (F : Int → Int → Int) (G : Int → Int → Int) (o2 : Nat) (s2 : Nat) (l2 : Nat) (cnt : Int) (sg : Int → Int) (lb : Int → Int) (o3 : Nat) (aA : Nat) (bA : Nat) (cA : Nat) (cc0 : Int) (al : Int → Int) (at0 : Int → Int) (ls0 : Int → Int) (N : Int → Int) (h_o : M o = some (.inr (5, [.ref gA, .ref kA, .int (iI rw0), .int (iI co0)]))) (hG1 : zG K M gA ra F) (hG2 : zG K M kA rb G) (hE : zE rw0 co0 ra rb F G) (h_o2 : M o2 = some (.inr (2, [.ref s2, .ref l2, .int (iI cnt)]))) (h_s2 : M s2 = some (cI (K 0) 12 sg)) (h_l2 : M l2 = some (cI (K 0) 48 lb)) (hC : zC cnt sg lb) (h_o3 : M o3 = some (.inr (1, [.ref aA, .ref bA, .ref cA, .int (iI (4 * cnt)), .int (iI cc0)]))) (h_a3 : M aA = some (cI (K 0) 48 al)) (h_b3 : M bA = some (cI (K 0) 48 at0)) (h_c3 : M cA = some (cI (K 0) 33 ls0)) (hab : aA ≠ bA) (hA0 : zA (4 * cnt) cc0 al at0 ls0) (hrc : ∀ i, 0 ≤ i → i < 12 → ra i ≠ cA ∧ rb i ≠ cA) (hN : ∀ x, 0 ≤ x → x < 4 * cnt → 0 ≤ N x ∧ N x < cc0 ∧ zNum ls0 cc0 (at0 x) (N x)) : zq_Met l y_ET_read (.code y_ET_read b_ET_read 7 none :: lw_gd) { frames := 3, cells := 0, slots := 0, locals := 63 } D vwCl (zT K) [.ref o, .ref o2, .ref o3] M (P_ET_read K M o gA kA ra rb rw0 co0 F G o2 s2 l2 cnt sg lb o3 aA bA cA cc0 al at0 ls0 N) 0 0 := by
  refine zq_start (cc := b_ET_read) (maxL := 7) (ret := none) (by decide) rfl (Nat.le_of_ble_eq_true rfl) ?_
  intro p e s m below meth co A ls hx hb hr hml hts hown hnm hlocks hA hZ hw hl
  have hts : ∀ w ∈ lw_gd, w.before [.ref o, .ref o2, .ref o3].toArray s = true := fun w h => hts w (List.mem_cons_of_mem _ h)
  have hown : s.vm.findClass R_ET = some m.cls := hown
  have hK := hZ.1
  have hl : lv_has ls 7 [(0, .ref o), (1, .ref o2), (2, .ref o3)] := hl
  have hfr : ∀ q, q ≠ o → (∀ i, 0 ≤ i → i < 12 → q ≠ ra i) → (∀ i, 0 ≤ i → i < 12 → q ≠ rb i) → M q = M q := fun q _ _ _ => rfl
  obtain ⟨he1, he2, he3, he4, he5, he6, he7⟩ := id hE
  have h_g := hG1.1
  have h_k := hG2.1
  have hO0 := h_o
  obtain ⟨hc1, hc2, hc3, hc4⟩ := id hC
  obtain ⟨hp1, hp2, hq1, hq2, hi1, hi2, hi3⟩ := id hA0
  have hL : ∀ (n : Nat) (i : Int) (F1 : Int → Int → Int) (G1 : Int → Int → Int) (Mq : zq_M) (H : Heap) (locs : List Loc) (ls : Array Slot), (0 ≤ i ∧ i ≤ cnt) → (zG K Mq gA ra F1) → (zG K Mq kA rb G1) → (∀ k, F1 k = if 0 ≤ k ∧ k < i then zrc sg N k else F k) → (∀ k, G1 k = if 0 ≤ k ∧ k < i then zrt sg N k else G k) → (cnt - i).toNat < n → (∀ q, q ≠ o → (∀ i, 0 ≤ i → i < 12 → q ≠ ra i) → (∀ i, 0 ≤ i → i < 12 → q ≠ rb i) → Mq q = M q) → Mq o = some (.inr (5, [.ref gA, .ref kA, .int (iI cnt), .int (iI cc0)])) → Mq gA = some (cQ (K 4) 12 (fun i => some (ra i))) → Mq kA = some (cQ (K 4) 12 (fun i => some (rb i))) → Mq o2 = some (.inr (2, [.ref s2, .ref l2, .int (iI cnt)])) → Mq s2 = some (cI (K 0) 12 sg) → Mq l2 = some (cI (K 0) 48 lb) → Mq o3 = some (.inr (1, [.ref aA, .ref bA, .ref cA, .int (iI (4 * cnt)), .int (iI cc0)])) → Mq aA = some (cI (K 0) 48 al) → Mq bA = some (cI (K 0) 48 at0) → Mq cA = some (cI (K 0) 33 ls0) → zq_W D vwCl A s.heap Mq H locs → lv_has ls 7 [(0, .ref o), (1, .ref o2), (2, .ref o3), (3, .int (iI i))] → W p l e ({ frames := 3, cells := 0, slots := 0, locals := 63 } : Room) s m [.ref o, .ref o2, .ref o3].toArray below meth co H locs 0 0 (MQ below (zq_Q D vwCl (zT K) (P_ET_read K M o gA kA ra rb rw0 co0 F G o2 s2 l2 cnt sg lb o3 aA bA cA cc0 al at0 ls0 N) A) [.ref o, .ref o2, .ref o3].toArray s 0 0 A) (F0 m 28 ls []) := by
    intro n
    induction n with
    | zero =>
      intro i F1 G1 Mq H locs ls hi hF hG hF1 hG1q hms hfr h_o h_g h_k h_o2 h_s2 h_l2 h_o3 h_a3 h_b3 h_c3 hw hl
      exact absurd hms (Nat.not_lt_zero _)
    | succ n ih_hL =>
      intro i F1 G1 Mq H locs ls hi hF hG hF1 hG1q hms hfr h_o h_g h_k h_o2 h_s2 h_l2 h_o3 h_a3 h_b3 h_c3 hw hl
      refine lv_iload_n hx hb d_ET_read_28 rfl (lv_at hl 3 rfl) ?_
      refine lv_aload_n hx hb d_ET_read_29 rfl (lv_at hl 0 rfl) ?_
      refine zq_get hx hb hts i_ET hown hK hw h_o rfl 2 (by decide) (hts _ tw_91) rfl d_ET_read_30 ?_
      refine zq_icmp_ge (tgt := 154) hx hb d_ET_read_33 (by decide) ⟨by omega, by omega⟩ ⟨by omega, by omega⟩ (fun hc1 => ?_) (fun hc1 => ?_)
      · exact zq_vret hx hb hr hlocks hZ hw ⟨rfl, h_o, by rw [show (fun k => if 0 ≤ k ∧ k < cnt then zrc sg N k else F k) = F1 from funext fun k => by rw [hF1, show i = cnt from by omega]]; exact hF, by rw [show (fun k => if 0 ≤ k ∧ k < cnt then zrt sg N k else G k) = G1 from funext fun k => by rw [hG1q, show i = cnt from by omega]]; exact hG, hfr⟩ d_ET_read_154
      · have hfb : ∀ q, q ≠ (ra i) → q ≠ (rb i) → Mq q = Mq q := fun q _ _ => rfl
        have h_r : Mq (ra i) = some (cI (K 0) 33 (F1 i)) := hF.2.1 i (by omega) (by omega)
        have h_t : Mq (rb i) = some (cI (K 0) 33 (G1 i)) := hG.2.1 i (by omega) (by omega)
        have hY1 := h_r
        have hY2 := h_t
        obtain ⟨hn0a, hn0b, hn0c⟩ := hN (4 * i) (by omega) (by omega)
        obtain ⟨hn2a, hn2b, hn2c⟩ := hN (4 * i + 2) (by omega) (by omega)
        have hu := zup_in (sg i)
        obtain ⟨hn3a, hn3b, hn3c⟩ := hN (4 * i + zup (sg i)) (by omega) (by omega)
        refine lv_aload_n hx hb d_ET_read_36 rfl (lv_at hl 0 rfl) ?_
        refine zq_get hx hb hts i_ET hown hK hw h_o rfl 0 (by decide) (hts _ tw_89) rfl d_ET_read_37 ?_
        refine lv_iload_n hx hb d_ET_read_40 rfl (lv_at hl 3 rfl) ?_
        refine zq_aald hx hb hK hw 4 rfl h_g rfl (by omega) (by omega) (by decide) rfl d_ET_read_41 ?_
        refine lv_iconst (v := iI 0) hx hb d_ET_read_42 rfl ?_
        refine zq_callS (b := 0) (C := "") (As := [.ref (ra i), .int (iI 0)]) (rest := []) ⟨hx, hb, hml, hown, hts⟩ (c_JA_fill l D K Mq (ra i) 33 (F1 i) 0 h_r (by decide)) (va_cwS 2 hts (zg_T tw_351 tw_289 tw_12 tw_290) rfl rfl rfl (by decide +kernel) ⟨Nat.le_of_ble_eq_true rfl, Nat.le_of_ble_eq_true rfl⟩) hZ hw hA rfl rfl hl.1 (Nat.le_of_ble_eq_true rfl) d_ET_read_43 ⟨Nat.le_of_ble_eq_true rfl, Nat.le_of_ble_eq_true rfl⟩ (fun v M2 H locs hp hw => ?_)
        obtain ⟨rfl, hs1, ho⟩ := hp
        have h_o : M2 o = some (.inr (5, [.ref gA, .ref kA, .int (iI cnt), .int (iI cc0)])) := (ho _ (zq_ne h_o h_r (by simp))).trans h_o
        have h_g : M2 gA = some (cQ (K 4) 12 (fun i => some (ra i))) := (ho _ (zq_ne h_g h_r (by simp))).trans h_g
        have h_k : M2 kA = some (cQ (K 4) 12 (fun i => some (rb i))) := (ho _ (zq_ne h_k h_r (by simp))).trans h_k
        have h_o2 : M2 o2 = some (.inr (2, [.ref s2, .ref l2, .int (iI cnt)])) := (ho _ (zq_ne h_o2 h_r (by simp))).trans h_o2
        have h_s2 : M2 s2 = some (cI (K 0) 12 sg) := (ho _ (zq_ne h_s2 h_r (by simp))).trans h_s2
        have h_l2 : M2 l2 = some (cI (K 0) 48 lb) := (ho _ (zq_ne h_l2 h_r (by simp))).trans h_l2
        have h_o3 : M2 o3 = some (.inr (1, [.ref aA, .ref bA, .ref cA, .int (iI (4 * cnt)), .int (iI cc0)])) := (ho _ (zq_ne h_o3 h_r (by simp))).trans h_o3
        have h_a3 : M2 aA = some (cI (K 0) 48 al) := (ho _ (zq_ne h_a3 h_r (by simp))).trans h_a3
        have h_b3 : M2 bA = some (cI (K 0) 48 at0) := (ho _ (zq_ne h_b3 h_r (by simp))).trans h_b3
        have h_c3 : M2 cA = some (cI (K 0) 33 ls0) := (ho _ (Ne.symm (hrc i (by omega) (by omega)).1)).trans h_c3
        have h_t : M2 (rb i) = some (cI (K 0) 33 (G1 i)) := (ho _ (Ne.symm (he7 i i (by omega) (by omega) (by omega) (by omega)))).trans h_t
        have h_r : M2 (ra i) = some (cI (K 0) 33 (fun _ => 0)) := hs1
        have hfr : ∀ q, q ≠ o → (∀ i, 0 ≤ i → i < 12 → q ≠ ra i) → (∀ i, 0 ≤ i → i < 12 → q ≠ rb i) → M2 q = M q := fun q g0 g1 g2 => (ho q (g1 i (by omega) (by omega))).trans (hfr q g0 g1 g2)
        have hfb : ∀ q, q ≠ (ra i) → q ≠ (rb i) → M2 q = Mq q := fun q g0 g1 => (ho q g0).trans (hfb q g0 g1)
        refine W.eq (g2 := F0 m 46 ls []) rfl ?_
        refine lv_aload_n hx hb d_ET_read_46 rfl (lv_at hl 0 rfl) ?_
        refine zq_get hx hb hts i_ET hown hK hw h_o rfl 1 (by decide) (hts _ tw_90) rfl d_ET_read_47 ?_
        refine lv_iload_n hx hb d_ET_read_50 rfl (lv_at hl 3 rfl) ?_
        refine zq_aald hx hb hK hw 4 rfl h_k rfl (by omega) (by omega) (by decide) rfl d_ET_read_51 ?_
        refine lv_iconst (v := iI 0) hx hb d_ET_read_52 rfl ?_
        refine zq_callS (b := 0) (C := "") (As := [.ref (rb i), .int (iI 0)]) (rest := []) ⟨hx, hb, hml, hown, hts⟩ (c_JA_fill l D K M2 (rb i) 33 (G1 i) 0 h_t (by decide)) (va_cwS 2 hts (zg_T tw_351 tw_289 tw_12 tw_290) rfl rfl rfl (by decide +kernel) ⟨Nat.le_of_ble_eq_true rfl, Nat.le_of_ble_eq_true rfl⟩) hZ hw hA rfl rfl hl.1 (Nat.le_of_ble_eq_true rfl) d_ET_read_53 ⟨Nat.le_of_ble_eq_true rfl, Nat.le_of_ble_eq_true rfl⟩ (fun v M3 H locs hp hw => ?_)
        obtain ⟨rfl, hs1, ho⟩ := hp
        have h_o : M3 o = some (.inr (5, [.ref gA, .ref kA, .int (iI cnt), .int (iI cc0)])) := (ho _ (zq_ne h_o h_t (by simp))).trans h_o
        have h_g : M3 gA = some (cQ (K 4) 12 (fun i => some (ra i))) := (ho _ (zq_ne h_g h_t (by simp))).trans h_g
        have h_k : M3 kA = some (cQ (K 4) 12 (fun i => some (rb i))) := (ho _ (zq_ne h_k h_t (by simp))).trans h_k
        have h_o2 : M3 o2 = some (.inr (2, [.ref s2, .ref l2, .int (iI cnt)])) := (ho _ (zq_ne h_o2 h_t (by simp))).trans h_o2
        have h_s2 : M3 s2 = some (cI (K 0) 12 sg) := (ho _ (zq_ne h_s2 h_t (by simp))).trans h_s2
        have h_l2 : M3 l2 = some (cI (K 0) 48 lb) := (ho _ (zq_ne h_l2 h_t (by simp))).trans h_l2
        have h_o3 : M3 o3 = some (.inr (1, [.ref aA, .ref bA, .ref cA, .int (iI (4 * cnt)), .int (iI cc0)])) := (ho _ (zq_ne h_o3 h_t (by simp))).trans h_o3
        have h_a3 : M3 aA = some (cI (K 0) 48 al) := (ho _ (zq_ne h_a3 h_t (by simp))).trans h_a3
        have h_b3 : M3 bA = some (cI (K 0) 48 at0) := (ho _ (zq_ne h_b3 h_t (by simp))).trans h_b3
        have h_c3 : M3 cA = some (cI (K 0) 33 ls0) := (ho _ (Ne.symm (hrc i (by omega) (by omega)).2)).trans h_c3
        have h_r : M3 (ra i) = some (cI (K 0) 33 (fun _ => 0)) := (ho _ (he7 i i (by omega) (by omega) (by omega) (by omega))).trans h_r
        have h_t : M3 (rb i) = some (cI (K 0) 33 (fun _ => 0)) := hs1
        have hfr : ∀ q, q ≠ o → (∀ i, 0 ≤ i → i < 12 → q ≠ ra i) → (∀ i, 0 ≤ i → i < 12 → q ≠ rb i) → M3 q = M q := fun q g0 g1 g2 => (ho q (g2 i (by omega) (by omega))).trans (hfr q g0 g1 g2)
        have hfb : ∀ q, q ≠ (ra i) → q ≠ (rb i) → M3 q = Mq q := fun q g0 g1 => (ho q g1).trans (hfb q g0 g1)
        refine W.eq (g2 := F0 m 56 ls []) rfl ?_
        refine lv_aload_n hx hb d_ET_read_56 rfl (lv_at hl 2 rfl) ?_
        refine lv_aload_n hx hb d_ET_read_57 rfl (lv_at hl 1 rfl) ?_
        refine lv_iload_n hx hb d_ET_read_58 rfl (lv_at hl 3 rfl) ?_
        refine zq_callV (As := [.int (iI i)]) (rest := [.ref o3]) ⟨hx, hb, hml, hown, hts⟩ (c_CR_lowerIn l D K M3 o2 s2 l2 cnt sg lb i h_o2 h_s2 h_l2 hC ) (cwV 1 hts (zg_V tw_352 tw_261 tw_262 tw_2 tw_263) rfl rfl rfl (by decide +kernel) ⟨Nat.le_of_ble_eq_true rfl, Nat.le_of_ble_eq_true rfl⟩) hZ hw hA h_o2 rfl rfl rfl rfl hl.1 (Nat.le_of_ble_eq_true rfl) d_ET_read_59 ⟨Nat.le_of_ble_eq_true rfl, Nat.le_of_ble_eq_true rfl⟩ (fun v M4 H locs hp hw => ?_)
        obtain ⟨rfl, hMe⟩ := hp
        rw [hMe] at hw
        refine W.eq (g2 := F0 m 62 ls [.int (iI (4 * i)), .ref o3]) rfl ?_
        refine zq_callV (As := [.int (iI (4 * i))]) (rest := []) ⟨hx, hb, hml, hown, hts⟩ (c_AL_numberAt l D K M3 o3 aA bA cA (4 * cnt) cc0 al at0 ls0 (4 * i) h_o3 h_a3 h_b3 h_c3 hab hA0 ⟨by omega, by omega⟩) (cwV 1 hts (zg_V tw_353 tw_354 tw_355 tw_4 tw_356) rfl rfl rfl (by decide +kernel) ⟨Nat.le_of_ble_eq_true rfl, Nat.le_of_ble_eq_true rfl⟩) hZ hw hA h_o3 rfl rfl rfl rfl hl.1 (Nat.le_of_ble_eq_true rfl) d_ET_read_62 ⟨Nat.le_of_ble_eq_true rfl, Nat.le_of_ble_eq_true rfl⟩ (fun v M6 H locs hp hw => ?_)
        obtain ⟨rr5, rfl, hNrr5, hMe⟩ := hp
        rw [hMe] at hw
        refine W.eq (g2 := F0 m 65 ls [.int (iI rr5)]) rfl ?_
        rw [show (rr5 : Int) = N (4 * i) from (zNum_uniq hNrr5 hn0c)]
        refine lv_istore (lv' := [(4, .int (iI (N (4 * i)))), (0, .ref o), (1, .ref o2), (2, .ref o3), (3, .int (iI i))]) hx hb d_ET_read_65 hl (by decide) rfl (fun ls hl => ?_)
        refine lv_aload_n hx hb d_ET_read_67 rfl (lv_at hl 3 rfl) ?_
        refine lv_aload_n hx hb d_ET_read_68 rfl (lv_at hl 2 rfl) ?_
        refine lv_iload_n hx hb d_ET_read_69 rfl (lv_at hl 4 rfl) ?_
        refine zq_callV (As := [.int (iI i)]) (rest := [.ref o3]) ⟨hx, hb, hml, hown, hts⟩ (c_CR_lowerOut l D K M3 o2 s2 l2 cnt sg lb i h_o2 h_s2 h_l2 hC ) (cwV 1 hts (zg_V tw_357 tw_358 tw_359 tw_2 tw_360) rfl rfl rfl (by decide +kernel) ⟨Nat.le_of_ble_eq_true rfl, Nat.le_of_ble_eq_true rfl⟩) hZ hw hA h_o2 rfl rfl rfl rfl hl.1 (Nat.le_of_ble_eq_true rfl) d_ET_read_70 ⟨Nat.le_of_ble_eq_true rfl, Nat.le_of_ble_eq_true rfl⟩ (fun v M7 H locs hp hw => ?_)
        obtain ⟨rfl, hMe⟩ := hp
        rw [hMe] at hw
        refine W.eq (g2 := F0 m 73 ls [.int (iI (4 * i + 2)), .ref o3]) rfl ?_
        refine zq_callV (As := [.int (iI (4 * i + 2))]) (rest := []) ⟨hx, hb, hml, hown, hts⟩ (c_AL_numberAt l D K M3 o3 aA bA cA (4 * cnt) cc0 al at0 ls0 (4 * i + 2) h_o3 h_a3 h_b3 h_c3 hab hA0 ⟨by omega, by omega⟩) (cwV 1 hts (zg_V tw_353 tw_354 tw_355 tw_4 tw_356) rfl rfl rfl (by decide +kernel) ⟨Nat.le_of_ble_eq_true rfl, Nat.le_of_ble_eq_true rfl⟩) hZ hw hA h_o3 rfl rfl rfl rfl hl.1 (Nat.le_of_ble_eq_true rfl) d_ET_read_73 ⟨Nat.le_of_ble_eq_true rfl, Nat.le_of_ble_eq_true rfl⟩ (fun v M9 H locs hp hw => ?_)
        obtain ⟨rr8, rfl, hNrr8, hMe⟩ := hp
        rw [hMe] at hw
        refine W.eq (g2 := F0 m 76 ls [.int (iI rr8)]) rfl ?_
        rw [show (rr8 : Int) = N (4 * i + 2) from (zNum_uniq hNrr8 hn2c)]
        refine lv_istore (lv' := [(5, .int (iI (N (4 * i + 2)))), (4, .int (iI (N (4 * i)))), (0, .ref o), (1, .ref o2), (2, .ref o3), (3, .int (iI i))]) hx hb d_ET_read_76 hl (by decide) rfl (fun ls hl => ?_)
        refine lv_aload_n hx hb d_ET_read_78 rfl (lv_at hl 3 rfl) ?_
        refine lv_iload_n hx hb d_ET_read_79 rfl (lv_at hl 5 rfl) ?_
        refine zq_callV (As := [.int (iI i)]) (rest := []) ⟨hx, hb, hml, hown, hts⟩ (c_CR_signOf l D K M3 o2 s2 l2 cnt sg lb i h_o2 h_s2 h_l2 hC ⟨by omega, by omega⟩) (cwV 1 hts (zg_V tw_361 tw_269 tw_270 tw_2 tw_271) rfl rfl rfl (by decide +kernel) ⟨Nat.le_of_ble_eq_true rfl, Nat.le_of_ble_eq_true rfl⟩) hZ hw hA h_o2 rfl rfl rfl rfl hl.1 (Nat.le_of_ble_eq_true rfl) d_ET_read_80 ⟨Nat.le_of_ble_eq_true rfl, Nat.le_of_ble_eq_true rfl⟩ (fun v M10 H locs hp hw => ?_)
        obtain ⟨rfl, hMe⟩ := hp
        rw [hMe] at hw
        refine W.eq (g2 := F0 m 83 ls [.int (iI (sg i))]) rfl ?_
        refine lv_iconst (v := iI 1) hx hb d_ET_read_83 rfl ?_
        refine zq_icmp_ne (tgt := 91) hx hb d_ET_read_84 (by decide) (hc3 i) (by decide) (fun hc11 => ?_) (fun hc11 => ?_)
        · refine lv_iconst (v := iI 0) hx hb d_ET_read_91 rfl ?_
          refine lv_istore (lv' := [(6, .int (iI 0)), (5, .int (iI (N (4 * i + 2)))), (4, .int (iI (N (4 * i)))), (0, .ref o), (1, .ref o2), (2, .ref o3), (3, .int (iI i))]) hx hb d_ET_read_92 hl (by decide) rfl (fun ls hl => ?_)
          refine lv_aload_n hx hb d_ET_read_94 rfl (lv_at hl 3 rfl) ?_
          refine lv_iload_n hx hb d_ET_read_95 rfl (lv_at hl 6 rfl) ?_
          refine lv_iload hx hb d_ET_read_96 (lv_at hl 0 rfl) ?_
          refine zq_if_eq (tgt := 106) hx hb d_ET_read_98 (by decide) (by decide) (fun hc12 => ?_) (fun hc12 => ?_)
          · refine lv_iload hx hb d_ET_read_106 (lv_at hl 1 rfl) ?_
            refine lv_iconst (v := iI 0) hx hb d_ET_read_108 rfl ?_
            refine lv_iconst (v := iI 1) hx hb d_ET_read_109 rfl ?_
            refine zq_callV (As := [.int (iI i), .int (iI (N (4 * i + 2))), .int (iI 0), .int (iI 1)]) (rest := []) ⟨hx, hb, hml, hown, hts⟩ (c_ET_add l D K M3 o gA kA ra rb cnt cc0 (fun _ => 0) (fun _ => 0) i (N (4 * i + 2)) 0 1 h_o h_g h_k h_r h_t (he7 i i (by omega) (by omega) (by omega) (by omega)) ⟨by omega, by omega, by omega, by omega⟩ ⟨by omega, by omega, by omega, by omega⟩) (cwV 4 hts (zg_V tw_362 tw_364 ts_13 tw_5 tw_365) rfl rfl rfl (by decide +kernel) ⟨Nat.le_of_ble_eq_true rfl, Nat.le_of_ble_eq_true rfl⟩) hZ hw hA h_o rfl rfl rfl rfl hl.1 (Nat.le_of_ble_eq_true rfl) d_ET_read_110 ⟨Nat.le_of_ble_eq_true rfl, Nat.le_of_ble_eq_true rfl⟩ (fun v M13 H locs hp hw => ?_)
            obtain ⟨rfl, hs1, hs2, ho⟩ := hp
            have h_o : M13 o = some (.inr (5, [.ref gA, .ref kA, .int (iI cnt), .int (iI cc0)])) := (ho _ (zq_ne h_o h_r (by simp)) (zq_ne h_o h_t (by simp))).trans h_o
            have h_g : M13 gA = some (cQ (K 4) 12 (fun i => some (ra i))) := (ho _ (zq_ne h_g h_r (by simp)) (zq_ne h_g h_t (by simp))).trans h_g
            have h_k : M13 kA = some (cQ (K 4) 12 (fun i => some (rb i))) := (ho _ (zq_ne h_k h_r (by simp)) (zq_ne h_k h_t (by simp))).trans h_k
            have h_o2 : M13 o2 = some (.inr (2, [.ref s2, .ref l2, .int (iI cnt)])) := (ho _ (zq_ne h_o2 h_r (by simp)) (zq_ne h_o2 h_t (by simp))).trans h_o2
            have h_s2 : M13 s2 = some (cI (K 0) 12 sg) := (ho _ (zq_ne h_s2 h_r (by simp)) (zq_ne h_s2 h_t (by simp))).trans h_s2
            have h_l2 : M13 l2 = some (cI (K 0) 48 lb) := (ho _ (zq_ne h_l2 h_r (by simp)) (zq_ne h_l2 h_t (by simp))).trans h_l2
            have h_o3 : M13 o3 = some (.inr (1, [.ref aA, .ref bA, .ref cA, .int (iI (4 * cnt)), .int (iI cc0)])) := (ho _ (zq_ne h_o3 h_r (by simp)) (zq_ne h_o3 h_t (by simp))).trans h_o3
            have h_a3 : M13 aA = some (cI (K 0) 48 al) := (ho _ (zq_ne h_a3 h_r (by simp)) (zq_ne h_a3 h_t (by simp))).trans h_a3
            have h_b3 : M13 bA = some (cI (K 0) 48 at0) := (ho _ (zq_ne h_b3 h_r (by simp)) (zq_ne h_b3 h_t (by simp))).trans h_b3
            have h_c3 : M13 cA = some (cI (K 0) 33 ls0) := (ho _ (Ne.symm (hrc i (by omega) (by omega)).1) (Ne.symm (hrc i (by omega) (by omega)).2)).trans h_c3
            have h_r : M13 (ra i) = some (cI (K 0) 33 (zu (fun _ => 0) (N (4 * i + 2)) ((fun _ => 0) (N (4 * i + 2)) + 0))) := hs1
            have h_t : M13 (rb i) = some (cI (K 0) 33 (zu (fun _ => 0) (N (4 * i + 2)) ((fun _ => 0) (N (4 * i + 2)) + 1))) := hs2
            have hfr : ∀ q, q ≠ o → (∀ i, 0 ≤ i → i < 12 → q ≠ ra i) → (∀ i, 0 ≤ i → i < 12 → q ≠ rb i) → M13 q = M q := fun q g0 g1 g2 => (ho q (g1 i (by omega) (by omega)) (g2 i (by omega) (by omega))).trans (hfr q g0 g1 g2)
            have hfb : ∀ q, q ≠ (ra i) → q ≠ (rb i) → M13 q = Mq q := fun q g0 g1 => (ho q g0 g1).trans (hfb q g0 g1)
            refine W.eq (g2 := F0 m 113 ls []) rfl ?_
            refine lv_aload_n hx hb d_ET_read_113 rfl (lv_at hl 3 rfl) ?_
            refine lv_iload_n hx hb d_ET_read_114 rfl (lv_at hl 6 rfl) ?_
            refine lv_iload hx hb d_ET_read_115 (lv_at hl 0 rfl) ?_
            refine zq_if_eq (tgt := 125) hx hb d_ET_read_117 (by decide) (by decide) (fun hc14 => ?_) (fun hc14 => ?_)
            · refine lv_iload hx hb d_ET_read_125 (lv_at hl 2 rfl) ?_
              refine lv_iconst (v := iI (-1)) hx hb d_ET_read_127 rfl ?_
              refine lv_iconst (v := iI 0) hx hb d_ET_read_128 rfl ?_
              refine zq_callV (As := [.int (iI i), .int (iI (N (4 * i))), .int (iI (-1)), .int (iI 0)]) (rest := []) ⟨hx, hb, hml, hown, hts⟩ (c_ET_add l D K M13 o gA kA ra rb cnt cc0 (zu (fun _ => 0) (N (4 * i + 2)) ((fun _ => 0) (N (4 * i + 2)) + 0)) (zu (fun _ => 0) (N (4 * i + 2)) ((fun _ => 0) (N (4 * i + 2)) + 1)) i (N (4 * i)) (-1) 0 h_o h_g h_k h_r h_t (he7 i i (by omega) (by omega) (by omega) (by omega)) ⟨by omega, by omega, by omega, by omega⟩ ⟨by omega, by omega, by omega, by omega⟩) (cwV 4 hts (zg_V tw_362 tw_364 ts_13 tw_5 tw_365) rfl rfl rfl (by decide +kernel) ⟨Nat.le_of_ble_eq_true rfl, Nat.le_of_ble_eq_true rfl⟩) hZ hw hA h_o rfl rfl rfl rfl hl.1 (Nat.le_of_ble_eq_true rfl) d_ET_read_129 ⟨Nat.le_of_ble_eq_true rfl, Nat.le_of_ble_eq_true rfl⟩ (fun v M15 H locs hp hw => ?_)
              obtain ⟨rfl, hs1, hs2, ho⟩ := hp
              have h_o : M15 o = some (.inr (5, [.ref gA, .ref kA, .int (iI cnt), .int (iI cc0)])) := (ho _ (zq_ne h_o h_r (by simp)) (zq_ne h_o h_t (by simp))).trans h_o
              have h_g : M15 gA = some (cQ (K 4) 12 (fun i => some (ra i))) := (ho _ (zq_ne h_g h_r (by simp)) (zq_ne h_g h_t (by simp))).trans h_g
              have h_k : M15 kA = some (cQ (K 4) 12 (fun i => some (rb i))) := (ho _ (zq_ne h_k h_r (by simp)) (zq_ne h_k h_t (by simp))).trans h_k
              have h_o2 : M15 o2 = some (.inr (2, [.ref s2, .ref l2, .int (iI cnt)])) := (ho _ (zq_ne h_o2 h_r (by simp)) (zq_ne h_o2 h_t (by simp))).trans h_o2
              have h_s2 : M15 s2 = some (cI (K 0) 12 sg) := (ho _ (zq_ne h_s2 h_r (by simp)) (zq_ne h_s2 h_t (by simp))).trans h_s2
              have h_l2 : M15 l2 = some (cI (K 0) 48 lb) := (ho _ (zq_ne h_l2 h_r (by simp)) (zq_ne h_l2 h_t (by simp))).trans h_l2
              have h_o3 : M15 o3 = some (.inr (1, [.ref aA, .ref bA, .ref cA, .int (iI (4 * cnt)), .int (iI cc0)])) := (ho _ (zq_ne h_o3 h_r (by simp)) (zq_ne h_o3 h_t (by simp))).trans h_o3
              have h_a3 : M15 aA = some (cI (K 0) 48 al) := (ho _ (zq_ne h_a3 h_r (by simp)) (zq_ne h_a3 h_t (by simp))).trans h_a3
              have h_b3 : M15 bA = some (cI (K 0) 48 at0) := (ho _ (zq_ne h_b3 h_r (by simp)) (zq_ne h_b3 h_t (by simp))).trans h_b3
              have h_c3 : M15 cA = some (cI (K 0) 33 ls0) := (ho _ (Ne.symm (hrc i (by omega) (by omega)).1) (Ne.symm (hrc i (by omega) (by omega)).2)).trans h_c3
              have h_r : M15 (ra i) = some (cI (K 0) 33 (zu (zu (fun _ => 0) (N (4 * i + 2)) ((fun _ => 0) (N (4 * i + 2)) + 0)) (N (4 * i)) ((zu (fun _ => 0) (N (4 * i + 2)) ((fun _ => 0) (N (4 * i + 2)) + 0)) (N (4 * i)) + (-1)))) := hs1
              have h_t : M15 (rb i) = some (cI (K 0) 33 (zu (zu (fun _ => 0) (N (4 * i + 2)) ((fun _ => 0) (N (4 * i + 2)) + 1)) (N (4 * i)) ((zu (fun _ => 0) (N (4 * i + 2)) ((fun _ => 0) (N (4 * i + 2)) + 1)) (N (4 * i)) + 0))) := hs2
              have hfr : ∀ q, q ≠ o → (∀ i, 0 ≤ i → i < 12 → q ≠ ra i) → (∀ i, 0 ≤ i → i < 12 → q ≠ rb i) → M15 q = M q := fun q g0 g1 g2 => (ho q (g1 i (by omega) (by omega)) (g2 i (by omega) (by omega))).trans (hfr q g0 g1 g2)
              have hfb : ∀ q, q ≠ (ra i) → q ≠ (rb i) → M15 q = Mq q := fun q g0 g1 => (ho q g0 g1).trans (hfb q g0 g1)
              refine W.eq (g2 := F0 m 132 ls []) rfl ?_
              refine lv_aload_n hx hb d_ET_read_132 rfl (lv_at hl 3 rfl) ?_
              refine lv_iload_n hx hb d_ET_read_133 rfl (lv_at hl 6 rfl) ?_
              refine lv_aload_n hx hb d_ET_read_134 rfl (lv_at hl 5 rfl) ?_
              refine lv_aload_n hx hb d_ET_read_135 rfl (lv_at hl 4 rfl) ?_
              refine lv_iload_n hx hb d_ET_read_136 rfl (lv_at hl 6 rfl) ?_
              refine zq_callV (As := [.int (iI i)]) (rest := [.ref o3, .int (iI i), .ref o]) ⟨hx, hb, hml, hown, hts⟩ (c_CR_upperIn l D K M15 o2 s2 l2 cnt sg lb i h_o2 h_s2 h_l2 hC ⟨by omega, by omega⟩) (cwV 1 hts (zg_V tw_370 tw_265 tw_266 tw_2 tw_267) rfl rfl rfl (by decide +kernel) ⟨Nat.le_of_ble_eq_true rfl, Nat.le_of_ble_eq_true rfl⟩) hZ hw hA h_o2 rfl rfl rfl rfl hl.1 (Nat.le_of_ble_eq_true rfl) d_ET_read_137 ⟨Nat.le_of_ble_eq_true rfl, Nat.le_of_ble_eq_true rfl⟩ (fun v M16 H locs hp hw => ?_)
              obtain ⟨rfl, hMe⟩ := hp
              rw [hMe] at hw
              refine W.eq (g2 := F0 m 140 ls [.int (iI (4 * i + zup (sg i))), .ref o3, .int (iI i), .ref o]) rfl ?_
              refine zq_callV (As := [.int (iI (4 * i + zup (sg i)))]) (rest := [.int (iI i), .ref o]) ⟨hx, hb, hml, hown, hts⟩ (c_AL_numberAt l D K M15 o3 aA bA cA (4 * cnt) cc0 al at0 ls0 (4 * i + zup (sg i)) h_o3 h_a3 h_b3 h_c3 hab hA0 ⟨by omega, by omega⟩) (cwV 1 hts (zg_V tw_353 tw_354 tw_355 tw_4 tw_356) rfl rfl rfl (by decide +kernel) ⟨Nat.le_of_ble_eq_true rfl, Nat.le_of_ble_eq_true rfl⟩) hZ hw hA h_o3 rfl rfl rfl rfl hl.1 (Nat.le_of_ble_eq_true rfl) d_ET_read_140 ⟨Nat.le_of_ble_eq_true rfl, Nat.le_of_ble_eq_true rfl⟩ (fun v M18 H locs hp hw => ?_)
              obtain ⟨rr17, rfl, hNrr17, hMe⟩ := hp
              rw [hMe] at hw
              refine W.eq (g2 := F0 m 143 ls [.int (iI rr17), .int (iI i), .ref o]) rfl ?_
              rw [show (rr17 : Int) = N (4 * i + zup (sg i)) from (zNum_uniq hNrr17 hn3c)]
              refine lv_iconst (v := iI 1) hx hb d_ET_read_143 rfl ?_
              refine lv_iconst (v := iI (-1)) hx hb d_ET_read_144 rfl ?_
              refine zq_callV (As := [.int (iI i), .int (iI (N (4 * i + zup (sg i)))), .int (iI 1), .int (iI (-1))]) (rest := []) ⟨hx, hb, hml, hown, hts⟩ (c_ET_add l D K M15 o gA kA ra rb cnt cc0 (zu (zu (fun _ => 0) (N (4 * i + 2)) ((fun _ => 0) (N (4 * i + 2)) + 0)) (N (4 * i)) ((zu (fun _ => 0) (N (4 * i + 2)) ((fun _ => 0) (N (4 * i + 2)) + 0)) (N (4 * i)) + (-1))) (zu (zu (fun _ => 0) (N (4 * i + 2)) ((fun _ => 0) (N (4 * i + 2)) + 1)) (N (4 * i)) ((zu (fun _ => 0) (N (4 * i + 2)) ((fun _ => 0) (N (4 * i + 2)) + 1)) (N (4 * i)) + 0)) i (N (4 * i + zup (sg i))) 1 (-1) h_o h_g h_k h_r h_t (he7 i i (by omega) (by omega) (by omega) (by omega)) ⟨by omega, by omega, by omega, by omega⟩ ⟨by omega, by omega, by omega, by omega⟩) (cwV 4 hts (zg_V tw_362 tw_364 ts_13 tw_5 tw_365) rfl rfl rfl (by decide +kernel) ⟨Nat.le_of_ble_eq_true rfl, Nat.le_of_ble_eq_true rfl⟩) hZ hw hA h_o rfl rfl rfl rfl hl.1 (Nat.le_of_ble_eq_true rfl) d_ET_read_145 ⟨Nat.le_of_ble_eq_true rfl, Nat.le_of_ble_eq_true rfl⟩ (fun v M19 H locs hp hw => ?_)
              obtain ⟨rfl, hs1, hs2, ho⟩ := hp
              have h_o : M19 o = some (.inr (5, [.ref gA, .ref kA, .int (iI cnt), .int (iI cc0)])) := (ho _ (zq_ne h_o h_r (by simp)) (zq_ne h_o h_t (by simp))).trans h_o
              have h_g : M19 gA = some (cQ (K 4) 12 (fun i => some (ra i))) := (ho _ (zq_ne h_g h_r (by simp)) (zq_ne h_g h_t (by simp))).trans h_g
              have h_k : M19 kA = some (cQ (K 4) 12 (fun i => some (rb i))) := (ho _ (zq_ne h_k h_r (by simp)) (zq_ne h_k h_t (by simp))).trans h_k
              have h_o2 : M19 o2 = some (.inr (2, [.ref s2, .ref l2, .int (iI cnt)])) := (ho _ (zq_ne h_o2 h_r (by simp)) (zq_ne h_o2 h_t (by simp))).trans h_o2
              have h_s2 : M19 s2 = some (cI (K 0) 12 sg) := (ho _ (zq_ne h_s2 h_r (by simp)) (zq_ne h_s2 h_t (by simp))).trans h_s2
              have h_l2 : M19 l2 = some (cI (K 0) 48 lb) := (ho _ (zq_ne h_l2 h_r (by simp)) (zq_ne h_l2 h_t (by simp))).trans h_l2
              have h_o3 : M19 o3 = some (.inr (1, [.ref aA, .ref bA, .ref cA, .int (iI (4 * cnt)), .int (iI cc0)])) := (ho _ (zq_ne h_o3 h_r (by simp)) (zq_ne h_o3 h_t (by simp))).trans h_o3
              have h_a3 : M19 aA = some (cI (K 0) 48 al) := (ho _ (zq_ne h_a3 h_r (by simp)) (zq_ne h_a3 h_t (by simp))).trans h_a3
              have h_b3 : M19 bA = some (cI (K 0) 48 at0) := (ho _ (zq_ne h_b3 h_r (by simp)) (zq_ne h_b3 h_t (by simp))).trans h_b3
              have h_c3 : M19 cA = some (cI (K 0) 33 ls0) := (ho _ (Ne.symm (hrc i (by omega) (by omega)).1) (Ne.symm (hrc i (by omega) (by omega)).2)).trans h_c3
              have h_r : M19 (ra i) = some (cI (K 0) 33 (zu (zu (zu (fun _ => 0) (N (4 * i + 2)) ((fun _ => 0) (N (4 * i + 2)) + 0)) (N (4 * i)) ((zu (fun _ => 0) (N (4 * i + 2)) ((fun _ => 0) (N (4 * i + 2)) + 0)) (N (4 * i)) + (-1))) (N (4 * i + zup (sg i))) ((zu (zu (fun _ => 0) (N (4 * i + 2)) ((fun _ => 0) (N (4 * i + 2)) + 0)) (N (4 * i)) ((zu (fun _ => 0) (N (4 * i + 2)) ((fun _ => 0) (N (4 * i + 2)) + 0)) (N (4 * i)) + (-1))) (N (4 * i + zup (sg i))) + 1))) := hs1
              have h_t : M19 (rb i) = some (cI (K 0) 33 (zu (zu (zu (fun _ => 0) (N (4 * i + 2)) ((fun _ => 0) (N (4 * i + 2)) + 1)) (N (4 * i)) ((zu (fun _ => 0) (N (4 * i + 2)) ((fun _ => 0) (N (4 * i + 2)) + 1)) (N (4 * i)) + 0)) (N (4 * i + zup (sg i))) ((zu (zu (fun _ => 0) (N (4 * i + 2)) ((fun _ => 0) (N (4 * i + 2)) + 1)) (N (4 * i)) ((zu (fun _ => 0) (N (4 * i + 2)) ((fun _ => 0) (N (4 * i + 2)) + 1)) (N (4 * i)) + 0)) (N (4 * i + zup (sg i))) + (-1)))) := hs2
              have hfr : ∀ q, q ≠ o → (∀ i, 0 ≤ i → i < 12 → q ≠ ra i) → (∀ i, 0 ≤ i → i < 12 → q ≠ rb i) → M19 q = M q := fun q g0 g1 g2 => (ho q (g1 i (by omega) (by omega)) (g2 i (by omega) (by omega))).trans (hfr q g0 g1 g2)
              have hfb : ∀ q, q ≠ (ra i) → q ≠ (rb i) → M19 q = Mq q := fun q g0 g1 => (ho q g0 g1).trans (hfb q g0 g1)
              refine W.eq (g2 := F0 m 148 ls []) rfl ?_
              have he7a : ∀ k, 0 ≤ k → k < 12 → ra k ≠ rb i := fun k h1 h2 => he7 k i h1 h2 (by omega) (by omega)
              have he7b : ∀ k, 0 ≤ k → k < 12 → rb k ≠ ra i := fun k h1 h2 => Ne.symm (he7 i k (by omega) (by omega) h1 h2)
              have hrow1 : (zu (zu (zu (fun _ => 0) (N (4 * i + 2)) ((fun _ => 0) (N (4 * i + 2)) + 0)) (N (4 * i)) ((zu (fun _ => 0) (N (4 * i + 2)) ((fun _ => 0) (N (4 * i + 2)) + 0)) (N (4 * i)) + (-1))) (N (4 * i + zup (sg i))) ((zu (zu (fun _ => 0) (N (4 * i + 2)) ((fun _ => 0) (N (4 * i + 2)) + 0)) (N (4 * i)) ((zu (fun _ => 0) (N (4 * i + 2)) ((fun _ => 0) (N (4 * i + 2)) + 0)) (N (4 * i)) + (-1))) (N (4 * i + zup (sg i))) + 1)) = zrc sg N i := zrow_c (by simp [*]) (by simp [*])
              have hrow2 : (zu (zu (zu (fun _ => 0) (N (4 * i + 2)) ((fun _ => 0) (N (4 * i + 2)) + 1)) (N (4 * i)) ((zu (fun _ => 0) (N (4 * i + 2)) ((fun _ => 0) (N (4 * i + 2)) + 1)) (N (4 * i)) + 0)) (N (4 * i + zup (sg i))) ((zu (zu (fun _ => 0) (N (4 * i + 2)) ((fun _ => 0) (N (4 * i + 2)) + 1)) (N (4 * i)) ((zu (fun _ => 0) (N (4 * i + 2)) ((fun _ => 0) (N (4 * i + 2)) + 1)) (N (4 * i)) + 0)) (N (4 * i + zup (sg i))) + (-1))) = zrt sg N i := zrow_t (by simp [*]) (by simp [*])
              refine lv_iinc (v := iI (i + 1)) (lv' := [(3, .int (iI (i + 1))), (6, .int (iI 0)), (5, .int (iI (N (4 * i + 2)))), (4, .int (iI (N (4 * i)))), (0, .ref o), (1, .ref o2), (2, .ref o3)]) hx hb d_ET_read_148 hl (k := 6) rfl (iI_add _ _) (by decide) rfl (fun ls hl => ?_)
              refine lv_goto (tgt := 28) hx hb d_ET_read_151 (by decide) ?_
              exact ih_hL (i + 1) (zu F1 i (zu (zu (zu (fun _ => 0) (N (4 * i + 2)) ((fun _ => 0) (N (4 * i + 2)) + 0)) (N (4 * i)) ((zu (fun _ => 0) (N (4 * i + 2)) ((fun _ => 0) (N (4 * i + 2)) + 0)) (N (4 * i)) + (-1))) (N (4 * i + zup (sg i))) ((zu (zu (fun _ => 0) (N (4 * i + 2)) ((fun _ => 0) (N (4 * i + 2)) + 0)) (N (4 * i)) ((zu (fun _ => 0) (N (4 * i + 2)) ((fun _ => 0) (N (4 * i + 2)) + 0)) (N (4 * i)) + (-1))) (N (4 * i + zup (sg i))) + 1))) (zu G1 i (zu (zu (zu (fun _ => 0) (N (4 * i + 2)) ((fun _ => 0) (N (4 * i + 2)) + 1)) (N (4 * i)) ((zu (fun _ => 0) (N (4 * i + 2)) ((fun _ => 0) (N (4 * i + 2)) + 1)) (N (4 * i)) + 0)) (N (4 * i + zup (sg i))) ((zu (zu (fun _ => 0) (N (4 * i + 2)) ((fun _ => 0) (N (4 * i + 2)) + 1)) (N (4 * i)) ((zu (fun _ => 0) (N (4 * i + 2)) ((fun _ => 0) (N (4 * i + 2)) + 1)) (N (4 * i)) + 0)) (N (4 * i + zup (sg i))) + (-1)))) M19 _ _ _ (by omega) (zG_row hF h_r hY2 hfb (by omega) (by omega) he7a) (zG_row hG h_t hY1 (fun q g0 g1 => hfb q g1 g0) (by omega) (by omega) he7b) (zrw_step hF1 (by omega) hrow1) (zrw_step hG1q (by omega) hrow2) (by omega) hfr h_o h_g h_k h_o2 h_s2 h_l2 h_o3 h_a3 h_b3 h_c3 hw (lv_sub hl [4, 5, 6, 0] rfl)
            · exact absurd hc14 (by decide)
          · exact absurd hc12 (by decide)
        · refine lv_iconst (v := iI 1) hx hb d_ET_read_87 rfl ?_
          refine lv_goto (tgt := 92) hx hb d_ET_read_88 (by decide) ?_
          refine lv_istore (lv' := [(6, .int (iI 1)), (5, .int (iI (N (4 * i + 2)))), (4, .int (iI (N (4 * i)))), (0, .ref o), (1, .ref o2), (2, .ref o3), (3, .int (iI i))]) hx hb d_ET_read_92 hl (by decide) rfl (fun ls hl => ?_)
          refine lv_aload_n hx hb d_ET_read_94 rfl (lv_at hl 3 rfl) ?_
          refine lv_iload_n hx hb d_ET_read_95 rfl (lv_at hl 6 rfl) ?_
          refine lv_iload hx hb d_ET_read_96 (lv_at hl 0 rfl) ?_
          refine zq_if_eq (tgt := 106) hx hb d_ET_read_98 (by decide) (by decide) (fun hc20 => ?_) (fun hc20 => ?_)
          · exact absurd hc20 (by decide)
          · refine lv_iload hx hb d_ET_read_101 (lv_at hl 2 rfl) ?_
            refine lv_goto (tgt := 108) hx hb d_ET_read_103 (by decide) ?_
            refine lv_iconst (v := iI 0) hx hb d_ET_read_108 rfl ?_
            refine lv_iconst (v := iI 1) hx hb d_ET_read_109 rfl ?_
            refine zq_callV (As := [.int (iI i), .int (iI (N (4 * i))), .int (iI 0), .int (iI 1)]) (rest := []) ⟨hx, hb, hml, hown, hts⟩ (c_ET_add l D K M3 o gA kA ra rb cnt cc0 (fun _ => 0) (fun _ => 0) i (N (4 * i)) 0 1 h_o h_g h_k h_r h_t (he7 i i (by omega) (by omega) (by omega) (by omega)) ⟨by omega, by omega, by omega, by omega⟩ ⟨by omega, by omega, by omega, by omega⟩) (cwV 4 hts (zg_V tw_362 tw_364 ts_13 tw_5 tw_365) rfl rfl rfl (by decide +kernel) ⟨Nat.le_of_ble_eq_true rfl, Nat.le_of_ble_eq_true rfl⟩) hZ hw hA h_o rfl rfl rfl rfl hl.1 (Nat.le_of_ble_eq_true rfl) d_ET_read_110 ⟨Nat.le_of_ble_eq_true rfl, Nat.le_of_ble_eq_true rfl⟩ (fun v M21 H locs hp hw => ?_)
            obtain ⟨rfl, hs1, hs2, ho⟩ := hp
            have h_o : M21 o = some (.inr (5, [.ref gA, .ref kA, .int (iI cnt), .int (iI cc0)])) := (ho _ (zq_ne h_o h_r (by simp)) (zq_ne h_o h_t (by simp))).trans h_o
            have h_g : M21 gA = some (cQ (K 4) 12 (fun i => some (ra i))) := (ho _ (zq_ne h_g h_r (by simp)) (zq_ne h_g h_t (by simp))).trans h_g
            have h_k : M21 kA = some (cQ (K 4) 12 (fun i => some (rb i))) := (ho _ (zq_ne h_k h_r (by simp)) (zq_ne h_k h_t (by simp))).trans h_k
            have h_o2 : M21 o2 = some (.inr (2, [.ref s2, .ref l2, .int (iI cnt)])) := (ho _ (zq_ne h_o2 h_r (by simp)) (zq_ne h_o2 h_t (by simp))).trans h_o2
            have h_s2 : M21 s2 = some (cI (K 0) 12 sg) := (ho _ (zq_ne h_s2 h_r (by simp)) (zq_ne h_s2 h_t (by simp))).trans h_s2
            have h_l2 : M21 l2 = some (cI (K 0) 48 lb) := (ho _ (zq_ne h_l2 h_r (by simp)) (zq_ne h_l2 h_t (by simp))).trans h_l2
            have h_o3 : M21 o3 = some (.inr (1, [.ref aA, .ref bA, .ref cA, .int (iI (4 * cnt)), .int (iI cc0)])) := (ho _ (zq_ne h_o3 h_r (by simp)) (zq_ne h_o3 h_t (by simp))).trans h_o3
            have h_a3 : M21 aA = some (cI (K 0) 48 al) := (ho _ (zq_ne h_a3 h_r (by simp)) (zq_ne h_a3 h_t (by simp))).trans h_a3
            have h_b3 : M21 bA = some (cI (K 0) 48 at0) := (ho _ (zq_ne h_b3 h_r (by simp)) (zq_ne h_b3 h_t (by simp))).trans h_b3
            have h_c3 : M21 cA = some (cI (K 0) 33 ls0) := (ho _ (Ne.symm (hrc i (by omega) (by omega)).1) (Ne.symm (hrc i (by omega) (by omega)).2)).trans h_c3
            have h_r : M21 (ra i) = some (cI (K 0) 33 (zu (fun _ => 0) (N (4 * i)) ((fun _ => 0) (N (4 * i)) + 0))) := hs1
            have h_t : M21 (rb i) = some (cI (K 0) 33 (zu (fun _ => 0) (N (4 * i)) ((fun _ => 0) (N (4 * i)) + 1))) := hs2
            have hfr : ∀ q, q ≠ o → (∀ i, 0 ≤ i → i < 12 → q ≠ ra i) → (∀ i, 0 ≤ i → i < 12 → q ≠ rb i) → M21 q = M q := fun q g0 g1 g2 => (ho q (g1 i (by omega) (by omega)) (g2 i (by omega) (by omega))).trans (hfr q g0 g1 g2)
            have hfb : ∀ q, q ≠ (ra i) → q ≠ (rb i) → M21 q = Mq q := fun q g0 g1 => (ho q g0 g1).trans (hfb q g0 g1)
            refine W.eq (g2 := F0 m 113 ls []) rfl ?_
            refine lv_aload_n hx hb d_ET_read_113 rfl (lv_at hl 3 rfl) ?_
            refine lv_iload_n hx hb d_ET_read_114 rfl (lv_at hl 6 rfl) ?_
            refine lv_iload hx hb d_ET_read_115 (lv_at hl 0 rfl) ?_
            refine zq_if_eq (tgt := 125) hx hb d_ET_read_117 (by decide) (by decide) (fun hc22 => ?_) (fun hc22 => ?_)
            · exact absurd hc22 (by decide)
            · refine lv_iload hx hb d_ET_read_120 (lv_at hl 1 rfl) ?_
              refine lv_goto (tgt := 127) hx hb d_ET_read_122 (by decide) ?_
              refine lv_iconst (v := iI (-1)) hx hb d_ET_read_127 rfl ?_
              refine lv_iconst (v := iI 0) hx hb d_ET_read_128 rfl ?_
              refine zq_callV (As := [.int (iI i), .int (iI (N (4 * i + 2))), .int (iI (-1)), .int (iI 0)]) (rest := []) ⟨hx, hb, hml, hown, hts⟩ (c_ET_add l D K M21 o gA kA ra rb cnt cc0 (zu (fun _ => 0) (N (4 * i)) ((fun _ => 0) (N (4 * i)) + 0)) (zu (fun _ => 0) (N (4 * i)) ((fun _ => 0) (N (4 * i)) + 1)) i (N (4 * i + 2)) (-1) 0 h_o h_g h_k h_r h_t (he7 i i (by omega) (by omega) (by omega) (by omega)) ⟨by omega, by omega, by omega, by omega⟩ ⟨by omega, by omega, by omega, by omega⟩) (cwV 4 hts (zg_V tw_362 tw_364 ts_13 tw_5 tw_365) rfl rfl rfl (by decide +kernel) ⟨Nat.le_of_ble_eq_true rfl, Nat.le_of_ble_eq_true rfl⟩) hZ hw hA h_o rfl rfl rfl rfl hl.1 (Nat.le_of_ble_eq_true rfl) d_ET_read_129 ⟨Nat.le_of_ble_eq_true rfl, Nat.le_of_ble_eq_true rfl⟩ (fun v M23 H locs hp hw => ?_)
              obtain ⟨rfl, hs1, hs2, ho⟩ := hp
              have h_o : M23 o = some (.inr (5, [.ref gA, .ref kA, .int (iI cnt), .int (iI cc0)])) := (ho _ (zq_ne h_o h_r (by simp)) (zq_ne h_o h_t (by simp))).trans h_o
              have h_g : M23 gA = some (cQ (K 4) 12 (fun i => some (ra i))) := (ho _ (zq_ne h_g h_r (by simp)) (zq_ne h_g h_t (by simp))).trans h_g
              have h_k : M23 kA = some (cQ (K 4) 12 (fun i => some (rb i))) := (ho _ (zq_ne h_k h_r (by simp)) (zq_ne h_k h_t (by simp))).trans h_k
              have h_o2 : M23 o2 = some (.inr (2, [.ref s2, .ref l2, .int (iI cnt)])) := (ho _ (zq_ne h_o2 h_r (by simp)) (zq_ne h_o2 h_t (by simp))).trans h_o2
              have h_s2 : M23 s2 = some (cI (K 0) 12 sg) := (ho _ (zq_ne h_s2 h_r (by simp)) (zq_ne h_s2 h_t (by simp))).trans h_s2
              have h_l2 : M23 l2 = some (cI (K 0) 48 lb) := (ho _ (zq_ne h_l2 h_r (by simp)) (zq_ne h_l2 h_t (by simp))).trans h_l2
              have h_o3 : M23 o3 = some (.inr (1, [.ref aA, .ref bA, .ref cA, .int (iI (4 * cnt)), .int (iI cc0)])) := (ho _ (zq_ne h_o3 h_r (by simp)) (zq_ne h_o3 h_t (by simp))).trans h_o3
              have h_a3 : M23 aA = some (cI (K 0) 48 al) := (ho _ (zq_ne h_a3 h_r (by simp)) (zq_ne h_a3 h_t (by simp))).trans h_a3
              have h_b3 : M23 bA = some (cI (K 0) 48 at0) := (ho _ (zq_ne h_b3 h_r (by simp)) (zq_ne h_b3 h_t (by simp))).trans h_b3
              have h_c3 : M23 cA = some (cI (K 0) 33 ls0) := (ho _ (Ne.symm (hrc i (by omega) (by omega)).1) (Ne.symm (hrc i (by omega) (by omega)).2)).trans h_c3
              have h_r : M23 (ra i) = some (cI (K 0) 33 (zu (zu (fun _ => 0) (N (4 * i)) ((fun _ => 0) (N (4 * i)) + 0)) (N (4 * i + 2)) ((zu (fun _ => 0) (N (4 * i)) ((fun _ => 0) (N (4 * i)) + 0)) (N (4 * i + 2)) + (-1)))) := hs1
              have h_t : M23 (rb i) = some (cI (K 0) 33 (zu (zu (fun _ => 0) (N (4 * i)) ((fun _ => 0) (N (4 * i)) + 1)) (N (4 * i + 2)) ((zu (fun _ => 0) (N (4 * i)) ((fun _ => 0) (N (4 * i)) + 1)) (N (4 * i + 2)) + 0))) := hs2
              have hfr : ∀ q, q ≠ o → (∀ i, 0 ≤ i → i < 12 → q ≠ ra i) → (∀ i, 0 ≤ i → i < 12 → q ≠ rb i) → M23 q = M q := fun q g0 g1 g2 => (ho q (g1 i (by omega) (by omega)) (g2 i (by omega) (by omega))).trans (hfr q g0 g1 g2)
              have hfb : ∀ q, q ≠ (ra i) → q ≠ (rb i) → M23 q = Mq q := fun q g0 g1 => (ho q g0 g1).trans (hfb q g0 g1)
              refine W.eq (g2 := F0 m 132 ls []) rfl ?_
              refine lv_aload_n hx hb d_ET_read_132 rfl (lv_at hl 3 rfl) ?_
              refine lv_iload_n hx hb d_ET_read_133 rfl (lv_at hl 6 rfl) ?_
              refine lv_aload_n hx hb d_ET_read_134 rfl (lv_at hl 5 rfl) ?_
              refine lv_aload_n hx hb d_ET_read_135 rfl (lv_at hl 4 rfl) ?_
              refine lv_iload_n hx hb d_ET_read_136 rfl (lv_at hl 6 rfl) ?_
              refine zq_callV (As := [.int (iI i)]) (rest := [.ref o3, .int (iI i), .ref o]) ⟨hx, hb, hml, hown, hts⟩ (c_CR_upperIn l D K M23 o2 s2 l2 cnt sg lb i h_o2 h_s2 h_l2 hC ⟨by omega, by omega⟩) (cwV 1 hts (zg_V tw_370 tw_265 tw_266 tw_2 tw_267) rfl rfl rfl (by decide +kernel) ⟨Nat.le_of_ble_eq_true rfl, Nat.le_of_ble_eq_true rfl⟩) hZ hw hA h_o2 rfl rfl rfl rfl hl.1 (Nat.le_of_ble_eq_true rfl) d_ET_read_137 ⟨Nat.le_of_ble_eq_true rfl, Nat.le_of_ble_eq_true rfl⟩ (fun v M24 H locs hp hw => ?_)
              obtain ⟨rfl, hMe⟩ := hp
              rw [hMe] at hw
              refine W.eq (g2 := F0 m 140 ls [.int (iI (4 * i + zup (sg i))), .ref o3, .int (iI i), .ref o]) rfl ?_
              refine zq_callV (As := [.int (iI (4 * i + zup (sg i)))]) (rest := [.int (iI i), .ref o]) ⟨hx, hb, hml, hown, hts⟩ (c_AL_numberAt l D K M23 o3 aA bA cA (4 * cnt) cc0 al at0 ls0 (4 * i + zup (sg i)) h_o3 h_a3 h_b3 h_c3 hab hA0 ⟨by omega, by omega⟩) (cwV 1 hts (zg_V tw_353 tw_354 tw_355 tw_4 tw_356) rfl rfl rfl (by decide +kernel) ⟨Nat.le_of_ble_eq_true rfl, Nat.le_of_ble_eq_true rfl⟩) hZ hw hA h_o3 rfl rfl rfl rfl hl.1 (Nat.le_of_ble_eq_true rfl) d_ET_read_140 ⟨Nat.le_of_ble_eq_true rfl, Nat.le_of_ble_eq_true rfl⟩ (fun v M26 H locs hp hw => ?_)
              obtain ⟨rr25, rfl, hNrr25, hMe⟩ := hp
              rw [hMe] at hw
              refine W.eq (g2 := F0 m 143 ls [.int (iI rr25), .int (iI i), .ref o]) rfl ?_
              rw [show (rr25 : Int) = N (4 * i + zup (sg i)) from (zNum_uniq hNrr25 hn3c)]
              refine lv_iconst (v := iI 1) hx hb d_ET_read_143 rfl ?_
              refine lv_iconst (v := iI (-1)) hx hb d_ET_read_144 rfl ?_
              refine zq_callV (As := [.int (iI i), .int (iI (N (4 * i + zup (sg i)))), .int (iI 1), .int (iI (-1))]) (rest := []) ⟨hx, hb, hml, hown, hts⟩ (c_ET_add l D K M23 o gA kA ra rb cnt cc0 (zu (zu (fun _ => 0) (N (4 * i)) ((fun _ => 0) (N (4 * i)) + 0)) (N (4 * i + 2)) ((zu (fun _ => 0) (N (4 * i)) ((fun _ => 0) (N (4 * i)) + 0)) (N (4 * i + 2)) + (-1))) (zu (zu (fun _ => 0) (N (4 * i)) ((fun _ => 0) (N (4 * i)) + 1)) (N (4 * i + 2)) ((zu (fun _ => 0) (N (4 * i)) ((fun _ => 0) (N (4 * i)) + 1)) (N (4 * i + 2)) + 0)) i (N (4 * i + zup (sg i))) 1 (-1) h_o h_g h_k h_r h_t (he7 i i (by omega) (by omega) (by omega) (by omega)) ⟨by omega, by omega, by omega, by omega⟩ ⟨by omega, by omega, by omega, by omega⟩) (cwV 4 hts (zg_V tw_362 tw_364 ts_13 tw_5 tw_365) rfl rfl rfl (by decide +kernel) ⟨Nat.le_of_ble_eq_true rfl, Nat.le_of_ble_eq_true rfl⟩) hZ hw hA h_o rfl rfl rfl rfl hl.1 (Nat.le_of_ble_eq_true rfl) d_ET_read_145 ⟨Nat.le_of_ble_eq_true rfl, Nat.le_of_ble_eq_true rfl⟩ (fun v M27 H locs hp hw => ?_)
              obtain ⟨rfl, hs1, hs2, ho⟩ := hp
              have h_o : M27 o = some (.inr (5, [.ref gA, .ref kA, .int (iI cnt), .int (iI cc0)])) := (ho _ (zq_ne h_o h_r (by simp)) (zq_ne h_o h_t (by simp))).trans h_o
              have h_g : M27 gA = some (cQ (K 4) 12 (fun i => some (ra i))) := (ho _ (zq_ne h_g h_r (by simp)) (zq_ne h_g h_t (by simp))).trans h_g
              have h_k : M27 kA = some (cQ (K 4) 12 (fun i => some (rb i))) := (ho _ (zq_ne h_k h_r (by simp)) (zq_ne h_k h_t (by simp))).trans h_k
              have h_o2 : M27 o2 = some (.inr (2, [.ref s2, .ref l2, .int (iI cnt)])) := (ho _ (zq_ne h_o2 h_r (by simp)) (zq_ne h_o2 h_t (by simp))).trans h_o2
              have h_s2 : M27 s2 = some (cI (K 0) 12 sg) := (ho _ (zq_ne h_s2 h_r (by simp)) (zq_ne h_s2 h_t (by simp))).trans h_s2
              have h_l2 : M27 l2 = some (cI (K 0) 48 lb) := (ho _ (zq_ne h_l2 h_r (by simp)) (zq_ne h_l2 h_t (by simp))).trans h_l2
              have h_o3 : M27 o3 = some (.inr (1, [.ref aA, .ref bA, .ref cA, .int (iI (4 * cnt)), .int (iI cc0)])) := (ho _ (zq_ne h_o3 h_r (by simp)) (zq_ne h_o3 h_t (by simp))).trans h_o3
              have h_a3 : M27 aA = some (cI (K 0) 48 al) := (ho _ (zq_ne h_a3 h_r (by simp)) (zq_ne h_a3 h_t (by simp))).trans h_a3
              have h_b3 : M27 bA = some (cI (K 0) 48 at0) := (ho _ (zq_ne h_b3 h_r (by simp)) (zq_ne h_b3 h_t (by simp))).trans h_b3
              have h_c3 : M27 cA = some (cI (K 0) 33 ls0) := (ho _ (Ne.symm (hrc i (by omega) (by omega)).1) (Ne.symm (hrc i (by omega) (by omega)).2)).trans h_c3
              have h_r : M27 (ra i) = some (cI (K 0) 33 (zu (zu (zu (fun _ => 0) (N (4 * i)) ((fun _ => 0) (N (4 * i)) + 0)) (N (4 * i + 2)) ((zu (fun _ => 0) (N (4 * i)) ((fun _ => 0) (N (4 * i)) + 0)) (N (4 * i + 2)) + (-1))) (N (4 * i + zup (sg i))) ((zu (zu (fun _ => 0) (N (4 * i)) ((fun _ => 0) (N (4 * i)) + 0)) (N (4 * i + 2)) ((zu (fun _ => 0) (N (4 * i)) ((fun _ => 0) (N (4 * i)) + 0)) (N (4 * i + 2)) + (-1))) (N (4 * i + zup (sg i))) + 1))) := hs1
              have h_t : M27 (rb i) = some (cI (K 0) 33 (zu (zu (zu (fun _ => 0) (N (4 * i)) ((fun _ => 0) (N (4 * i)) + 1)) (N (4 * i + 2)) ((zu (fun _ => 0) (N (4 * i)) ((fun _ => 0) (N (4 * i)) + 1)) (N (4 * i + 2)) + 0)) (N (4 * i + zup (sg i))) ((zu (zu (fun _ => 0) (N (4 * i)) ((fun _ => 0) (N (4 * i)) + 1)) (N (4 * i + 2)) ((zu (fun _ => 0) (N (4 * i)) ((fun _ => 0) (N (4 * i)) + 1)) (N (4 * i + 2)) + 0)) (N (4 * i + zup (sg i))) + (-1)))) := hs2
              have hfr : ∀ q, q ≠ o → (∀ i, 0 ≤ i → i < 12 → q ≠ ra i) → (∀ i, 0 ≤ i → i < 12 → q ≠ rb i) → M27 q = M q := fun q g0 g1 g2 => (ho q (g1 i (by omega) (by omega)) (g2 i (by omega) (by omega))).trans (hfr q g0 g1 g2)
              have hfb : ∀ q, q ≠ (ra i) → q ≠ (rb i) → M27 q = Mq q := fun q g0 g1 => (ho q g0 g1).trans (hfb q g0 g1)
              refine W.eq (g2 := F0 m 148 ls []) rfl ?_
              have he7a : ∀ k, 0 ≤ k → k < 12 → ra k ≠ rb i := fun k h1 h2 => he7 k i h1 h2 (by omega) (by omega)
              have he7b : ∀ k, 0 ≤ k → k < 12 → rb k ≠ ra i := fun k h1 h2 => Ne.symm (he7 i k (by omega) (by omega) h1 h2)
              have hrow1 : (zu (zu (zu (fun _ => 0) (N (4 * i)) ((fun _ => 0) (N (4 * i)) + 0)) (N (4 * i + 2)) ((zu (fun _ => 0) (N (4 * i)) ((fun _ => 0) (N (4 * i)) + 0)) (N (4 * i + 2)) + (-1))) (N (4 * i + zup (sg i))) ((zu (zu (fun _ => 0) (N (4 * i)) ((fun _ => 0) (N (4 * i)) + 0)) (N (4 * i + 2)) ((zu (fun _ => 0) (N (4 * i)) ((fun _ => 0) (N (4 * i)) + 0)) (N (4 * i + 2)) + (-1))) (N (4 * i + zup (sg i))) + 1)) = zrc sg N i := zrow_c (by simp [*]) (by simp [*])
              have hrow2 : (zu (zu (zu (fun _ => 0) (N (4 * i)) ((fun _ => 0) (N (4 * i)) + 1)) (N (4 * i + 2)) ((zu (fun _ => 0) (N (4 * i)) ((fun _ => 0) (N (4 * i)) + 1)) (N (4 * i + 2)) + 0)) (N (4 * i + zup (sg i))) ((zu (zu (fun _ => 0) (N (4 * i)) ((fun _ => 0) (N (4 * i)) + 1)) (N (4 * i + 2)) ((zu (fun _ => 0) (N (4 * i)) ((fun _ => 0) (N (4 * i)) + 1)) (N (4 * i + 2)) + 0)) (N (4 * i + zup (sg i))) + (-1))) = zrt sg N i := zrow_t (by simp [*]) (by simp [*])
              refine lv_iinc (v := iI (i + 1)) (lv' := [(3, .int (iI (i + 1))), (6, .int (iI 1)), (5, .int (iI (N (4 * i + 2)))), (4, .int (iI (N (4 * i)))), (0, .ref o), (1, .ref o2), (2, .ref o3)]) hx hb d_ET_read_148 hl (k := 6) rfl (iI_add _ _) (by decide) rfl (fun ls hl => ?_)
              refine lv_goto (tgt := 28) hx hb d_ET_read_151 (by decide) ?_
              exact ih_hL (i + 1) (zu F1 i (zu (zu (zu (fun _ => 0) (N (4 * i)) ((fun _ => 0) (N (4 * i)) + 0)) (N (4 * i + 2)) ((zu (fun _ => 0) (N (4 * i)) ((fun _ => 0) (N (4 * i)) + 0)) (N (4 * i + 2)) + (-1))) (N (4 * i + zup (sg i))) ((zu (zu (fun _ => 0) (N (4 * i)) ((fun _ => 0) (N (4 * i)) + 0)) (N (4 * i + 2)) ((zu (fun _ => 0) (N (4 * i)) ((fun _ => 0) (N (4 * i)) + 0)) (N (4 * i + 2)) + (-1))) (N (4 * i + zup (sg i))) + 1))) (zu G1 i (zu (zu (zu (fun _ => 0) (N (4 * i)) ((fun _ => 0) (N (4 * i)) + 1)) (N (4 * i + 2)) ((zu (fun _ => 0) (N (4 * i)) ((fun _ => 0) (N (4 * i)) + 1)) (N (4 * i + 2)) + 0)) (N (4 * i + zup (sg i))) ((zu (zu (fun _ => 0) (N (4 * i)) ((fun _ => 0) (N (4 * i)) + 1)) (N (4 * i + 2)) ((zu (fun _ => 0) (N (4 * i)) ((fun _ => 0) (N (4 * i)) + 1)) (N (4 * i + 2)) + 0)) (N (4 * i + zup (sg i))) + (-1)))) M27 _ _ _ (by omega) (zG_row hF h_r hY2 hfb (by omega) (by omega) he7a) (zG_row hG h_t hY1 (fun q g0 g1 => hfb q g1 g0) (by omega) (by omega) he7b) (zrw_step hF1 (by omega) hrow1) (zrw_step hG1q (by omega) hrow2) (by omega) hfr h_o h_g h_k h_o2 h_s2 h_l2 h_o3 h_a3 h_b3 h_c3 hw (lv_sub hl [4, 5, 6, 0] rfl)
  have hfr0 : ∀ q, q ≠ o → M q = M q := fun q _ => rfl
  refine lv_aload_n hx hb d_ET_read_0 rfl (lv_at hl 0 rfl) ?_
  refine lv_aload_n hx hb d_ET_read_1 rfl (lv_at hl 1 rfl) ?_
  refine zq_callV (As := []) (rest := [.ref o]) ⟨hx, hb, hml, hown, hts⟩ (c_CR_size l D K M o2 s2 l2 cnt sg lb  h_o2 h_s2 h_l2 hC ) (cwV 0 hts (zg_V tw_345 tw_322 tw_323 tw_2 tw_324) rfl rfl rfl (by decide +kernel) ⟨Nat.le_of_ble_eq_true rfl, Nat.le_of_ble_eq_true rfl⟩) hZ hw hA h_o2 rfl rfl rfl rfl hl.1 (Nat.le_of_ble_eq_true rfl) d_ET_read_2 ⟨Nat.le_of_ble_eq_true rfl, Nat.le_of_ble_eq_true rfl⟩ (fun v M28 H locs hp hw => ?_)
  obtain ⟨rfl, hMe⟩ := hp
  rw [hMe] at hw
  refine W.eq (g2 := F0 m 5 ls [.int (iI cnt), .ref o]) rfl ?_
  refine lv_bipush (v := iI 12) hx hb d_ET_read_5 (by decide) ?_
  refine zq_min hx hb (hml.trans hl.1.symm) hown (hts _ tw_346) (hts _ tw_241) (hts _ tw_11) (hts _ tw_242) (Nat.le_of_ble_eq_true rfl) (Nat.le_of_ble_eq_true rfl) (Nat.zero_le _) (Nat.zero_le _) ⟨by omega, by omega⟩ (by decide) d_ET_read_7 ?_
  rw [show (min cnt 12 : Int) = cnt from (by omega)]
  refine zq_put (ci := 5) (v := .int (iI cnt)) (ty := .int) hx hb hts i_ET t_ET t_ET_ok n_ET hown hK hw h_o rfl 2 (by decide) (hts _ tw_91) rfl (by decide +kernel) rfl rfl (Nat.le_of_ble_eq_true rfl) d_ET_read_10 (fun M29 H locs hs ho hw => ?_)
  have h_g : M29 gA = some (cQ (K 4) 12 (fun i => some (ra i))) := (ho _ (zq_ne h_g h_o (by simp))).trans h_g
  have h_k : M29 kA = some (cQ (K 4) 12 (fun i => some (rb i))) := (ho _ (zq_ne h_k h_o (by simp))).trans h_k
  have h_o2 : M29 o2 = some (.inr (2, [.ref s2, .ref l2, .int (iI cnt)])) := (ho _ (zq_ne h_o2 h_o (by simp))).trans h_o2
  have h_s2 : M29 s2 = some (cI (K 0) 12 sg) := (ho _ (zq_ne h_s2 h_o (by simp))).trans h_s2
  have h_l2 : M29 l2 = some (cI (K 0) 48 lb) := (ho _ (zq_ne h_l2 h_o (by simp))).trans h_l2
  have h_o3 : M29 o3 = some (.inr (1, [.ref aA, .ref bA, .ref cA, .int (iI (4 * cnt)), .int (iI cc0)])) := (ho _ (zq_ne h_o3 h_o (by simp))).trans h_o3
  have h_a3 : M29 aA = some (cI (K 0) 48 al) := (ho _ (zq_ne h_a3 h_o (by simp))).trans h_a3
  have h_b3 : M29 bA = some (cI (K 0) 48 at0) := (ho _ (zq_ne h_b3 h_o (by simp))).trans h_b3
  have h_c3 : M29 cA = some (cI (K 0) 33 ls0) := (ho _ (zq_ne h_c3 h_o (by simp))).trans h_c3
  have h_o : M29 o = some (.inr (5, [.ref gA, .ref kA, .int (iI cnt), .int (iI co0)])) := hs
  have hfr : ∀ q, q ≠ o → (∀ i, 0 ≤ i → i < 12 → q ≠ ra i) → (∀ i, 0 ≤ i → i < 12 → q ≠ rb i) → M29 q = M q := fun q g0 g1 g2 => (ho q g0).trans (hfr q g0 g1 g2)
  have hfr0 : ∀ q, q ≠ o → M29 q = M q := fun q g0 => (ho q g0).trans (hfr0 q g0)
  refine lv_aload_n hx hb d_ET_read_13 rfl (lv_at hl 0 rfl) ?_
  refine lv_aload_n hx hb d_ET_read_14 rfl (lv_at hl 2 rfl) ?_
  refine zq_callV (As := []) (rest := [.ref o]) ⟨hx, hb, hml, hown, hts⟩ (c_AL_size l D K M29 o3 aA bA cA (4 * cnt) cc0 al at0 ls0  h_o3 h_a3 h_b3 h_c3 hab hA0) (cwV 0 hts (zg_V tw_347 tw_348 tw_349 tw_4 tw_350) rfl rfl rfl (by decide +kernel) ⟨Nat.le_of_ble_eq_true rfl, Nat.le_of_ble_eq_true rfl⟩) hZ hw hA h_o3 rfl rfl rfl rfl hl.1 (Nat.le_of_ble_eq_true rfl) d_ET_read_15 ⟨Nat.le_of_ble_eq_true rfl, Nat.le_of_ble_eq_true rfl⟩ (fun v M30 H locs hp hw => ?_)
  obtain ⟨rfl, hMe⟩ := hp
  rw [hMe] at hw
  refine W.eq (g2 := F0 m 18 ls [.int (iI cc0), .ref o]) rfl ?_
  refine lv_bipush (v := iI 33) hx hb d_ET_read_18 (by decide) ?_
  refine zq_min hx hb (hml.trans hl.1.symm) hown (hts _ tw_346) (hts _ tw_241) (hts _ tw_11) (hts _ tw_242) (Nat.le_of_ble_eq_true rfl) (Nat.le_of_ble_eq_true rfl) (Nat.zero_le _) (Nat.zero_le _) ⟨by omega, by omega⟩ (by decide) d_ET_read_20 ?_
  rw [show (min cc0 33 : Int) = cc0 from (by omega)]
  refine zq_put (ci := 5) (v := .int (iI cc0)) (ty := .int) hx hb hts i_ET t_ET t_ET_ok n_ET hown hK hw h_o rfl 3 (by decide) (hts _ tw_92) rfl (by decide +kernel) rfl rfl (Nat.le_of_ble_eq_true rfl) d_ET_read_23 (fun M31 H locs hs ho hw => ?_)
  have h_g : M31 gA = some (cQ (K 4) 12 (fun i => some (ra i))) := (ho _ (zq_ne h_g h_o (by simp))).trans h_g
  have h_k : M31 kA = some (cQ (K 4) 12 (fun i => some (rb i))) := (ho _ (zq_ne h_k h_o (by simp))).trans h_k
  have h_o2 : M31 o2 = some (.inr (2, [.ref s2, .ref l2, .int (iI cnt)])) := (ho _ (zq_ne h_o2 h_o (by simp))).trans h_o2
  have h_s2 : M31 s2 = some (cI (K 0) 12 sg) := (ho _ (zq_ne h_s2 h_o (by simp))).trans h_s2
  have h_l2 : M31 l2 = some (cI (K 0) 48 lb) := (ho _ (zq_ne h_l2 h_o (by simp))).trans h_l2
  have h_o3 : M31 o3 = some (.inr (1, [.ref aA, .ref bA, .ref cA, .int (iI (4 * cnt)), .int (iI cc0)])) := (ho _ (zq_ne h_o3 h_o (by simp))).trans h_o3
  have h_a3 : M31 aA = some (cI (K 0) 48 al) := (ho _ (zq_ne h_a3 h_o (by simp))).trans h_a3
  have h_b3 : M31 bA = some (cI (K 0) 48 at0) := (ho _ (zq_ne h_b3 h_o (by simp))).trans h_b3
  have h_c3 : M31 cA = some (cI (K 0) 33 ls0) := (ho _ (zq_ne h_c3 h_o (by simp))).trans h_c3
  have h_o : M31 o = some (.inr (5, [.ref gA, .ref kA, .int (iI cnt), .int (iI cc0)])) := hs
  have hfr : ∀ q, q ≠ o → (∀ i, 0 ≤ i → i < 12 → q ≠ ra i) → (∀ i, 0 ≤ i → i < 12 → q ≠ rb i) → M31 q = M q := fun q g0 g1 g2 => (ho q g0).trans (hfr q g0 g1 g2)
  have hfr0 : ∀ q, q ≠ o → M31 q = M q := fun q g0 => (ho q g0).trans (hfr0 q g0)
  have h_o9 := h_o
  refine lv_iconst (v := iI 0) hx hb d_ET_read_26 rfl ?_
  refine lv_istore_n (lv' := [(3, .int (iI 0)), (0, .ref o), (1, .ref o2), (2, .ref o3)]) hx hb d_ET_read_27 rfl hl (by decide) rfl (fun ls hl => ?_)
  exact hL _ 0 F G M31 _ _ _ (by omega) (zG_keep hG1 hO0 hfr0) (zG_keep hG2 hO0 hfr0) (fun k => by rw [if_neg (by omega)]) (fun k => by rw [if_neg (by omega)]) (Nat.lt_succ_self _) hfr h_o h_g h_k h_o2 h_s2 h_l2 h_o3 h_a3 h_b3 h_c3 hw (lv_sub hl [1, 2, 3, 0] rfl)
